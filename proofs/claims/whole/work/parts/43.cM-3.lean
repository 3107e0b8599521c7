def rmX10_atMost : Room := { frames := 0, cells := 0, slots := 0, locals := 0 }
abbrev wqX10_atMost : List Cond := Cond.code yX10_atMost cX10_atMost 3 none :: tG
set_option maxHeartbeats 4000000 in
set_option maxRecDepth 100000 in
theorem c_X10_atMost (l : Launch) (dC : Nat → ClassId) (dI : Nat → Nat → Nat) (cI cZ : ClassId) (te : Nat → Nat) (h_t : Nat) (h_t_book : Nat) (h_t_images : Nat) (h_t_kept : Nat) (h_t_aside : Nat) (h_t_far : Nat) (h_t_then : Nat) (h_t_row : Nat) (h_t_mays : Nat) (h_t_firstRow : Nat) (h_t_low : Nat) (h_t_high : Nat) (h_t_lowOne : Nat) (h_t_highOne : Nat) (h_t_ways : Nat) (h_t_left : Nat) (h_t_text : Nat) (h_t_verbs : Nat) (h_t_nums : Nat) (t_noOlder : Int32) (t_thanThis : Int32) (t_known : Int32) (t_knownAge : Int32) (t_moved : Int32) (t_met : Int32) (t_hours : Int32) (t_greatest : Int32) (t_typed : Int32) (t_at : Int32) (t_start : Int32) (t_token : Int32) (t_value : Int32) (t_items : Int32) (t_high : Nat → Int32) (p1 : Int32) (p2 : Int32) (o0 : Int32) (o1 : Nat → Int32) (hf : f_X10_atMost t_moved t_high p1 p2 = some (o0, o1)) : CM l yX10_atMost wqX10_atMost rmX10_atMost (kS te) dC dI cI cZ [.ref h_t, .int p1, .int p2] [(h_t, .inr (8, fX10 h_t_book h_t_images h_t_kept h_t_aside h_t_far h_t_then h_t_row h_t_mays h_t_firstRow h_t_low h_t_high t_noOlder t_thanThis t_known t_knownAge t_moved h_t_lowOne h_t_highOne h_t_ways t_met h_t_left t_hours t_greatest h_t_text t_typed t_at t_start t_token t_value h_t_verbs h_t_nums t_items)), (h_t_high, .inl (cI, 8, .inl t_high))] [(h_t, .inr (8, fX10 h_t_book h_t_images h_t_kept h_t_aside h_t_far h_t_then h_t_row h_t_mays h_t_firstRow h_t_low h_t_high t_noOlder t_thanThis t_known t_knownAge o0 h_t_lowOne h_t_highOne h_t_ways t_met h_t_left t_hours t_greatest h_t_text t_typed t_at t_start t_token t_value h_t_verbs h_t_nums t_items)), (h_t_high, .inl (cI, 8, .inl o1))] none := by
  refine CM_of (cc := cX10_atMost) (maxL := 3) (ret := none) (by decide +kernel) rfl (Nat.le_of_ble_eq_true rfl) ?_
  intro p e s m args below meth c A Q hx hb hr hml hown hts hlocks hA hK hP hD hS hE hQ hAe ls hl
  have hown : s.vm.findClass RX10 = some m.cls := hown
  have hl : lv_has ls 3 [(0, .ref h_t), (1, .int p1), (2, .int p2)] := hl
  unfold f_X10_atMost at hf
  refine lv_aload_n hx hb dX10_atMost_0 rfl (lv_at hl 0 rfl) ?_
  refine lv_aload_n hx hb dX10_atMost_1 rfl (lv_at hl 0 rfl) ?_
  refine va_get (D := (dC, dI)) (ci := 8) (v := .int t_moved) (C := RX10) (T := TX10) (N := 32) hx hb hts (in1 tw_X10) hown hK hP 0 rfl rfl 15 (by decide) (hts _ (List.mem_cons_of_mem _ kw_234)) (fun _ h9 => h9) rfl dX10_atMost_2 ?_
  obtain ⟨x1, hg, hf⟩ := bd1_some hf
  have J2 : ∀ (H : Heap) (locs : List Loc), va_P (dC, dI) vwCl [(h_t, .inr (8, fX10 h_t_book h_t_images h_t_kept h_t_aside h_t_far h_t_then h_t_row h_t_mays h_t_firstRow h_t_low h_t_high t_noOlder t_thanThis t_known t_knownAge t_moved h_t_lowOne h_t_highOne h_t_ways t_met h_t_left t_hours t_greatest h_t_text t_typed t_at t_start t_token t_value h_t_verbs h_t_nums t_items)), (h_t_high, .inl (cI, 8, .inl t_high))] H → va_D A [(h_t, .inr (8, fX10 h_t_book h_t_images h_t_kept h_t_aside h_t_far h_t_then h_t_row h_t_mays h_t_firstRow h_t_low h_t_high t_noOlder t_thanThis t_known t_knownAge t_moved h_t_lowOne h_t_highOne h_t_ways t_met h_t_left t_hours t_greatest h_t_text t_typed t_at t_start t_token t_value h_t_verbs h_t_nums t_items)), (h_t_high, .inl (cI, 8, .inl t_high))] → va_S A s.heap H locs → ∀ ls : Array Slot, lv_has ls 3 [(0, .ref h_t), (1, .int p1), (2, .int p2)] → W p l e rmX10_atMost s m args below meth c H locs 0 0 Q (F0 m 23 ls [.int x1, .ref h_t]) := by
    intro H locs hP hD hS ls hl
    obtain ⟨g3, hf⟩ := chk_some hf
    refine va_put (D := (dC, dI)) (ci := 8) (v := .int x1) (ty := tyX10 15) (C := RX10) (T := TX10) (N := 32) hx hb hts (in1 tw_X10) tyX10 tyX10_ok nmX10 hown hK hP hD hS 0 rfl rfl 15 (by decide) (hts _ (List.mem_cons_of_mem _ kw_234)) (fun _ h9 => h9) rfl (tyX10_ok 15 (by decide)) (gz_n g3) (gz_f g3) (Nat.le_of_ble_eq_true rfl) dX10_atMost_23 (fun H locs hP hD hS => ?_)
    have hP : va_P (dC, dI) vwCl [(h_t, .inr (8, fX10 h_t_book h_t_images h_t_kept h_t_aside h_t_far h_t_then h_t_row h_t_mays h_t_firstRow h_t_low h_t_high t_noOlder t_thanThis t_known t_knownAge x1 h_t_lowOne h_t_highOne h_t_ways t_met h_t_left t_hours t_greatest h_t_text t_typed t_at t_start t_token t_value h_t_verbs h_t_nums t_items)), (h_t_high, .inl (cI, 8, .inl t_high))] H := hP
    have hD : va_D A [(h_t, .inr (8, fX10 h_t_book h_t_images h_t_kept h_t_aside h_t_far h_t_then h_t_row h_t_mays h_t_firstRow h_t_low h_t_high t_noOlder t_thanThis t_known t_knownAge x1 h_t_lowOne h_t_highOne h_t_ways t_met h_t_left t_hours t_greatest h_t_text t_typed t_at t_start t_token t_value h_t_verbs h_t_nums t_items)), (h_t_high, .inl (cI, 8, .inl t_high))] := hD
    refine lv_aload_n hx hb dX10_atMost_26 rfl (lv_at hl 0 rfl) ?_
    refine va_get (D := (dC, dI)) (ci := 8) (v := .ref h_t_high) (C := RX10) (T := TX10) (N := 32) hx hb hts (in1 tw_X10) hown hK hP 0 rfl rfl 10 (by decide) (hts _ (List.mem_cons_of_mem _ kw_127)) (fun _ h9 => h9) rfl dX10_atMost_27 ?_
    refine lv_iload_n hx hb dX10_atMost_30 rfl (lv_at hl 1 rfl) ?_
    refine lv_iload_n hx hb dX10_atMost_31 rfl (lv_at hl 2 rfl) ?_
    refine lv_aload_n hx hb dX10_atMost_32 rfl (lv_at hl 0 rfl) ?_
    refine va_get (D := (dC, dI)) (ci := 8) (v := .ref h_t_high) (C := RX10) (T := TX10) (N := 32) hx hb hts (in1 tw_X10) hown hK hP 0 rfl rfl 10 (by decide) (hts _ (List.mem_cons_of_mem _ kw_127)) (fun _ h9 => h9) rfl dX10_atMost_33 ?_
    refine lv_iload_n hx hb dX10_atMost_36 rfl (lv_at hl 1 rfl) ?_
    obtain ⟨g4, hf⟩ := chk_some hf
    refine va_iald hx hb hK hP 1 0 rfl rfl (gin_in g4) dX10_atMost_37 ?_
    obtain ⟨x5, hg, hf⟩ := bd1_some hf
    have J6 : ∀ (H : Heap) (locs : List Loc), va_P (dC, dI) vwCl [(h_t, .inr (8, fX10 h_t_book h_t_images h_t_kept h_t_aside h_t_far h_t_then h_t_row h_t_mays h_t_firstRow h_t_low h_t_high t_noOlder t_thanThis t_known t_knownAge x1 h_t_lowOne h_t_highOne h_t_ways t_met h_t_left t_hours t_greatest h_t_text t_typed t_at t_start t_token t_value h_t_verbs h_t_nums t_items)), (h_t_high, .inl (cI, 8, .inl t_high))] H → va_D A [(h_t, .inr (8, fX10 h_t_book h_t_images h_t_kept h_t_aside h_t_far h_t_then h_t_row h_t_mays h_t_firstRow h_t_low h_t_high t_noOlder t_thanThis t_known t_knownAge x1 h_t_lowOne h_t_highOne h_t_ways t_met h_t_left t_hours t_greatest h_t_text t_typed t_at t_start t_token t_value h_t_verbs h_t_nums t_items)), (h_t_high, .inl (cI, 8, .inl t_high))] → va_S A s.heap H locs → ∀ ls : Array Slot, lv_has ls 3 [] → W p l e rmX10_atMost s m args below meth c H locs 0 0 Q (F0 m 51 ls [.int x5, .int p1, .ref h_t_high]) := by
      intro H locs hP hD hS ls hl
      obtain ⟨g7, hf⟩ := chk_some hf
      obtain ⟨y8, e9, hf⟩ := nm_some hf
      refine va_iast hx hb hK hP hD hS 1 0 rfl rfl (gin_in g7) dX10_atMost_51 (fun H locs hP hD hS => ?_)
      have hP : va_P (dC, dI) vwCl [(h_t, .inr (8, fX10 h_t_book h_t_images h_t_kept h_t_aside h_t_far h_t_then h_t_row h_t_mays h_t_firstRow h_t_low h_t_high t_noOlder t_thanThis t_known t_knownAge x1 h_t_lowOne h_t_highOne h_t_ways t_met h_t_left t_hours t_greatest h_t_text t_typed t_at t_start t_token t_value h_t_verbs h_t_nums t_items)), (h_t_high, .inl (cI, 8, .inl y8))] H := by rw [e9]; exact hP
      have hD : va_D A [(h_t, .inr (8, fX10 h_t_book h_t_images h_t_kept h_t_aside h_t_far h_t_then h_t_row h_t_mays h_t_firstRow h_t_low h_t_high t_noOlder t_thanThis t_known t_knownAge x1 h_t_lowOne h_t_highOne h_t_ways t_met h_t_left t_hours t_greatest h_t_text t_typed t_at t_start t_token t_value h_t_verbs h_t_nums t_items)), (h_t_high, .inl (cI, 8, .inl y8))] := by rw [e9]; exact hD
      obtain ⟨rfl, rfl⟩ := inj2 hf
      subst hQ
      exact CM_vret hx hb hr hlocks hAe hP hD hS dX10_atMost_52
    clear hf
    have hf := hg
    refine lv_icmp_ge (tgt := 45) hx hb dX10_atMost_38 (by decide) (fun c10 => ?_) (fun c10 => ?_)
    · replace hf := ifp c10 hf
      refine lv_aload_n hx hb dX10_atMost_45 rfl (lv_at hl 0 rfl) ?_
      refine va_get (D := (dC, dI)) (ci := 8) (v := .ref h_t_high) (C := RX10) (T := TX10) (N := 32) hx hb hts (in1 tw_X10) hown hK hP 0 rfl rfl 10 (by decide) (hts _ (List.mem_cons_of_mem _ kw_127)) (fun _ h9 => h9) rfl dX10_atMost_46 ?_
      refine lv_iload_n hx hb dX10_atMost_49 rfl (lv_at hl 1 rfl) ?_
      obtain ⟨g11, hf⟩ := chk_some hf
      refine va_iald hx hb hK hP 1 0 rfl rfl (gin_in g11) dX10_atMost_50 ?_
      obtain rfl := inj1 hf
      exact J6 _ _ hP hD hS _ (lv_sub hl [] rfl)
    · replace hf := ifn c10 hf
      refine lv_iload_n hx hb dX10_atMost_41 rfl (lv_at hl 2 rfl) ?_
      refine lv_goto (tgt := 51) hx hb dX10_atMost_42 (by decide) ?_
      obtain rfl := inj1 hf
      exact J6 _ _ hP hD hS _ (lv_sub hl [] rfl)
  clear hf
  have hf := hg
  refine lv_if_ne (tgt := 18) hx hb dX10_atMost_5 (by decide) (fun c12 => ?_) (fun c12 => ?_)
  · replace hf := ifn c12 hf
    refine lv_iconst (v := (1 : Int32)) hx hb dX10_atMost_18 (by decide) ?_
    refine lv_goto (tgt := 23) hx hb dX10_atMost_19 (by decide) ?_
    obtain rfl := inj1 hf
    exact J2 _ _ hP hD hS _ (lv_sub hl [0, 1, 2] rfl)
  · replace hf := ifp c12 hf
    refine lv_iload_n hx hb dX10_atMost_8 rfl (lv_at hl 2 rfl) ?_
    refine lv_aload_n hx hb dX10_atMost_9 rfl (lv_at hl 0 rfl) ?_
    refine va_get (D := (dC, dI)) (ci := 8) (v := .ref h_t_high) (C := RX10) (T := TX10) (N := 32) hx hb hts (in1 tw_X10) hown hK hP 0 rfl rfl 10 (by decide) (hts _ (List.mem_cons_of_mem _ kw_127)) (fun _ h9 => h9) rfl dX10_atMost_10 ?_
    refine lv_iload_n hx hb dX10_atMost_13 rfl (lv_at hl 1 rfl) ?_
    obtain ⟨g13, hf⟩ := chk_some hf
    refine va_iald hx hb hK hP 1 0 rfl rfl (gin_in g13) dX10_atMost_14 ?_
    refine lv_icmp_ge (tgt := 22) hx hb dX10_atMost_15 (by decide) (fun c14 => ?_) (fun c14 => ?_)
    · replace hf := ifp c14 hf
      refine lv_iconst (v := (0 : Int32)) hx hb dX10_atMost_22 (by decide) ?_
      obtain rfl := inj1 hf
      exact J2 _ _ hP hD hS _ (lv_sub hl [0, 1, 2] rfl)
    · replace hf := ifn c14 hf
      refine lv_iconst (v := (1 : Int32)) hx hb dX10_atMost_18 (by decide) ?_
      refine lv_goto (tgt := 23) hx hb dX10_atMost_19 (by decide) ?_
      obtain rfl := inj1 hf
      exact J2 _ _ hP hD hS _ (lv_sub hl [0, 1, 2] rfl)
def rmX10_bears : Room := { frames := 1, cells := 0, slots := 0, locals := 22 }
abbrev wqX10_bears : List Cond := Cond.code yX10_bears cX10_bears 4 none :: tG
set_option maxHeartbeats 4000000 in
set_option maxRecDepth 100000 in
theorem c_X10_bears (l : Launch) (dC : Nat → ClassId) (dI : Nat → Nat → Nat) (cI cZ : ClassId) (te : Nat → Nat) (h_t : Nat) (h_t_book : Nat) (h_t_images : Nat) (h_t_kept : Nat) (h_t_aside : Nat) (h_t_far : Nat) (h_t_then : Nat) (h_t_row : Nat) (h_t_mays : Nat) (h_t_firstRow : Nat) (h_t_low : Nat) (h_t_high : Nat) (h_t_lowOne : Nat) (h_t_highOne : Nat) (h_t_ways : Nat) (h_t_left : Nat) (h_t_text : Nat) (h_t_verbs : Nat) (h_t_nums : Nat) (t_noOlder : Int32) (t_thanThis : Int32) (t_known : Int32) (t_knownAge : Int32) (t_moved : Int32) (t_met : Int32) (t_hours : Int32) (t_greatest : Int32) (t_typed : Int32) (t_at : Int32) (t_start : Int32) (t_token : Int32) (t_value : Int32) (t_items : Int32) (t_book : Nat → Int32) (t_low : Nat → Int32) (t_high : Nat → Int32) (p1 : Int32) (o0 : Int32) (o1 : Nat → Int32) (o2 : Nat → Int32) (hf : f_X10_bears t_moved t_book t_low t_high p1 = some (o0, o1, o2)) : CM l yX10_bears wqX10_bears rmX10_bears (kS te) dC dI cI cZ [.ref h_t, .int p1] [(h_t, .inr (8, fX10 h_t_book h_t_images h_t_kept h_t_aside h_t_far h_t_then h_t_row h_t_mays h_t_firstRow h_t_low h_t_high t_noOlder t_thanThis t_known t_knownAge t_moved h_t_lowOne h_t_highOne h_t_ways t_met h_t_left t_hours t_greatest h_t_text t_typed t_at t_start t_token t_value h_t_verbs h_t_nums t_items)), (h_t_book, .inl (cI, 460, .inl t_book)), (h_t_low, .inl (cI, 8, .inl t_low)), (h_t_high, .inl (cI, 8, .inl t_high))] [(h_t, .inr (8, fX10 h_t_book h_t_images h_t_kept h_t_aside h_t_far h_t_then h_t_row h_t_mays h_t_firstRow h_t_low h_t_high t_noOlder t_thanThis t_known t_knownAge o0 h_t_lowOne h_t_highOne h_t_ways t_met h_t_left t_hours t_greatest h_t_text t_typed t_at t_start t_token t_value h_t_verbs h_t_nums t_items)), (h_t_book, .inl (cI, 460, .inl t_book)), (h_t_low, .inl (cI, 8, .inl o1)), (h_t_high, .inl (cI, 8, .inl o2))] none := by
  refine CM_of (cc := cX10_bears) (maxL := 4) (ret := none) (by decide +kernel) rfl (Nat.le_of_ble_eq_true rfl) ?_
  intro p e s m args below meth c A Q hx hb hr hml hown hts hlocks hA hK hP hD hS hE hQ hAe ls hl
  have hown : s.vm.findClass RX10 = some m.cls := hown
  have hl : lv_has ls 4 [(0, .ref h_t), (1, .int p1)] := hl
  unfold f_X10_bears at hf
  refine lv_aload_n hx hb dX10_bears_0 rfl (lv_at hl 0 rfl) ?_
  refine lv_iload_n hx hb dX10_bears_1 rfl (lv_at hl 1 rfl) ?_
  refine lv_iconst (v := (2 : Int32)) hx hb dX10_bears_2 (by decide) ?_
  obtain ⟨r1, hg2, hf⟩ := bd1_some hf
  refine CM_callV (C := RX10) (As := [.int p1, .int (2 : Int32)]) (rest := []) (wc := [(h_t, .inr (8, fX10 h_t_book h_t_images h_t_kept h_t_aside h_t_far h_t_then h_t_row h_t_mays h_t_firstRow h_t_low h_t_high t_noOlder t_thanThis t_known t_knownAge t_moved h_t_lowOne h_t_highOne h_t_ways t_met h_t_left t_hours t_greatest h_t_text t_typed t_at t_start t_token t_value h_t_verbs h_t_nums t_items)), (h_t_book, .inl (cI, 460, .inl t_book))]) (w1 := [(h_t, .inr (8, fX10 h_t_book h_t_images h_t_kept h_t_aside h_t_far h_t_then h_t_row h_t_mays h_t_firstRow h_t_low h_t_high t_noOlder t_thanThis t_known t_knownAge t_moved h_t_lowOne h_t_highOne h_t_ways t_met h_t_left t_hours t_greatest h_t_text t_typed t_at t_start t_token t_value h_t_verbs h_t_nums t_items)), (h_t_book, .inl (cI, 460, .inl t_book))]) (wr := [(h_t_low, .inl (cI, 8, .inl t_low)), (h_t_high, .inl (cI, 8, .inl t_high))]) (wo := [(h_t, .inr (8, fX10 h_t_book h_t_images h_t_kept h_t_aside h_t_far h_t_then h_t_row h_t_mays h_t_firstRow h_t_low h_t_high t_noOlder t_thanThis t_known t_knownAge t_moved h_t_lowOne h_t_highOne h_t_ways t_met h_t_left t_hours t_greatest h_t_text t_typed t_at t_start t_token t_value h_t_verbs h_t_nums t_items)), (h_t_book, .inl (cI, 460, .inl t_book)), (h_t_low, .inl (cI, 8, .inl t_low)), (h_t_high, .inl (cI, 8, .inl t_high))]) (v := (some (.int r1))) ⟨hx, hb, hml, hown, hts⟩ (c_X10_factAt l dC dI cI cZ te h_t h_t_book h_t_images h_t_kept h_t_aside h_t_far h_t_then h_t_row h_t_mays h_t_firstRow h_t_low h_t_high h_t_lowOne h_t_highOne h_t_ways h_t_left h_t_text h_t_verbs h_t_nums t_noOlder t_thanThis t_known t_knownAge t_moved t_met t_hours t_greatest t_typed t_at t_start t_token t_value t_items t_book p1 (2 : Int32) r1 hg2) (cwV 2 hts (gV kw_235 kw_236 kw_237 kw_159 kw_238) rfl rfl rfl (by decide +kernel) ⟨Nat.le_of_ble_eq_true rfl, Nat.le_of_ble_eq_true rfl⟩) (kS_env te) hK hP hD hS hA hE [0, 1] [2, 3] [2, 3, 0, 1] rfl rfl (by decide) (by decide) (by decide) (by decide) rfl 0 8 rfl rfl rfl rfl hl.1 rfl (Nat.le_of_ble_eq_true rfl) dX10_bears_3 ⟨Nat.zero_le _, Nat.zero_le _⟩ (fun H locs hP hD hS => ?_)
  show W p l e rmX10_bears s m args below meth c H locs 0 0 Q (F0 m 6 ls [.int r1])
  refine lv_istore_n (lv' := [(2, .int r1), (0, .ref h_t), (1, .int p1)]) hx hb dX10_bears_6 rfl hl (by decide) rfl (fun ls hl => ?_)
  refine lv_aload_n hx hb dX10_bears_7 rfl (lv_at hl 1 rfl) ?_
  refine lv_iload_n hx hb dX10_bears_8 rfl (lv_at hl 2 rfl) ?_
  refine lv_iconst (v := (3 : Int32)) hx hb dX10_bears_9 (by decide) ?_
  obtain ⟨r3, hg4, hf⟩ := bd1_some hf
  refine CM_callV (C := RX10) (As := [.int p1, .int (3 : Int32)]) (rest := []) (wc := [(h_t, .inr (8, fX10 h_t_book h_t_images h_t_kept h_t_aside h_t_far h_t_then h_t_row h_t_mays h_t_firstRow h_t_low h_t_high t_noOlder t_thanThis t_known t_knownAge t_moved h_t_lowOne h_t_highOne h_t_ways t_met h_t_left t_hours t_greatest h_t_text t_typed t_at t_start t_token t_value h_t_verbs h_t_nums t_items)), (h_t_book, .inl (cI, 460, .inl t_book))]) (w1 := [(h_t, .inr (8, fX10 h_t_book h_t_images h_t_kept h_t_aside h_t_far h_t_then h_t_row h_t_mays h_t_firstRow h_t_low h_t_high t_noOlder t_thanThis t_known t_knownAge t_moved h_t_lowOne h_t_highOne h_t_ways t_met h_t_left t_hours t_greatest h_t_text t_typed t_at t_start t_token t_value h_t_verbs h_t_nums t_items)), (h_t_book, .inl (cI, 460, .inl t_book))]) (wr := [(h_t_low, .inl (cI, 8, .inl t_low)), (h_t_high, .inl (cI, 8, .inl t_high))]) (wo := [(h_t, .inr (8, fX10 h_t_book h_t_images h_t_kept h_t_aside h_t_far h_t_then h_t_row h_t_mays h_t_firstRow h_t_low h_t_high t_noOlder t_thanThis t_known t_knownAge t_moved h_t_lowOne h_t_highOne h_t_ways t_met h_t_left t_hours t_greatest h_t_text t_typed t_at t_start t_token t_value h_t_verbs h_t_nums t_items)), (h_t_book, .inl (cI, 460, .inl t_book)), (h_t_low, .inl (cI, 8, .inl t_low)), (h_t_high, .inl (cI, 8, .inl t_high))]) (v := (some (.int r3))) ⟨hx, hb, hml, hown, hts⟩ (c_X10_factAt l dC dI cI cZ te h_t h_t_book h_t_images h_t_kept h_t_aside h_t_far h_t_then h_t_row h_t_mays h_t_firstRow h_t_low h_t_high h_t_lowOne h_t_highOne h_t_ways h_t_left h_t_text h_t_verbs h_t_nums t_noOlder t_thanThis t_known t_knownAge t_moved t_met t_hours t_greatest t_typed t_at t_start t_token t_value t_items t_book p1 (3 : Int32) r3 hg4) (cwV 2 hts (gV kw_235 kw_236 kw_237 kw_159 kw_238) rfl rfl rfl (by decide +kernel) ⟨Nat.le_of_ble_eq_true rfl, Nat.le_of_ble_eq_true rfl⟩) (kS_env te) hK hP hD hS hA hE [0, 1] [2, 3] [2, 3, 0, 1] rfl rfl (by decide) (by decide) (by decide) (by decide) rfl 0 8 rfl rfl rfl rfl hl.1 rfl (Nat.le_of_ble_eq_true rfl) dX10_bears_10 ⟨Nat.zero_le _, Nat.zero_le _⟩ (fun H locs hP hD hS => ?_)
  show W p l e rmX10_bears s m args below meth c H locs 0 0 Q (F0 m 13 ls [.int r3])
  refine lv_istore_n (lv' := [(3, .int r3), (2, .int r1), (0, .ref h_t), (1, .int p1)]) hx hb dX10_bears_13 rfl hl (by decide) rfl (fun ls hl => ?_)
  refine lv_aload_n hx hb dX10_bears_14 rfl (lv_at hl 2 rfl) ?_
  refine lv_iload_n hx hb dX10_bears_15 rfl (lv_at hl 3 rfl) ?_
  refine lv_iconst (v := (1 : Int32)) hx hb dX10_bears_16 (by decide) ?_
  obtain ⟨r5, hg6, hf⟩ := bd1_some hf
  refine CM_callV (C := RX10) (As := [.int p1, .int (1 : Int32)]) (rest := []) (wc := [(h_t, .inr (8, fX10 h_t_book h_t_images h_t_kept h_t_aside h_t_far h_t_then h_t_row h_t_mays h_t_firstRow h_t_low h_t_high t_noOlder t_thanThis t_known t_knownAge t_moved h_t_lowOne h_t_highOne h_t_ways t_met h_t_left t_hours t_greatest h_t_text t_typed t_at t_start t_token t_value h_t_verbs h_t_nums t_items)), (h_t_book, .inl (cI, 460, .inl t_book))]) (w1 := [(h_t, .inr (8, fX10 h_t_book h_t_images h_t_kept h_t_aside h_t_far h_t_then h_t_row h_t_mays h_t_firstRow h_t_low h_t_high t_noOlder t_thanThis t_known t_knownAge t_moved h_t_lowOne h_t_highOne h_t_ways t_met h_t_left t_hours t_greatest h_t_text t_typed t_at t_start t_token t_value h_t_verbs h_t_nums t_items)), (h_t_book, .inl (cI, 460, .inl t_book))]) (wr := [(h_t_low, .inl (cI, 8, .inl t_low)), (h_t_high, .inl (cI, 8, .inl t_high))]) (wo := [(h_t, .inr (8, fX10 h_t_book h_t_images h_t_kept h_t_aside h_t_far h_t_then h_t_row h_t_mays h_t_firstRow h_t_low h_t_high t_noOlder t_thanThis t_known t_knownAge t_moved h_t_lowOne h_t_highOne h_t_ways t_met h_t_left t_hours t_greatest h_t_text t_typed t_at t_start t_token t_value h_t_verbs h_t_nums t_items)), (h_t_book, .inl (cI, 460, .inl t_book)), (h_t_low, .inl (cI, 8, .inl t_low)), (h_t_high, .inl (cI, 8, .inl t_high))]) (v := (some (.int r5))) ⟨hx, hb, hml, hown, hts⟩ (c_X10_factAt l dC dI cI cZ te h_t h_t_book h_t_images h_t_kept h_t_aside h_t_far h_t_then h_t_row h_t_mays h_t_firstRow h_t_low h_t_high h_t_lowOne h_t_highOne h_t_ways h_t_left h_t_text h_t_verbs h_t_nums t_noOlder t_thanThis t_known t_knownAge t_moved t_met t_hours t_greatest t_typed t_at t_start t_token t_value t_items t_book p1 (1 : Int32) r5 hg6) (cwV 2 hts (gV kw_235 kw_236 kw_237 kw_159 kw_238) rfl rfl rfl (by decide +kernel) ⟨Nat.le_of_ble_eq_true rfl, Nat.le_of_ble_eq_true rfl⟩) (kS_env te) hK hP hD hS hA hE [0, 1] [2, 3] [2, 3, 0, 1] rfl rfl (by decide) (by decide) (by decide) (by decide) rfl 0 8 rfl rfl rfl rfl hl.1 rfl (Nat.le_of_ble_eq_true rfl) dX10_bears_17 ⟨Nat.zero_le _, Nat.zero_le _⟩ (fun H locs hP hD hS => ?_)
  show W p l e rmX10_bears s m args below meth c H locs 0 0 Q (F0 m 20 ls [.int r5])
  by_cases c7 : r5 = (0 : Int32)
  · replace hf := ifp c7 hf
    refine lv_tableIn (tgt := 52) hx hb dX10_bears_20 (by rw [c7]; decide) (by rw [c7]; decide) (by rw [c7]; rfl) (by decide) ?_
    refine lv_aload_n hx hb dX10_bears_52 rfl (lv_at hl 2 rfl) ?_
    refine lv_iload_n hx hb dX10_bears_53 rfl (lv_at hl 0 rfl) ?_
    refine lv_aload_n hx hb dX10_bears_54 rfl (lv_at hl 2 rfl) ?_
    refine va_get (D := (dC, dI)) (ci := 8) (v := .ref h_t_low) (C := RX10) (T := TX10) (N := 32) hx hb hts (in1 tw_X10) hown hK hP 0 rfl rfl 9 (by decide) (hts _ (List.mem_cons_of_mem _ kw_126)) (fun _ h9 => h9) rfl dX10_bears_55 ?_
    refine lv_iload_n hx hb dX10_bears_58 rfl (lv_at hl 1 rfl) ?_
    obtain ⟨g8, hf⟩ := chk_some hf
    refine va_iald hx hb hK hP 2 0 rfl rfl (gin_in g8) dX10_bears_59 ?_
    refine lv_iconst (v := (1 : Int32)) hx hb dX10_bears_60 (by decide) ?_
    refine lv_iadd hx hb dX10_bears_61 ?_
    obtain ⟨x9, y10, hg11, hf⟩ := bd2_some hf
    refine CM_callV (C := RX10) (As := [.int r3, .int ((t_low r1.toNatClampNeg) + (1 : Int32))]) (rest := []) (wc := [(h_t, .inr (8, fX10 h_t_book h_t_images h_t_kept h_t_aside h_t_far h_t_then h_t_row h_t_mays h_t_firstRow h_t_low h_t_high t_noOlder t_thanThis t_known t_knownAge t_moved h_t_lowOne h_t_highOne h_t_ways t_met h_t_left t_hours t_greatest h_t_text t_typed t_at t_start t_token t_value h_t_verbs h_t_nums t_items)), (h_t_low, .inl (cI, 8, .inl t_low))]) (w1 := [(h_t, .inr (8, fX10 h_t_book h_t_images h_t_kept h_t_aside h_t_far h_t_then h_t_row h_t_mays h_t_firstRow h_t_low h_t_high t_noOlder t_thanThis t_known t_knownAge x9 h_t_lowOne h_t_highOne h_t_ways t_met h_t_left t_hours t_greatest h_t_text t_typed t_at t_start t_token t_value h_t_verbs h_t_nums t_items)), (h_t_low, .inl (cI, 8, .inl y10))]) (wr := [(h_t_book, .inl (cI, 460, .inl t_book)), (h_t_high, .inl (cI, 8, .inl t_high))]) (wo := [(h_t, .inr (8, fX10 h_t_book h_t_images h_t_kept h_t_aside h_t_far h_t_then h_t_row h_t_mays h_t_firstRow h_t_low h_t_high t_noOlder t_thanThis t_known t_knownAge x9 h_t_lowOne h_t_highOne h_t_ways t_met h_t_left t_hours t_greatest h_t_text t_typed t_at t_start t_token t_value h_t_verbs h_t_nums t_items)), (h_t_book, .inl (cI, 460, .inl t_book)), (h_t_low, .inl (cI, 8, .inl y10)), (h_t_high, .inl (cI, 8, .inl t_high))]) (v := (none)) ⟨hx, hb, hml, hown, hts⟩ (c_X10_atLeast l dC dI cI cZ te h_t h_t_book h_t_images h_t_kept h_t_aside h_t_far h_t_then h_t_row h_t_mays h_t_firstRow h_t_low h_t_high h_t_lowOne h_t_highOne h_t_ways h_t_left h_t_text h_t_verbs h_t_nums t_noOlder t_thanThis t_known t_knownAge t_moved t_met t_hours t_greatest t_typed t_at t_start t_token t_value t_items t_low r3 ((t_low r1.toNatClampNeg) + (1 : Int32)) x9 y10 hg11) (cwV 2 hts (gV kw_239 kw_240 kw_241 kw_159 kw_242) rfl rfl rfl (by decide +kernel) ⟨Nat.le_of_ble_eq_true rfl, Nat.le_of_ble_eq_true rfl⟩) (kS_env te) hK hP hD hS hA hE [0, 2] [1, 3] [2, 0, 3, 1] rfl rfl (by decide) (by decide) (by decide) (by decide) rfl 0 8 rfl rfl rfl rfl hl.1 rfl (Nat.le_of_ble_eq_true rfl) dX10_bears_62 ⟨Nat.zero_le _, Nat.zero_le _⟩ (fun H locs hP hD hS => ?_)
    show W p l e rmX10_bears s m args below meth c H locs 0 0 Q (F0 m 65 ls [])
    refine lv_aload_n hx hb dX10_bears_65 rfl (lv_at hl 2 rfl) ?_
    refine lv_iload_n hx hb dX10_bears_66 rfl (lv_at hl 1 rfl) ?_
    refine lv_aload_n hx hb dX10_bears_67 rfl (lv_at hl 2 rfl) ?_
    refine va_get (D := (dC, dI)) (ci := 8) (v := .ref h_t_high) (C := RX10) (T := TX10) (N := 32) hx hb hts (in1 tw_X10) hown hK hP 0 rfl rfl 10 (by decide) (hts _ (List.mem_cons_of_mem _ kw_127)) (fun _ h9 => h9) rfl dX10_bears_68 ?_
    refine lv_iload_n hx hb dX10_bears_71 rfl (lv_at hl 0 rfl) ?_
    obtain ⟨g12, hf⟩ := chk_some hf
    refine va_iald hx hb hK hP 3 0 rfl rfl (gin_in g12) dX10_bears_72 ?_
    refine lv_iconst (v := (1 : Int32)) hx hb dX10_bears_73 (by decide) ?_
    refine lv_isub hx hb dX10_bears_74 ?_
    obtain ⟨x13, y14, hg15, hf⟩ := bd2_some hf
    refine CM_callV (C := RX10) (As := [.int r1, .int ((t_high r3.toNatClampNeg) - (1 : Int32))]) (rest := []) (wc := [(h_t, .inr (8, fX10 h_t_book h_t_images h_t_kept h_t_aside h_t_far h_t_then h_t_row h_t_mays h_t_firstRow h_t_low h_t_high t_noOlder t_thanThis t_known t_knownAge x9 h_t_lowOne h_t_highOne h_t_ways t_met h_t_left t_hours t_greatest h_t_text t_typed t_at t_start t_token t_value h_t_verbs h_t_nums t_items)), (h_t_high, .inl (cI, 8, .inl t_high))]) (w1 := [(h_t, .inr (8, fX10 h_t_book h_t_images h_t_kept h_t_aside h_t_far h_t_then h_t_row h_t_mays h_t_firstRow h_t_low h_t_high t_noOlder t_thanThis t_known t_knownAge x13 h_t_lowOne h_t_highOne h_t_ways t_met h_t_left t_hours t_greatest h_t_text t_typed t_at t_start t_token t_value h_t_verbs h_t_nums t_items)), (h_t_high, .inl (cI, 8, .inl y14))]) (wr := [(h_t_book, .inl (cI, 460, .inl t_book)), (h_t_low, .inl (cI, 8, .inl y10))]) (wo := [(h_t, .inr (8, fX10 h_t_book h_t_images h_t_kept h_t_aside h_t_far h_t_then h_t_row h_t_mays h_t_firstRow h_t_low h_t_high t_noOlder t_thanThis t_known t_knownAge x13 h_t_lowOne h_t_highOne h_t_ways t_met h_t_left t_hours t_greatest h_t_text t_typed t_at t_start t_token t_value h_t_verbs h_t_nums t_items)), (h_t_book, .inl (cI, 460, .inl t_book)), (h_t_low, .inl (cI, 8, .inl y10)), (h_t_high, .inl (cI, 8, .inl y14))]) (v := (none)) ⟨hx, hb, hml, hown, hts⟩ (c_X10_atMost l dC dI cI cZ te h_t h_t_book h_t_images h_t_kept h_t_aside h_t_far h_t_then h_t_row h_t_mays h_t_firstRow h_t_low h_t_high h_t_lowOne h_t_highOne h_t_ways h_t_left h_t_text h_t_verbs h_t_nums t_noOlder t_thanThis t_known t_knownAge x9 t_met t_hours t_greatest t_typed t_at t_start t_token t_value t_items t_high r1 ((t_high r3.toNatClampNeg) - (1 : Int32)) x13 y14 hg15) (cwV 2 hts (gV kw_243 kw_244 kw_245 kw_159 kw_246) rfl rfl rfl (by decide +kernel) ⟨Nat.le_of_ble_eq_true rfl, Nat.le_of_ble_eq_true rfl⟩) (kS_env te) hK hP hD hS hA hE [0, 3] [1, 2] [2, 0, 1, 3] rfl rfl (by decide) (by decide) (by decide) (by decide) rfl 0 8 rfl rfl rfl rfl hl.1 rfl (Nat.le_of_ble_eq_true rfl) dX10_bears_75 ⟨Nat.zero_le _, Nat.zero_le _⟩ (fun H locs hP hD hS => ?_)
    show W p l e rmX10_bears s m args below meth c H locs 0 0 Q (F0 m 78 ls [])
    obtain ⟨rfl, rfl, rfl⟩ := inj3 hf
    subst hQ
    exact CM_vret hx hb hr hlocks hAe hP hD hS dX10_bears_78
  · replace hf := ifn c7 hf
    by_cases c16 : r5 = (1 : Int32)
    · replace hf := ifp c16 hf
      refine lv_tableIn (tgt := 79) hx hb dX10_bears_20 (by rw [c16]; decide) (by rw [c16]; decide) (by rw [c16]; rfl) (by decide) ?_
      refine lv_aload_n hx hb dX10_bears_79 rfl (lv_at hl 2 rfl) ?_
      refine lv_iload_n hx hb dX10_bears_80 rfl (lv_at hl 1 rfl) ?_
      refine lv_iload_n hx hb dX10_bears_81 rfl (lv_at hl 0 rfl) ?_
      obtain ⟨x17, y18, hg19, hf⟩ := bd2_some hf
      refine CM_callV (C := RX10) (As := [.int r1, .int r3]) (rest := []) (wc := [(h_t, .inr (8, fX10 h_t_book h_t_images h_t_kept h_t_aside h_t_far h_t_then h_t_row h_t_mays h_t_firstRow h_t_low h_t_high t_noOlder t_thanThis t_known t_knownAge t_moved h_t_lowOne h_t_highOne h_t_ways t_met h_t_left t_hours t_greatest h_t_text t_typed t_at t_start t_token t_value h_t_verbs h_t_nums t_items)), (h_t_low, .inl (cI, 8, .inl t_low))]) (w1 := [(h_t, .inr (8, fX10 h_t_book h_t_images h_t_kept h_t_aside h_t_far h_t_then h_t_row h_t_mays h_t_firstRow h_t_low h_t_high t_noOlder t_thanThis t_known t_knownAge x17 h_t_lowOne h_t_highOne h_t_ways t_met h_t_left t_hours t_greatest h_t_text t_typed t_at t_start t_token t_value h_t_verbs h_t_nums t_items)), (h_t_low, .inl (cI, 8, .inl y18))]) (wr := [(h_t_book, .inl (cI, 460, .inl t_book)), (h_t_high, .inl (cI, 8, .inl t_high))]) (wo := [(h_t, .inr (8, fX10 h_t_book h_t_images h_t_kept h_t_aside h_t_far h_t_then h_t_row h_t_mays h_t_firstRow h_t_low h_t_high t_noOlder t_thanThis t_known t_knownAge x17 h_t_lowOne h_t_highOne h_t_ways t_met h_t_left t_hours t_greatest h_t_text t_typed t_at t_start t_token t_value h_t_verbs h_t_nums t_items)), (h_t_book, .inl (cI, 460, .inl t_book)), (h_t_low, .inl (cI, 8, .inl y18)), (h_t_high, .inl (cI, 8, .inl t_high))]) (v := (none)) ⟨hx, hb, hml, hown, hts⟩ (c_X10_atLeast l dC dI cI cZ te h_t h_t_book h_t_images h_t_kept h_t_aside h_t_far h_t_then h_t_row h_t_mays h_t_firstRow h_t_low h_t_high h_t_lowOne h_t_highOne h_t_ways h_t_left h_t_text h_t_verbs h_t_nums t_noOlder t_thanThis t_known t_knownAge t_moved t_met t_hours t_greatest t_typed t_at t_start t_token t_value t_items t_low r1 r3 x17 y18 hg19) (cwV 2 hts (gV kw_239 kw_240 kw_241 kw_159 kw_242) rfl rfl rfl (by decide +kernel) ⟨Nat.le_of_ble_eq_true rfl, Nat.le_of_ble_eq_true rfl⟩) (kS_env te) hK hP hD hS hA hE [0, 2] [1, 3] [2, 0, 3, 1] rfl rfl (by decide) (by decide) (by decide) (by decide) rfl 0 8 rfl rfl rfl rfl hl.1 rfl (Nat.le_of_ble_eq_true rfl) dX10_bears_82 ⟨Nat.zero_le _, Nat.zero_le _⟩ (fun H locs hP hD hS => ?_)
      show W p l e rmX10_bears s m args below meth c H locs 0 0 Q (F0 m 85 ls [])
      refine lv_aload_n hx hb dX10_bears_85 rfl (lv_at hl 2 rfl) ?_
      refine lv_iload_n hx hb dX10_bears_86 rfl (lv_at hl 1 rfl) ?_
      refine lv_aload_n hx hb dX10_bears_87 rfl (lv_at hl 2 rfl) ?_
      refine lv_iload_n hx hb dX10_bears_88 rfl (lv_at hl 3 rfl) ?_
      refine lv_iconst (v := (4 : Int32)) hx hb dX10_bears_89 (by decide) ?_
      obtain ⟨r20, hg21, hf⟩ := bd1_some hf
      refine CM_callV (C := RX10) (As := [.int p1, .int (4 : Int32)]) (rest := [.int r1, .ref h_t]) (wc := [(h_t, .inr (8, fX10 h_t_book h_t_images h_t_kept h_t_aside h_t_far h_t_then h_t_row h_t_mays h_t_firstRow h_t_low h_t_high t_noOlder t_thanThis t_known t_knownAge x17 h_t_lowOne h_t_highOne h_t_ways t_met h_t_left t_hours t_greatest h_t_text t_typed t_at t_start t_token t_value h_t_verbs h_t_nums t_items)), (h_t_book, .inl (cI, 460, .inl t_book))]) (w1 := [(h_t, .inr (8, fX10 h_t_book h_t_images h_t_kept h_t_aside h_t_far h_t_then h_t_row h_t_mays h_t_firstRow h_t_low h_t_high t_noOlder t_thanThis t_known t_knownAge x17 h_t_lowOne h_t_highOne h_t_ways t_met h_t_left t_hours t_greatest h_t_text t_typed t_at t_start t_token t_value h_t_verbs h_t_nums t_items)), (h_t_book, .inl (cI, 460, .inl t_book))]) (wr := [(h_t_low, .inl (cI, 8, .inl y18)), (h_t_high, .inl (cI, 8, .inl t_high))]) (wo := [(h_t, .inr (8, fX10 h_t_book h_t_images h_t_kept h_t_aside h_t_far h_t_then h_t_row h_t_mays h_t_firstRow h_t_low h_t_high t_noOlder t_thanThis t_known t_knownAge x17 h_t_lowOne h_t_highOne h_t_ways t_met h_t_left t_hours t_greatest h_t_text t_typed t_at t_start t_token t_value h_t_verbs h_t_nums t_items)), (h_t_book, .inl (cI, 460, .inl t_book)), (h_t_low, .inl (cI, 8, .inl y18)), (h_t_high, .inl (cI, 8, .inl t_high))]) (v := (some (.int r20))) ⟨hx, hb, hml, hown, hts⟩ (c_X10_factAt l dC dI cI cZ te h_t h_t_book h_t_images h_t_kept h_t_aside h_t_far h_t_then h_t_row h_t_mays h_t_firstRow h_t_low h_t_high h_t_lowOne h_t_highOne h_t_ways h_t_left h_t_text h_t_verbs h_t_nums t_noOlder t_thanThis t_known t_knownAge x17 t_met t_hours t_greatest t_typed t_at t_start t_token t_value t_items t_book p1 (4 : Int32) r20 hg21) (cwV 2 hts (gV kw_235 kw_236 kw_237 kw_159 kw_238) rfl rfl rfl (by decide +kernel) ⟨Nat.le_of_ble_eq_true rfl, Nat.le_of_ble_eq_true rfl⟩) (kS_env te) hK hP hD hS hA hE [0, 1] [2, 3] [2, 3, 0, 1] rfl rfl (by decide) (by decide) (by decide) (by decide) rfl 0 8 rfl rfl rfl rfl hl.1 rfl (Nat.le_of_ble_eq_true rfl) dX10_bears_90 ⟨Nat.zero_le _, Nat.zero_le _⟩ (fun H locs hP hD hS => ?_)
      show W p l e rmX10_bears s m args below meth c H locs 0 0 Q (F0 m 93 ls [.int r20, .int r1, .ref h_t])
      obtain ⟨x22, y23, hg24, hf⟩ := bd2_some hf
      refine CM_callV (C := RX10) (As := [.int r1, .int r20]) (rest := []) (wc := [(h_t, .inr (8, fX10 h_t_book h_t_images h_t_kept h_t_aside h_t_far h_t_then h_t_row h_t_mays h_t_firstRow h_t_low h_t_high t_noOlder t_thanThis t_known t_knownAge x17 h_t_lowOne h_t_highOne h_t_ways t_met h_t_left t_hours t_greatest h_t_text t_typed t_at t_start t_token t_value h_t_verbs h_t_nums t_items)), (h_t_high, .inl (cI, 8, .inl t_high))]) (w1 := [(h_t, .inr (8, fX10 h_t_book h_t_images h_t_kept h_t_aside h_t_far h_t_then h_t_row h_t_mays h_t_firstRow h_t_low h_t_high t_noOlder t_thanThis t_known t_knownAge x22 h_t_lowOne h_t_highOne h_t_ways t_met h_t_left t_hours t_greatest h_t_text t_typed t_at t_start t_token t_value h_t_verbs h_t_nums t_items)), (h_t_high, .inl (cI, 8, .inl y23))]) (wr := [(h_t_book, .inl (cI, 460, .inl t_book)), (h_t_low, .inl (cI, 8, .inl y18))]) (wo := [(h_t, .inr (8, fX10 h_t_book h_t_images h_t_kept h_t_aside h_t_far h_t_then h_t_row h_t_mays h_t_firstRow h_t_low h_t_high t_noOlder t_thanThis t_known t_knownAge x22 h_t_lowOne h_t_highOne h_t_ways t_met h_t_left t_hours t_greatest h_t_text t_typed t_at t_start t_token t_value h_t_verbs h_t_nums t_items)), (h_t_book, .inl (cI, 460, .inl t_book)), (h_t_low, .inl (cI, 8, .inl y18)), (h_t_high, .inl (cI, 8, .inl y23))]) (v := (none)) ⟨hx, hb, hml, hown, hts⟩ (c_X10_atMost l dC dI cI cZ te h_t h_t_book h_t_images h_t_kept h_t_aside h_t_far h_t_then h_t_row h_t_mays h_t_firstRow h_t_low h_t_high h_t_lowOne h_t_highOne h_t_ways h_t_left h_t_text h_t_verbs h_t_nums t_noOlder t_thanThis t_known t_knownAge x17 t_met t_hours t_greatest t_typed t_at t_start t_token t_value t_items t_high r1 r20 x22 y23 hg24) (cwV 2 hts (gV kw_243 kw_244 kw_245 kw_159 kw_246) rfl rfl rfl (by decide +kernel) ⟨Nat.le_of_ble_eq_true rfl, Nat.le_of_ble_eq_true rfl⟩) (kS_env te) hK hP hD hS hA hE [0, 3] [1, 2] [2, 0, 1, 3] rfl rfl (by decide) (by decide) (by decide) (by decide) rfl 0 8 rfl rfl rfl rfl hl.1 rfl (Nat.le_of_ble_eq_true rfl) dX10_bears_93 ⟨Nat.zero_le _, Nat.zero_le _⟩ (fun H locs hP hD hS => ?_)
      show W p l e rmX10_bears s m args below meth c H locs 0 0 Q (F0 m 96 ls [])
      obtain ⟨rfl, rfl, rfl⟩ := inj3 hf
      subst hQ
      exact CM_vret hx hb hr hlocks hAe hP hD hS dX10_bears_96
    · replace hf := ifn c16 hf
      by_cases c25 : r5 = (2 : Int32)
      · replace hf := ifp c25 hf
        refine lv_tableIn (tgt := 97) hx hb dX10_bears_20 (by rw [c25]; decide) (by rw [c25]; decide) (by rw [c25]; rfl) (by decide) ?_
        refine lv_aload_n hx hb dX10_bears_97 rfl (lv_at hl 2 rfl) ?_
        refine lv_iload_n hx hb dX10_bears_98 rfl (lv_at hl 1 rfl) ?_
        refine lv_iload_n hx hb dX10_bears_99 rfl (lv_at hl 0 rfl) ?_
        refine lv_aload_n hx hb dX10_bears_100 rfl (lv_at hl 2 rfl) ?_
        refine va_get (D := (dC, dI)) (ci := 8) (v := .ref h_t_book) (C := RX10) (T := TX10) (N := 32) hx hb hts (in1 tw_X10) hown hK hP 0 rfl rfl 0 (by decide) (hts _ (List.mem_cons_of_mem _ kw_116)) (fun _ h9 => h9) rfl dX10_bears_101 ?_
        refine lv_bipush (v := (10 : Int32)) hx hb dX10_bears_104 (by decide) ?_
        obtain ⟨g26, hf⟩ := chk_some hf
        refine va_iald hx hb hK hP 1 0 rfl rfl (gin_in g26) dX10_bears_106 ?_
        refine lv_imul hx hb dX10_bears_107 ?_
        obtain ⟨x27, y28, hg29, hf⟩ := bd2_some hf
        refine CM_callV (C := RX10) (As := [.int r1, .int (r3 * (t_book (10 : Int32).toNatClampNeg))]) (rest := []) (wc := [(h_t, .inr (8, fX10 h_t_book h_t_images h_t_kept h_t_aside h_t_far h_t_then h_t_row h_t_mays h_t_firstRow h_t_low h_t_high t_noOlder t_thanThis t_known t_knownAge t_moved h_t_lowOne h_t_highOne h_t_ways t_met h_t_left t_hours t_greatest h_t_text t_typed t_at t_start t_token t_value h_t_verbs h_t_nums t_items)), (h_t_low, .inl (cI, 8, .inl t_low))]) (w1 := [(h_t, .inr (8, fX10 h_t_book h_t_images h_t_kept h_t_aside h_t_far h_t_then h_t_row h_t_mays h_t_firstRow h_t_low h_t_high t_noOlder t_thanThis t_known t_knownAge x27 h_t_lowOne h_t_highOne h_t_ways t_met h_t_left t_hours t_greatest h_t_text t_typed t_at t_start t_token t_value h_t_verbs h_t_nums t_items)), (h_t_low, .inl (cI, 8, .inl y28))]) (wr := [(h_t_book, .inl (cI, 460, .inl t_book)), (h_t_high, .inl (cI, 8, .inl t_high))]) (wo := [(h_t, .inr (8, fX10 h_t_book h_t_images h_t_kept h_t_aside h_t_far h_t_then h_t_row h_t_mays h_t_firstRow h_t_low h_t_high t_noOlder t_thanThis t_known t_knownAge x27 h_t_lowOne h_t_highOne h_t_ways t_met h_t_left t_hours t_greatest h_t_text t_typed t_at t_start t_token t_value h_t_verbs h_t_nums t_items)), (h_t_book, .inl (cI, 460, .inl t_book)), (h_t_low, .inl (cI, 8, .inl y28)), (h_t_high, .inl (cI, 8, .inl t_high))]) (v := (none)) ⟨hx, hb, hml, hown, hts⟩ (c_X10_atLeast l dC dI cI cZ te h_t h_t_book h_t_images h_t_kept h_t_aside h_t_far h_t_then h_t_row h_t_mays h_t_firstRow h_t_low h_t_high h_t_lowOne h_t_highOne h_t_ways h_t_left h_t_text h_t_verbs h_t_nums t_noOlder t_thanThis t_known t_knownAge t_moved t_met t_hours t_greatest t_typed t_at t_start t_token t_value t_items t_low r1 (r3 * (t_book (10 : Int32).toNatClampNeg)) x27 y28 hg29) (cwV 2 hts (gV kw_239 kw_240 kw_241 kw_159 kw_242) rfl rfl rfl (by decide +kernel) ⟨Nat.le_of_ble_eq_true rfl, Nat.le_of_ble_eq_true rfl⟩) (kS_env te) hK hP hD hS hA hE [0, 2] [1, 3] [2, 0, 3, 1] rfl rfl (by decide) (by decide) (by decide) (by decide) rfl 0 8 rfl rfl rfl rfl hl.1 rfl (Nat.le_of_ble_eq_true rfl) dX10_bears_108 ⟨Nat.zero_le _, Nat.zero_le _⟩ (fun H locs hP hD hS => ?_)
        show W p l e rmX10_bears s m args below meth c H locs 0 0 Q (F0 m 111 ls [])
        refine lv_aload_n hx hb dX10_bears_111 rfl (lv_at hl 2 rfl) ?_
        refine lv_iload_n hx hb dX10_bears_112 rfl (lv_at hl 1 rfl) ?_
        refine lv_iload_n hx hb dX10_bears_113 rfl (lv_at hl 0 rfl) ?_
        refine lv_aload_n hx hb dX10_bears_114 rfl (lv_at hl 2 rfl) ?_
        refine va_get (D := (dC, dI)) (ci := 8) (v := .ref h_t_book) (C := RX10) (T := TX10) (N := 32) hx hb hts (in1 tw_X10) hown hK hP 0 rfl rfl 0 (by decide) (hts _ (List.mem_cons_of_mem _ kw_116)) (fun _ h9 => h9) rfl dX10_bears_115 ?_
        refine lv_bipush (v := (11 : Int32)) hx hb dX10_bears_118 (by decide) ?_
        obtain ⟨g30, hf⟩ := chk_some hf
        refine va_iald hx hb hK hP 1 0 rfl rfl (gin_in g30) dX10_bears_120 ?_
        refine lv_imul hx hb dX10_bears_121 ?_
        obtain ⟨x31, y32, hg33, hf⟩ := bd2_some hf
        refine CM_callV (C := RX10) (As := [.int r1, .int (r3 * (t_book (11 : Int32).toNatClampNeg))]) (rest := []) (wc := [(h_t, .inr (8, fX10 h_t_book h_t_images h_t_kept h_t_aside h_t_far h_t_then h_t_row h_t_mays h_t_firstRow h_t_low h_t_high t_noOlder t_thanThis t_known t_knownAge x27 h_t_lowOne h_t_highOne h_t_ways t_met h_t_left t_hours t_greatest h_t_text t_typed t_at t_start t_token t_value h_t_verbs h_t_nums t_items)), (h_t_high, .inl (cI, 8, .inl t_high))]) (w1 := [(h_t, .inr (8, fX10 h_t_book h_t_images h_t_kept h_t_aside h_t_far h_t_then h_t_row h_t_mays h_t_firstRow h_t_low h_t_high t_noOlder t_thanThis t_known t_knownAge x31 h_t_lowOne h_t_highOne h_t_ways t_met h_t_left t_hours t_greatest h_t_text t_typed t_at t_start t_token t_value h_t_verbs h_t_nums t_items)), (h_t_high, .inl (cI, 8, .inl y32))]) (wr := [(h_t_book, .inl (cI, 460, .inl t_book)), (h_t_low, .inl (cI, 8, .inl y28))]) (wo := [(h_t, .inr (8, fX10 h_t_book h_t_images h_t_kept h_t_aside h_t_far h_t_then h_t_row h_t_mays h_t_firstRow h_t_low h_t_high t_noOlder t_thanThis t_known t_knownAge x31 h_t_lowOne h_t_highOne h_t_ways t_met h_t_left t_hours t_greatest h_t_text t_typed t_at t_start t_token t_value h_t_verbs h_t_nums t_items)), (h_t_book, .inl (cI, 460, .inl t_book)), (h_t_low, .inl (cI, 8, .inl y28)), (h_t_high, .inl (cI, 8, .inl y32))]) (v := (none)) ⟨hx, hb, hml, hown, hts⟩ (c_X10_atMost l dC dI cI cZ te h_t h_t_book h_t_images h_t_kept h_t_aside h_t_far h_t_then h_t_row h_t_mays h_t_firstRow h_t_low h_t_high h_t_lowOne h_t_highOne h_t_ways h_t_left h_t_text h_t_verbs h_t_nums t_noOlder t_thanThis t_known t_knownAge x27 t_met t_hours t_greatest t_typed t_at t_start t_token t_value t_items t_high r1 (r3 * (t_book (11 : Int32).toNatClampNeg)) x31 y32 hg33) (cwV 2 hts (gV kw_243 kw_244 kw_245 kw_159 kw_246) rfl rfl rfl (by decide +kernel) ⟨Nat.le_of_ble_eq_true rfl, Nat.le_of_ble_eq_true rfl⟩) (kS_env te) hK hP hD hS hA hE [0, 3] [1, 2] [2, 0, 1, 3] rfl rfl (by decide) (by decide) (by decide) (by decide) rfl 0 8 rfl rfl rfl rfl hl.1 rfl (Nat.le_of_ble_eq_true rfl) dX10_bears_122 ⟨Nat.zero_le _, Nat.zero_le _⟩ (fun H locs hP hD hS => ?_)
        show W p l e rmX10_bears s m args below meth c H locs 0 0 Q (F0 m 125 ls [])
        obtain ⟨rfl, rfl, rfl⟩ := inj3 hf
        subst hQ
        exact CM_vret hx hb hr hlocks hAe hP hD hS dX10_bears_125
      · replace hf := ifn c25 hf
        by_cases c34 : r5 = (3 : Int32)
        · replace hf := ifp c34 hf
          refine lv_tableIn (tgt := 126) hx hb dX10_bears_20 (by rw [c34]; decide) (by rw [c34]; decide) (by rw [c34]; rfl) (by decide) ?_
          refine lv_aload_n hx hb dX10_bears_126 rfl (lv_at hl 2 rfl) ?_
          refine lv_iload_n hx hb dX10_bears_127 rfl (lv_at hl 1 rfl) ?_
          refine lv_iload_n hx hb dX10_bears_128 rfl (lv_at hl 0 rfl) ?_
          obtain ⟨x35, y36, hg37, hf⟩ := bd2_some hf
          refine CM_callV (C := RX10) (As := [.int r1, .int r3]) (rest := []) (wc := [(h_t, .inr (8, fX10 h_t_book h_t_images h_t_kept h_t_aside h_t_far h_t_then h_t_row h_t_mays h_t_firstRow h_t_low h_t_high t_noOlder t_thanThis t_known t_knownAge t_moved h_t_lowOne h_t_highOne h_t_ways t_met h_t_left t_hours t_greatest h_t_text t_typed t_at t_start t_token t_value h_t_verbs h_t_nums t_items)), (h_t_high, .inl (cI, 8, .inl t_high))]) (w1 := [(h_t, .inr (8, fX10 h_t_book h_t_images h_t_kept h_t_aside h_t_far h_t_then h_t_row h_t_mays h_t_firstRow h_t_low h_t_high t_noOlder t_thanThis t_known t_knownAge x35 h_t_lowOne h_t_highOne h_t_ways t_met h_t_left t_hours t_greatest h_t_text t_typed t_at t_start t_token t_value h_t_verbs h_t_nums t_items)), (h_t_high, .inl (cI, 8, .inl y36))]) (wr := [(h_t_book, .inl (cI, 460, .inl t_book)), (h_t_low, .inl (cI, 8, .inl t_low))]) (wo := [(h_t, .inr (8, fX10 h_t_book h_t_images h_t_kept h_t_aside h_t_far h_t_then h_t_row h_t_mays h_t_firstRow h_t_low h_t_high t_noOlder t_thanThis t_known t_knownAge x35 h_t_lowOne h_t_highOne h_t_ways t_met h_t_left t_hours t_greatest h_t_text t_typed t_at t_start t_token t_value h_t_verbs h_t_nums t_items)), (h_t_book, .inl (cI, 460, .inl t_book)), (h_t_low, .inl (cI, 8, .inl t_low)), (h_t_high, .inl (cI, 8, .inl y36))]) (v := (none)) ⟨hx, hb, hml, hown, hts⟩ (c_X10_atMost l dC dI cI cZ te h_t h_t_book h_t_images h_t_kept h_t_aside h_t_far h_t_then h_t_row h_t_mays h_t_firstRow h_t_low h_t_high h_t_lowOne h_t_highOne h_t_ways h_t_left h_t_text h_t_verbs h_t_nums t_noOlder t_thanThis t_known t_knownAge t_moved t_met t_hours t_greatest t_typed t_at t_start t_token t_value t_items t_high r1 r3 x35 y36 hg37) (cwV 2 hts (gV kw_243 kw_244 kw_245 kw_159 kw_246) rfl rfl rfl (by decide +kernel) ⟨Nat.le_of_ble_eq_true rfl, Nat.le_of_ble_eq_true rfl⟩) (kS_env te) hK hP hD hS hA hE [0, 3] [1, 2] [2, 0, 1, 3] rfl rfl (by decide) (by decide) (by decide) (by decide) rfl 0 8 rfl rfl rfl rfl hl.1 rfl (Nat.le_of_ble_eq_true rfl) dX10_bears_129 ⟨Nat.zero_le _, Nat.zero_le _⟩ (fun H locs hP hD hS => ?_)
          show W p l e rmX10_bears s m args below meth c H locs 0 0 Q (F0 m 132 ls [])
          obtain ⟨rfl, rfl, rfl⟩ := inj3 hf
          subst hQ
          exact CM_vret hx hb hr hlocks hAe hP hD hS dX10_bears_132
        · replace hf := ifn c34 hf
          refine lv_tableOut (tgt := 133) hx hb dX10_bears_20 (by have nc7 := lv_neT c7 (a := 0) rfl; have nc16 := lv_neT c16 (a := 1) rfl; have nc25 := lv_neT c25 (a := 2) rfl; have nc34 := lv_neT c34 (a := 3) rfl; omega) (by decide) ?_
          refine lv_aload_n hx hb dX10_bears_133 rfl (lv_at hl 2 rfl) ?_
          refine lv_iload_n hx hb dX10_bears_134 rfl (lv_at hl 1 rfl) ?_
          refine lv_iload_n hx hb dX10_bears_135 rfl (lv_at hl 0 rfl) ?_
          obtain ⟨x38, y39, hg40, hf⟩ := bd2_some hf
          refine CM_callV (C := RX10) (As := [.int r1, .int r3]) (rest := []) (wc := [(h_t, .inr (8, fX10 h_t_book h_t_images h_t_kept h_t_aside h_t_far h_t_then h_t_row h_t_mays h_t_firstRow h_t_low h_t_high t_noOlder t_thanThis t_known t_knownAge t_moved h_t_lowOne h_t_highOne h_t_ways t_met h_t_left t_hours t_greatest h_t_text t_typed t_at t_start t_token t_value h_t_verbs h_t_nums t_items)), (h_t_low, .inl (cI, 8, .inl t_low))]) (w1 := [(h_t, .inr (8, fX10 h_t_book h_t_images h_t_kept h_t_aside h_t_far h_t_then h_t_row h_t_mays h_t_firstRow h_t_low h_t_high t_noOlder t_thanThis t_known t_knownAge x38 h_t_lowOne h_t_highOne h_t_ways t_met h_t_left t_hours t_greatest h_t_text t_typed t_at t_start t_token t_value h_t_verbs h_t_nums t_items)), (h_t_low, .inl (cI, 8, .inl y39))]) (wr := [(h_t_book, .inl (cI, 460, .inl t_book)), (h_t_high, .inl (cI, 8, .inl t_high))]) (wo := [(h_t, .inr (8, fX10 h_t_book h_t_images h_t_kept h_t_aside h_t_far h_t_then h_t_row h_t_mays h_t_firstRow h_t_low h_t_high t_noOlder t_thanThis t_known t_knownAge x38 h_t_lowOne h_t_highOne h_t_ways t_met h_t_left t_hours t_greatest h_t_text t_typed t_at t_start t_token t_value h_t_verbs h_t_nums t_items)), (h_t_book, .inl (cI, 460, .inl t_book)), (h_t_low, .inl (cI, 8, .inl y39)), (h_t_high, .inl (cI, 8, .inl t_high))]) (v := (none)) ⟨hx, hb, hml, hown, hts⟩ (c_X10_atLeast l dC dI cI cZ te h_t h_t_book h_t_images h_t_kept h_t_aside h_t_far h_t_then h_t_row h_t_mays h_t_firstRow h_t_low h_t_high h_t_lowOne h_t_highOne h_t_ways h_t_left h_t_text h_t_verbs h_t_nums t_noOlder t_thanThis t_known t_knownAge t_moved t_met t_hours t_greatest t_typed t_at t_start t_token t_value t_items t_low r1 r3 x38 y39 hg40) (cwV 2 hts (gV kw_239 kw_240 kw_241 kw_159 kw_242) rfl rfl rfl (by decide +kernel) ⟨Nat.le_of_ble_eq_true rfl, Nat.le_of_ble_eq_true rfl⟩) (kS_env te) hK hP hD hS hA hE [0, 2] [1, 3] [2, 0, 3, 1] rfl rfl (by decide) (by decide) (by decide) (by decide) rfl 0 8 rfl rfl rfl rfl hl.1 rfl (Nat.le_of_ble_eq_true rfl) dX10_bears_136 ⟨Nat.zero_le _, Nat.zero_le _⟩ (fun H locs hP hD hS => ?_)
          show W p l e rmX10_bears s m args below meth c H locs 0 0 Q (F0 m 139 ls [])
          obtain ⟨rfl, rfl, rfl⟩ := inj3 hf
          subst hQ
          exact CM_vret hx hb hr hlocks hAe hP hD hS dX10_bears_139
def rmX10_bounds : Room := { frames := 2, cells := 0, slots := 0, locals := 45 }
abbrev wqX10_bounds : List Cond := Cond.code yX10_bounds cX10_bounds 5 (some .boolean) :: tG
set_option maxHeartbeats 4000000 in
set_option maxRecDepth 100000 in
theorem c_X10_bounds (l : Launch) (dC : Nat → ClassId) (dI : Nat → Nat → Nat) (cI cZ : ClassId) (te : Nat → Nat) (h_t : Nat) (h_t_book : Nat) (h_t_images : Nat) (h_t_kept : Nat) (h_t_aside : Nat) (h_t_far : Nat) (h_t_then : Nat) (h_t_row : Nat) (h_t_mays : Nat) (h_t_firstRow : Nat) (h_t_low : Nat) (h_t_high : Nat) (h_t_lowOne : Nat) (h_t_highOne : Nat) (h_t_ways : Nat) (h_t_left : Nat) (h_t_text : Nat) (h_t_verbs : Nat) (h_t_nums : Nat) (t_noOlder : Int32) (t_thanThis : Int32) (t_known : Int32) (t_knownAge : Int32) (t_moved : Int32) (t_met : Int32) (t_hours : Int32) (t_greatest : Int32) (t_typed : Int32) (t_at : Int32) (t_start : Int32) (t_token : Int32) (t_value : Int32) (t_items : Int32) (t_low : Nat → Int32) (t_high : Nat → Int32) (t_book : Nat → Int32) (p1 : Int32) (o0 : Int32) (o1 : Int32) (o2 : Nat → Int32) (o3 : Nat → Int32) (hf : f_X10_bounds t_noOlder t_thanThis t_known t_knownAge t_low t_high t_book p1 = some (o0, o1, o2, o3)) : CM l yX10_bounds wqX10_bounds rmX10_bounds (kS te) dC dI cI cZ [.ref h_t, .int p1] [(h_t, .inr (8, fX10 h_t_book h_t_images h_t_kept h_t_aside h_t_far h_t_then h_t_row h_t_mays h_t_firstRow h_t_low h_t_high t_noOlder t_thanThis t_known t_knownAge t_moved h_t_lowOne h_t_highOne h_t_ways t_met h_t_left t_hours t_greatest h_t_text t_typed t_at t_start t_token t_value h_t_verbs h_t_nums t_items)), (h_t_low, .inl (cI, 8, .inl t_low)), (h_t_high, .inl (cI, 8, .inl t_high)), (h_t_book, .inl (cI, 460, .inl t_book))] [(h_t, .inr (8, fX10 h_t_book h_t_images h_t_kept h_t_aside h_t_far h_t_then h_t_row h_t_mays h_t_firstRow h_t_low h_t_high t_noOlder t_thanThis t_known t_knownAge o1 h_t_lowOne h_t_highOne h_t_ways t_met h_t_left t_hours t_greatest h_t_text t_typed t_at t_start t_token t_value h_t_verbs h_t_nums t_items)), (h_t_low, .inl (cI, 8, .inl o2)), (h_t_high, .inl (cI, 8, .inl o3)), (h_t_book, .inl (cI, 460, .inl t_book))] (some (.int o0)) := by
  refine CM_of (cc := cX10_bounds) (maxL := 5) (ret := (some .boolean)) (by decide +kernel) rfl (Nat.le_of_ble_eq_true rfl) ?_
  intro p e s m args below meth c A Q hx hb hr hml hown hts hlocks hA hK hP hD hS hE hQ hAe ls hl
  have hown : s.vm.findClass RX10 = some m.cls := hown
  have hl : lv_has ls 5 [(0, .ref h_t), (1, .int p1)] := hl
  unfold f_X10_bounds at hf
  refine lv_iconst (v := (0 : Int32)) hx hb dX10_bounds_0 (by decide) ?_
  refine lv_istore_n (lv' := [(2, .int (0 : Int32)), (0, .ref h_t), (1, .int p1)]) hx hb dX10_bounds_1 rfl hl (by decide) rfl (fun ls hl => ?_)
  have L38 : ∀ (fu23 : Nat) (y19 : Nat → Int32) (y20 : Nat → Int32) (x21 : Int32) (y17 : Nat → Int32) (y18 : Nat → Int32), f_X10_bounds_L1 t_known t_knownAge fu23 y19 y20 x21 = some (y17, y18) → (∀ (H : Heap) (locs : List Loc), va_P (dC, dI) vwCl [(h_t, .inr (8, fX10 h_t_book h_t_images h_t_kept h_t_aside h_t_far h_t_then h_t_row h_t_mays h_t_firstRow h_t_low h_t_high t_noOlder t_thanThis t_known t_knownAge t_moved h_t_lowOne h_t_highOne h_t_ways t_met h_t_left t_hours t_greatest h_t_text t_typed t_at t_start t_token t_value h_t_verbs h_t_nums t_items)), (h_t_low, .inl (cI, 8, .inl y18)), (h_t_high, .inl (cI, 8, .inl y17)), (h_t_book, .inl (cI, 460, .inl t_book))] H → va_D A [(h_t, .inr (8, fX10 h_t_book h_t_images h_t_kept h_t_aside h_t_far h_t_then h_t_row h_t_mays h_t_firstRow h_t_low h_t_high t_noOlder t_thanThis t_known t_knownAge t_moved h_t_lowOne h_t_highOne h_t_ways t_met h_t_left t_hours t_greatest h_t_text t_typed t_at t_start t_token t_value h_t_verbs h_t_nums t_items)), (h_t_low, .inl (cI, 8, .inl y18)), (h_t_high, .inl (cI, 8, .inl y17)), (h_t_book, .inl (cI, 460, .inl t_book))] → va_S A s.heap H locs → ∀ ls : Array Slot, lv_has ls 5 [(0, .ref h_t), (1, .int p1)] → W p l e rmX10_bounds s m args below meth c H locs 0 0 Q (F0 m 60 ls [])) → ∀ (H : Heap) (locs : List Loc), va_P (dC, dI) vwCl [(h_t, .inr (8, fX10 h_t_book h_t_images h_t_kept h_t_aside h_t_far h_t_then h_t_row h_t_mays h_t_firstRow h_t_low h_t_high t_noOlder t_thanThis t_known t_knownAge t_moved h_t_lowOne h_t_highOne h_t_ways t_met h_t_left t_hours t_greatest h_t_text t_typed t_at t_start t_token t_value h_t_verbs h_t_nums t_items)), (h_t_low, .inl (cI, 8, .inl y20)), (h_t_high, .inl (cI, 8, .inl y19)), (h_t_book, .inl (cI, 460, .inl t_book))] H → va_D A [(h_t, .inr (8, fX10 h_t_book h_t_images h_t_kept h_t_aside h_t_far h_t_then h_t_row h_t_mays h_t_firstRow h_t_low h_t_high t_noOlder t_thanThis t_known t_knownAge t_moved h_t_lowOne h_t_highOne h_t_ways t_met h_t_left t_hours t_greatest h_t_text t_typed t_at t_start t_token t_value h_t_verbs h_t_nums t_items)), (h_t_low, .inl (cI, 8, .inl y20)), (h_t_high, .inl (cI, 8, .inl y19)), (h_t_book, .inl (cI, 460, .inl t_book))] → va_S A s.heap H locs → ∀ ls : Array Slot, lv_has ls 5 [(0, .ref h_t), (1, .int p1), (2, .int x21)] → W p l e rmX10_bounds s m args below meth c H locs 0 0 Q (F0 m 2 ls []) := by
    intro fu23
    induction fu23 with
    | zero =>
      intro y19 y20 x21 y17 y18 hf
      unfold f_X10_bounds_L1 at hf
      exact none_ne hf
    | succ fu23 ih22 =>
      intro y19 y20 x21 y17 y18 hf hX24 H locs hP hD hS ls hl
      unfold f_X10_bounds_L1 at hf
      refine lv_iload_n hx hb dX10_bounds_2 rfl (lv_at hl 2 rfl) ?_
      refine lv_bipush (v := (8 : Int32)) hx hb dX10_bounds_3 (by decide) ?_
      refine lv_icmp_ge (tgt := 60) hx hb dX10_bounds_5 (by decide) (fun c25 => ?_) (fun c25 => ?_)
      · replace hf := ifp c25 hf
        obtain ⟨rfl, rfl⟩ := inj2 hf
        exact hX24 _ _ hP hD hS _ (lv_sub hl [0, 1] rfl)
      · replace hf := ifn c25 hf
        refine lv_aload_n hx hb dX10_bounds_8 rfl (lv_at hl 0 rfl) ?_
        refine va_get (D := (dC, dI)) (ci := 8) (v := .ref h_t_low) (C := RX10) (T := TX10) (N := 32) hx hb hts (in1 tw_X10) hown hK hP 0 rfl rfl 9 (by decide) (hts _ (List.mem_cons_of_mem _ kw_126)) (fun _ h9 => h9) rfl dX10_bounds_9 ?_
        refine lv_iload_n hx hb dX10_bounds_12 rfl (lv_at hl 2 rfl) ?_
        refine lv_iload_n hx hb dX10_bounds_13 rfl (lv_at hl 2 rfl) ?_
        refine lv_aload_n hx hb dX10_bounds_14 rfl (lv_at hl 0 rfl) ?_
        refine va_get (D := (dC, dI)) (ci := 8) (v := .int t_known) (C := RX10) (T := TX10) (N := 32) hx hb hts (in1 tw_X10) hown hK hP 0 rfl rfl 13 (by decide) (hts _ (List.mem_cons_of_mem _ kw_247)) (fun _ h9 => h9) rfl dX10_bounds_15 ?_
        obtain ⟨x26, hg, hf⟩ := bd1_some hf
        have J27 : ∀ (H : Heap) (locs : List Loc), va_P (dC, dI) vwCl [(h_t, .inr (8, fX10 h_t_book h_t_images h_t_kept h_t_aside h_t_far h_t_then h_t_row h_t_mays h_t_firstRow h_t_low h_t_high t_noOlder t_thanThis t_known t_knownAge t_moved h_t_lowOne h_t_highOne h_t_ways t_met h_t_left t_hours t_greatest h_t_text t_typed t_at t_start t_token t_value h_t_verbs h_t_nums t_items)), (h_t_low, .inl (cI, 8, .inl y20)), (h_t_high, .inl (cI, 8, .inl y19)), (h_t_book, .inl (cI, 460, .inl t_book))] H → va_D A [(h_t, .inr (8, fX10 h_t_book h_t_images h_t_kept h_t_aside h_t_far h_t_then h_t_row h_t_mays h_t_firstRow h_t_low h_t_high t_noOlder t_thanThis t_known t_knownAge t_moved h_t_lowOne h_t_highOne h_t_ways t_met h_t_left t_hours t_greatest h_t_text t_typed t_at t_start t_token t_value h_t_verbs h_t_nums t_items)), (h_t_low, .inl (cI, 8, .inl y20)), (h_t_high, .inl (cI, 8, .inl y19)), (h_t_book, .inl (cI, 460, .inl t_book))] → va_S A s.heap H locs → ∀ ls : Array Slot, lv_has ls 5 [(0, .ref h_t), (1, .int p1), (2, .int x21)] → W p l e rmX10_bounds s m args below meth c H locs 0 0 Q (F0 m 29 ls [.int x26, .int x21, .ref h_t_low]) := by
          intro H locs hP hD hS ls hl
          obtain ⟨g28, hf⟩ := chk_some hf
          obtain ⟨y29, e30, hf⟩ := nm_some hf
          refine va_iast hx hb hK hP hD hS 1 0 rfl rfl (gin_in g28) dX10_bounds_29 (fun H locs hP hD hS => ?_)
          have hP : va_P (dC, dI) vwCl [(h_t, .inr (8, fX10 h_t_book h_t_images h_t_kept h_t_aside h_t_far h_t_then h_t_row h_t_mays h_t_firstRow h_t_low h_t_high t_noOlder t_thanThis t_known t_knownAge t_moved h_t_lowOne h_t_highOne h_t_ways t_met h_t_left t_hours t_greatest h_t_text t_typed t_at t_start t_token t_value h_t_verbs h_t_nums t_items)), (h_t_low, .inl (cI, 8, .inl y29)), (h_t_high, .inl (cI, 8, .inl y19)), (h_t_book, .inl (cI, 460, .inl t_book))] H := by rw [e30]; exact hP
          have hD : va_D A [(h_t, .inr (8, fX10 h_t_book h_t_images h_t_kept h_t_aside h_t_far h_t_then h_t_row h_t_mays h_t_firstRow h_t_low h_t_high t_noOlder t_thanThis t_known t_knownAge t_moved h_t_lowOne h_t_highOne h_t_ways t_met h_t_left t_hours t_greatest h_t_text t_typed t_at t_start t_token t_value h_t_verbs h_t_nums t_items)), (h_t_low, .inl (cI, 8, .inl y29)), (h_t_high, .inl (cI, 8, .inl y19)), (h_t_book, .inl (cI, 460, .inl t_book))] := by rw [e30]; exact hD
          refine lv_aload_n hx hb dX10_bounds_30 rfl (lv_at hl 0 rfl) ?_
          refine va_get (D := (dC, dI)) (ci := 8) (v := .ref h_t_high) (C := RX10) (T := TX10) (N := 32) hx hb hts (in1 tw_X10) hown hK hP 0 rfl rfl 10 (by decide) (hts _ (List.mem_cons_of_mem _ kw_127)) (fun _ h9 => h9) rfl dX10_bounds_31 ?_
          refine lv_iload_n hx hb dX10_bounds_34 rfl (lv_at hl 2 rfl) ?_
          refine lv_iload_n hx hb dX10_bounds_35 rfl (lv_at hl 2 rfl) ?_
          refine lv_aload_n hx hb dX10_bounds_36 rfl (lv_at hl 0 rfl) ?_
          refine va_get (D := (dC, dI)) (ci := 8) (v := .int t_known) (C := RX10) (T := TX10) (N := 32) hx hb hts (in1 tw_X10) hown hK hP 0 rfl rfl 13 (by decide) (hts _ (List.mem_cons_of_mem _ kw_247)) (fun _ h9 => h9) rfl dX10_bounds_37 ?_
          obtain ⟨x31, hg, hf⟩ := bd1_some hf
          have J32 : ∀ (H : Heap) (locs : List Loc), va_P (dC, dI) vwCl [(h_t, .inr (8, fX10 h_t_book h_t_images h_t_kept h_t_aside h_t_far h_t_then h_t_row h_t_mays h_t_firstRow h_t_low h_t_high t_noOlder t_thanThis t_known t_knownAge t_moved h_t_lowOne h_t_highOne h_t_ways t_met h_t_left t_hours t_greatest h_t_text t_typed t_at t_start t_token t_value h_t_verbs h_t_nums t_items)), (h_t_low, .inl (cI, 8, .inl y29)), (h_t_high, .inl (cI, 8, .inl y19)), (h_t_book, .inl (cI, 460, .inl t_book))] H → va_D A [(h_t, .inr (8, fX10 h_t_book h_t_images h_t_kept h_t_aside h_t_far h_t_then h_t_row h_t_mays h_t_firstRow h_t_low h_t_high t_noOlder t_thanThis t_known t_knownAge t_moved h_t_lowOne h_t_highOne h_t_ways t_met h_t_left t_hours t_greatest h_t_text t_typed t_at t_start t_token t_value h_t_verbs h_t_nums t_items)), (h_t_low, .inl (cI, 8, .inl y29)), (h_t_high, .inl (cI, 8, .inl y19)), (h_t_book, .inl (cI, 460, .inl t_book))] → va_S A s.heap H locs → ∀ ls : Array Slot, lv_has ls 5 [(0, .ref h_t), (1, .int p1), (2, .int x21)] → W p l e rmX10_bounds s m args below meth c H locs 0 0 Q (F0 m 53 ls [.int x31, .int x21, .ref h_t_high]) := by
            intro H locs hP hD hS ls hl
            obtain ⟨g33, hf⟩ := chk_some hf
            obtain ⟨y34, e35, hf⟩ := nm_some hf
            refine va_iast hx hb hK hP hD hS 2 0 rfl rfl (gin_in g33) dX10_bounds_53 (fun H locs hP hD hS => ?_)
            have hP : va_P (dC, dI) vwCl [(h_t, .inr (8, fX10 h_t_book h_t_images h_t_kept h_t_aside h_t_far h_t_then h_t_row h_t_mays h_t_firstRow h_t_low h_t_high t_noOlder t_thanThis t_known t_knownAge t_moved h_t_lowOne h_t_highOne h_t_ways t_met h_t_left t_hours t_greatest h_t_text t_typed t_at t_start t_token t_value h_t_verbs h_t_nums t_items)), (h_t_low, .inl (cI, 8, .inl y29)), (h_t_high, .inl (cI, 8, .inl y34)), (h_t_book, .inl (cI, 460, .inl t_book))] H := by rw [e35]; exact hP
            have hD : va_D A [(h_t, .inr (8, fX10 h_t_book h_t_images h_t_kept h_t_aside h_t_far h_t_then h_t_row h_t_mays h_t_firstRow h_t_low h_t_high t_noOlder t_thanThis t_known t_knownAge t_moved h_t_lowOne h_t_highOne h_t_ways t_met h_t_left t_hours t_greatest h_t_text t_typed t_at t_start t_token t_value h_t_verbs h_t_nums t_items)), (h_t_low, .inl (cI, 8, .inl y29)), (h_t_high, .inl (cI, 8, .inl y34)), (h_t_book, .inl (cI, 460, .inl t_book))] := by rw [e35]; exact hD
            refine lv_iinc (v := (x21 + (1 : Int32))) (lv' := [(2, .int (x21 + (1 : Int32))), (0, .ref h_t), (1, .int p1)]) hx hb dX10_bounds_54 hl (k := 2) rfl rfl (by decide) rfl (fun ls hl => ?_)
            refine lv_goto (tgt := 2) hx hb dX10_bounds_57 (by decide) ?_
            exact ih22 _ _ _ _ _ hf hX24 _ _ hP hD hS _ (lv_sub hl [1, 2, 0] rfl)
          clear hf
          have hf := hg
          refine lv_icmp_ne (tgt := 50) hx hb dX10_bounds_40 (by decide) (fun c36 => ?_) (fun c36 => ?_)
          · replace hf := ifn c36 hf
            refine lv_sipush (v := (999 : Int32)) hx hb dX10_bounds_50 (by decide) ?_
            obtain rfl := inj1 hf
            exact J32 _ _ hP hD hS _ (lv_sub hl [0, 1, 2] rfl)
          · replace hf := ifp c36 hf
            refine lv_aload_n hx hb dX10_bounds_43 rfl (lv_at hl 0 rfl) ?_
            refine va_get (D := (dC, dI)) (ci := 8) (v := .int t_knownAge) (C := RX10) (T := TX10) (N := 32) hx hb hts (in1 tw_X10) hown hK hP 0 rfl rfl 14 (by decide) (hts _ (List.mem_cons_of_mem _ kw_248)) (fun _ h9 => h9) rfl dX10_bounds_44 ?_
            refine lv_goto (tgt := 53) hx hb dX10_bounds_47 (by decide) ?_
            obtain rfl := inj1 hf
            exact J32 _ _ hP hD hS _ (lv_sub hl [0, 1, 2] rfl)
        clear hf
        have hf := hg
        refine lv_icmp_ne (tgt := 28) hx hb dX10_bounds_18 (by decide) (fun c37 => ?_) (fun c37 => ?_)
        · replace hf := ifn c37 hf
          refine lv_iconst (v := (0 : Int32)) hx hb dX10_bounds_28 (by decide) ?_
          obtain rfl := inj1 hf
          exact J27 _ _ hP hD hS _ (lv_sub hl [0, 1, 2] rfl)
        · replace hf := ifp c37 hf
          refine lv_aload_n hx hb dX10_bounds_21 rfl (lv_at hl 0 rfl) ?_
          refine va_get (D := (dC, dI)) (ci := 8) (v := .int t_knownAge) (C := RX10) (T := TX10) (N := 32) hx hb hts (in1 tw_X10) hown hK hP 0 rfl rfl 14 (by decide) (hts _ (List.mem_cons_of_mem _ kw_248)) (fun _ h9 => h9) rfl dX10_bounds_22 ?_
          refine lv_goto (tgt := 29) hx hb dX10_bounds_25 (by decide) ?_
          obtain rfl := inj1 hf
          exact J27 _ _ hP hD hS _ (lv_sub hl [0, 1, 2] rfl)
  obtain ⟨y17, y18, hg, hf⟩ := bd2_some hf
  refine L38 FU _ _ _ _ _ hg ?_ _ _ hP hD hS _ (lv_sub hl [1, 2, 0] rfl)
  · intro H locs hP hD hS ls hl
    refine lv_aload_n hx hb dX10_bounds_60 rfl (lv_at hl 0 rfl) ?_
    refine lv_iconst (v := (1 : Int32)) hx hb dX10_bounds_61 (by decide) ?_
    refine va_put (D := (dC, dI)) (ci := 8) (v := .int (1 : Int32)) (ty := tyX10 15) (C := RX10) (T := TX10) (N := 32) hx hb hts (in1 tw_X10) tyX10 tyX10_ok nmX10 hown hK hP hD hS 0 rfl rfl 15 (by decide) (hts _ (List.mem_cons_of_mem _ kw_234)) (fun _ h9 => h9) rfl (tyX10_ok 15 (by decide)) rfl rfl (Nat.le_of_ble_eq_true rfl) dX10_bounds_62 (fun H locs hP hD hS => ?_)
    have hP : va_P (dC, dI) vwCl [(h_t, .inr (8, fX10 h_t_book h_t_images h_t_kept h_t_aside h_t_far h_t_then h_t_row h_t_mays h_t_firstRow h_t_low h_t_high t_noOlder t_thanThis t_known t_knownAge (1 : Int32) h_t_lowOne h_t_highOne h_t_ways t_met h_t_left t_hours t_greatest h_t_text t_typed t_at t_start t_token t_value h_t_verbs h_t_nums t_items)), (h_t_low, .inl (cI, 8, .inl y18)), (h_t_high, .inl (cI, 8, .inl y17)), (h_t_book, .inl (cI, 460, .inl t_book))] H := hP
    have hD : va_D A [(h_t, .inr (8, fX10 h_t_book h_t_images h_t_kept h_t_aside h_t_far h_t_then h_t_row h_t_mays h_t_firstRow h_t_low h_t_high t_noOlder t_thanThis t_known t_knownAge (1 : Int32) h_t_lowOne h_t_highOne h_t_ways t_met h_t_left t_hours t_greatest h_t_text t_typed t_at t_start t_token t_value h_t_verbs h_t_nums t_items)), (h_t_low, .inl (cI, 8, .inl y18)), (h_t_high, .inl (cI, 8, .inl y17)), (h_t_book, .inl (cI, 460, .inl t_book))] := hD
    refine lv_iconst (v := (1 : Int32)) hx hb dX10_bounds_65 (by decide) ?_
    refine lv_istore_n (lv' := [(2, .int (1 : Int32)), (0, .ref h_t), (1, .int p1)]) hx hb dX10_bounds_66 rfl hl (by decide) rfl (fun ls hl => ?_)
    refine lv_iconst (v := (0 : Int32)) hx hb dX10_bounds_67 (by decide) ?_
    refine lv_istore_n (lv' := [(3, .int (0 : Int32)), (2, .int (1 : Int32)), (0, .ref h_t), (1, .int p1)]) hx hb dX10_bounds_68 rfl hl (by decide) rfl (fun ls hl => ?_)
    have L188 : ∀ (fu120 : Nat) (y114 : Nat → Int32) (y115 : Nat → Int32) (x116 : Int32) (x117 : Int32) (x118 : Int32) (y110 : Nat → Int32) (y111 : Nat → Int32) (x112 : Int32) (x113 : Int32), f_X10_bounds_L6 t_book p1 t_noOlder t_thanThis fu120 y114 y115 x116 x117 x118 = some (y110, y111, x112, x113) → (∀ (H : Heap) (locs : List Loc), va_P (dC, dI) vwCl [(h_t, .inr (8, fX10 h_t_book h_t_images h_t_kept h_t_aside h_t_far h_t_then h_t_row h_t_mays h_t_firstRow h_t_low h_t_high t_noOlder t_thanThis t_known t_knownAge x112 h_t_lowOne h_t_highOne h_t_ways t_met h_t_left t_hours t_greatest h_t_text t_typed t_at t_start t_token t_value h_t_verbs h_t_nums t_items)), (h_t_low, .inl (cI, 8, .inl y111)), (h_t_high, .inl (cI, 8, .inl y110)), (h_t_book, .inl (cI, 460, .inl t_book))] H → va_D A [(h_t, .inr (8, fX10 h_t_book h_t_images h_t_kept h_t_aside h_t_far h_t_then h_t_row h_t_mays h_t_firstRow h_t_low h_t_high t_noOlder t_thanThis t_known t_knownAge x112 h_t_lowOne h_t_highOne h_t_ways t_met h_t_left t_hours t_greatest h_t_text t_typed t_at t_start t_token t_value h_t_verbs h_t_nums t_items)), (h_t_low, .inl (cI, 8, .inl y111)), (h_t_high, .inl (cI, 8, .inl y110)), (h_t_book, .inl (cI, 460, .inl t_book))] → va_S A s.heap H locs → ∀ ls : Array Slot, lv_has ls 5 [(0, .ref h_t), (2, .int x113)] → W p l e rmX10_bounds s m args below meth c H locs 0 0 Q (F0 m 222 ls [])) → ∀ (H : Heap) (locs : List Loc), va_P (dC, dI) vwCl [(h_t, .inr (8, fX10 h_t_book h_t_images h_t_kept h_t_aside h_t_far h_t_then h_t_row h_t_mays h_t_firstRow h_t_low h_t_high t_noOlder t_thanThis t_known t_knownAge x116 h_t_lowOne h_t_highOne h_t_ways t_met h_t_left t_hours t_greatest h_t_text t_typed t_at t_start t_token t_value h_t_verbs h_t_nums t_items)), (h_t_low, .inl (cI, 8, .inl y115)), (h_t_high, .inl (cI, 8, .inl y114)), (h_t_book, .inl (cI, 460, .inl t_book))] H → va_D A [(h_t, .inr (8, fX10 h_t_book h_t_images h_t_kept h_t_aside h_t_far h_t_then h_t_row h_t_mays h_t_firstRow h_t_low h_t_high t_noOlder t_thanThis t_known t_knownAge x116 h_t_lowOne h_t_highOne h_t_ways t_met h_t_left t_hours t_greatest h_t_text t_typed t_at t_start t_token t_value h_t_verbs h_t_nums t_items)), (h_t_low, .inl (cI, 8, .inl y115)), (h_t_high, .inl (cI, 8, .inl y114)), (h_t_book, .inl (cI, 460, .inl t_book))] → va_S A s.heap H locs → ∀ ls : Array Slot, lv_has ls 5 [(0, .ref h_t), (1, .int p1), (2, .int x117), (3, .int x118)] → W p l e rmX10_bounds s m args below meth c H locs 0 0 Q (F0 m 69 ls []) := by
      intro fu120
      induction fu120 with
      | zero =>
        intro y114 y115 x116 x117 x118 y110 y111 x112 x113 hf
        unfold f_X10_bounds_L6 at hf
        exact none_ne hf
      | succ fu120 ih119 =>
        intro y114 y115 x116 x117 x118 y110 y111 x112 x113 hf hX121 H locs hP hD hS ls hl
        unfold f_X10_bounds_L6 at hf
        refine lv_iload_n hx hb dX10_bounds_69 rfl (lv_at hl 3 rfl) ?_
        refine lv_bipush (v := (20 : Int32)) hx hb dX10_bounds_70 (by decide) ?_
        refine lv_icmp_ge (tgt := 222) hx hb dX10_bounds_72 (by decide) (fun c122 => ?_) (fun c122 => ?_)
        · replace hf := ifp c122 hf
          obtain ⟨rfl, rfl, rfl, rfl⟩ := inj4 hf
          exact hX121 _ _ hP hD hS _ (lv_sub hl [0, 2] rfl)
        · replace hf := ifn c122 hf
          refine lv_aload_n hx hb dX10_bounds_75 rfl (lv_at hl 0 rfl) ?_
          refine va_get (D := (dC, dI)) (ci := 8) (v := .int x116) (C := RX10) (T := TX10) (N := 32) hx hb hts (in1 tw_X10) hown hK hP 0 rfl rfl 15 (by decide) (hts _ (List.mem_cons_of_mem _ kw_234)) (fun _ h9 => h9) rfl dX10_bounds_76 ?_
          refine lv_if_eq (tgt := 222) hx hb dX10_bounds_79 (by decide) (fun c123 => ?_) (fun c123 => ?_)
          · replace hf := ifp c123 hf
            obtain ⟨rfl, rfl, rfl, rfl⟩ := inj4 hf
            exact hX121 _ _ hP hD hS _ (lv_sub hl [0, 2] rfl)
          · replace hf := ifn c123 hf
            refine lv_iload_n hx hb dX10_bounds_82 rfl (lv_at hl 2 rfl) ?_
            refine lv_if_eq (tgt := 222) hx hb dX10_bounds_83 (by decide) (fun c124 => ?_) (fun c124 => ?_)
            · replace hf := ifp c124 hf
              obtain ⟨rfl, rfl, rfl, rfl⟩ := inj4 hf
              exact hX121 _ _ hP hD hS _ (lv_sub hl [0, 2] rfl)
            · replace hf := ifn c124 hf
              refine lv_aload_n hx hb dX10_bounds_86 rfl (lv_at hl 0 rfl) ?_
              refine lv_iconst (v := (0 : Int32)) hx hb dX10_bounds_87 (by decide) ?_
              refine va_put (D := (dC, dI)) (ci := 8) (v := .int (0 : Int32)) (ty := tyX10 15) (C := RX10) (T := TX10) (N := 32) hx hb hts (in1 tw_X10) tyX10 tyX10_ok nmX10 hown hK hP hD hS 0 rfl rfl 15 (by decide) (hts _ (List.mem_cons_of_mem _ kw_234)) (fun _ h9 => h9) rfl (tyX10_ok 15 (by decide)) rfl rfl (Nat.le_of_ble_eq_true rfl) dX10_bounds_88 (fun H locs hP hD hS => ?_)
              have hP : va_P (dC, dI) vwCl [(h_t, .inr (8, fX10 h_t_book h_t_images h_t_kept h_t_aside h_t_far h_t_then h_t_row h_t_mays h_t_firstRow h_t_low h_t_high t_noOlder t_thanThis t_known t_knownAge (0 : Int32) h_t_lowOne h_t_highOne h_t_ways t_met h_t_left t_hours t_greatest h_t_text t_typed t_at t_start t_token t_value h_t_verbs h_t_nums t_items)), (h_t_low, .inl (cI, 8, .inl y115)), (h_t_high, .inl (cI, 8, .inl y114)), (h_t_book, .inl (cI, 460, .inl t_book))] H := hP
              have hD : va_D A [(h_t, .inr (8, fX10 h_t_book h_t_images h_t_kept h_t_aside h_t_far h_t_then h_t_row h_t_mays h_t_firstRow h_t_low h_t_high t_noOlder t_thanThis t_known t_knownAge (0 : Int32) h_t_lowOne h_t_highOne h_t_ways t_met h_t_left t_hours t_greatest h_t_text t_typed t_at t_start t_token t_value h_t_verbs h_t_nums t_items)), (h_t_low, .inl (cI, 8, .inl y115)), (h_t_high, .inl (cI, 8, .inl y114)), (h_t_book, .inl (cI, 460, .inl t_book))] := hD
              refine lv_iconst (v := (0 : Int32)) hx hb dX10_bounds_91 (by decide) ?_
              refine lv_istore (lv' := [(4, .int (0 : Int32)), (0, .ref h_t), (1, .int p1), (2, .int x117), (3, .int x118)]) hx hb dX10_bounds_92 hl (by decide) rfl (fun ls hl => ?_)
              have L153 : ∀ (fu144 : Nat) (y139 : Nat → Int32) (y140 : Nat → Int32) (x141 : Int32) (x142 : Int32) (y136 : Nat → Int32) (y137 : Nat → Int32) (x138 : Int32), f_X10_bounds_L7 t_book p1 fu144 y139 y140 x141 x142 = some (y136, y137, x138) → (∀ (H : Heap) (locs : List Loc), va_P (dC, dI) vwCl [(h_t, .inr (8, fX10 h_t_book h_t_images h_t_kept h_t_aside h_t_far h_t_then h_t_row h_t_mays h_t_firstRow h_t_low h_t_high t_noOlder t_thanThis t_known t_knownAge x138 h_t_lowOne h_t_highOne h_t_ways t_met h_t_left t_hours t_greatest h_t_text t_typed t_at t_start t_token t_value h_t_verbs h_t_nums t_items)), (h_t_low, .inl (cI, 8, .inl y137)), (h_t_high, .inl (cI, 8, .inl y136)), (h_t_book, .inl (cI, 460, .inl t_book))] H → va_D A [(h_t, .inr (8, fX10 h_t_book h_t_images h_t_kept h_t_aside h_t_far h_t_then h_t_row h_t_mays h_t_firstRow h_t_low h_t_high t_noOlder t_thanThis t_known t_knownAge x138 h_t_lowOne h_t_highOne h_t_ways t_met h_t_left t_hours t_greatest h_t_text t_typed t_at t_start t_token t_value h_t_verbs h_t_nums t_items)), (h_t_low, .inl (cI, 8, .inl y137)), (h_t_high, .inl (cI, 8, .inl y136)), (h_t_book, .inl (cI, 460, .inl t_book))] → va_S A s.heap H locs → ∀ ls : Array Slot, lv_has ls 5 [(0, .ref h_t), (1, .int p1), (2, .int x117), (3, .int x118)] → W p l e rmX10_bounds s m args below meth c H locs 0 0 Q (F0 m 127 ls [])) → ∀ (H : Heap) (locs : List Loc), va_P (dC, dI) vwCl [(h_t, .inr (8, fX10 h_t_book h_t_images h_t_kept h_t_aside h_t_far h_t_then h_t_row h_t_mays h_t_firstRow h_t_low h_t_high t_noOlder t_thanThis t_known t_knownAge x141 h_t_lowOne h_t_highOne h_t_ways t_met h_t_left t_hours t_greatest h_t_text t_typed t_at t_start t_token t_value h_t_verbs h_t_nums t_items)), (h_t_low, .inl (cI, 8, .inl y140)), (h_t_high, .inl (cI, 8, .inl y139)), (h_t_book, .inl (cI, 460, .inl t_book))] H → va_D A [(h_t, .inr (8, fX10 h_t_book h_t_images h_t_kept h_t_aside h_t_far h_t_then h_t_row h_t_mays h_t_firstRow h_t_low h_t_high t_noOlder t_thanThis t_known t_knownAge x141 h_t_lowOne h_t_highOne h_t_ways t_met h_t_left t_hours t_greatest h_t_text t_typed t_at t_start t_token t_value h_t_verbs h_t_nums t_items)), (h_t_low, .inl (cI, 8, .inl y140)), (h_t_high, .inl (cI, 8, .inl y139)), (h_t_book, .inl (cI, 460, .inl t_book))] → va_S A s.heap H locs → ∀ ls : Array Slot, lv_has ls 5 [(0, .ref h_t), (1, .int p1), (2, .int x117), (3, .int x118), (4, .int x142)] → W p l e rmX10_bounds s m args below meth c H locs 0 0 Q (F0 m 94 ls []) := by
                intro fu144
                induction fu144 with
                | zero =>
                  intro y139 y140 x141 x142 y136 y137 x138 hf
                  unfold f_X10_bounds_L7 at hf
                  exact none_ne hf
                | succ fu144 ih143 =>
                  intro y139 y140 x141 x142 y136 y137 x138 hf hX145 H locs hP hD hS ls hl
                  unfold f_X10_bounds_L7 at hf
                  refine lv_iload hx hb dX10_bounds_94 (lv_at hl 4 rfl) ?_
                  refine lv_aload_n hx hb dX10_bounds_96 rfl (lv_at hl 0 rfl) ?_
                  refine va_get (D := (dC, dI)) (ci := 8) (v := .ref h_t_book) (C := RX10) (T := TX10) (N := 32) hx hb hts (in1 tw_X10) hown hK hP 0 rfl rfl 0 (by decide) (hts _ (List.mem_cons_of_mem _ kw_116)) (fun _ h9 => h9) rfl dX10_bounds_97 ?_
                  refine lv_iconst (v := (4 : Int32)) hx hb dX10_bounds_100 (by decide) ?_
                  obtain ⟨g146, hf⟩ := chk_some hf
                  refine va_iald hx hb hK hP 3 0 rfl rfl (gin_in g146) dX10_bounds_101 ?_
                  refine lv_icmp_ge (tgt := 127) hx hb dX10_bounds_102 (by decide) (fun c147 => ?_) (fun c147 => ?_)
                  · replace hf := ifp c147 hf
                    obtain ⟨rfl, rfl, rfl⟩ := inj3 hf
                    exact hX145 _ _ hP hD hS _ (lv_sub hl [0, 1, 2, 3] rfl)
                  · replace hf := ifn c147 hf
                    refine lv_iload_n hx hb dX10_bounds_105 rfl (lv_at hl 1 rfl) ?_
                    refine lv_iload hx hb dX10_bounds_106 (lv_at hl 4 rfl) ?_
                    refine lv_ishr hx hb dX10_bounds_108 ?_
                    refine lv_iconst (v := (1 : Int32)) hx hb dX10_bounds_109 (by decide) ?_
                    refine lv_iand hx hb dX10_bounds_110 ?_
                    refine lv_iconst (v := (1 : Int32)) hx hb dX10_bounds_111 (by decide) ?_
                    refine lv_icmp_ne (tgt := 121) hx hb dX10_bounds_112 (by decide) (fun c148 => ?_) (fun c148 => ?_)
                    · replace hf := ifn c148 hf
                      refine lv_iinc (v := (x142 + (1 : Int32))) (lv' := [(4, .int (x142 + (1 : Int32))), (0, .ref h_t), (1, .int p1), (2, .int x117), (3, .int x118)]) hx hb dX10_bounds_121 hl (k := 4) rfl rfl (by decide) rfl (fun ls hl => ?_)
                      refine lv_goto (tgt := 94) hx hb dX10_bounds_124 (by decide) ?_
                      exact ih143 _ _ _ _ _ _ _ hf hX145 _ _ hP hD hS _ (lv_sub hl [1, 2, 3, 4, 0] rfl)
                    · replace hf := ifp c148 hf
                      refine lv_aload_n hx hb dX10_bounds_115 rfl (lv_at hl 0 rfl) ?_
                      refine lv_iload hx hb dX10_bounds_116 (lv_at hl 4 rfl) ?_
                      obtain ⟨x149, y150, y151, hg152, hf⟩ := bd3_some hf
                      refine CM_callV (C := RX10) (As := [.int x142]) (rest := []) (wc := [(h_t, .inr (8, fX10 h_t_book h_t_images h_t_kept h_t_aside h_t_far h_t_then h_t_row h_t_mays h_t_firstRow h_t_low h_t_high t_noOlder t_thanThis t_known t_knownAge x141 h_t_lowOne h_t_highOne h_t_ways t_met h_t_left t_hours t_greatest h_t_text t_typed t_at t_start t_token t_value h_t_verbs h_t_nums t_items)), (h_t_book, .inl (cI, 460, .inl t_book)), (h_t_low, .inl (cI, 8, .inl y140)), (h_t_high, .inl (cI, 8, .inl y139))]) (w1 := [(h_t, .inr (8, fX10 h_t_book h_t_images h_t_kept h_t_aside h_t_far h_t_then h_t_row h_t_mays h_t_firstRow h_t_low h_t_high t_noOlder t_thanThis t_known t_knownAge x149 h_t_lowOne h_t_highOne h_t_ways t_met h_t_left t_hours t_greatest h_t_text t_typed t_at t_start t_token t_value h_t_verbs h_t_nums t_items)), (h_t_book, .inl (cI, 460, .inl t_book)), (h_t_low, .inl (cI, 8, .inl y150)), (h_t_high, .inl (cI, 8, .inl y151))]) (wr := []) (wo := [(h_t, .inr (8, fX10 h_t_book h_t_images h_t_kept h_t_aside h_t_far h_t_then h_t_row h_t_mays h_t_firstRow h_t_low h_t_high t_noOlder t_thanThis t_known t_knownAge x149 h_t_lowOne h_t_highOne h_t_ways t_met h_t_left t_hours t_greatest h_t_text t_typed t_at t_start t_token t_value h_t_verbs h_t_nums t_items)), (h_t_low, .inl (cI, 8, .inl y150)), (h_t_high, .inl (cI, 8, .inl y151)), (h_t_book, .inl (cI, 460, .inl t_book))]) (v := (none)) ⟨hx, hb, hml, hown, hts⟩ (c_X10_bears l dC dI cI cZ te h_t h_t_book h_t_images h_t_kept h_t_aside h_t_far h_t_then h_t_row h_t_mays h_t_firstRow h_t_low h_t_high h_t_lowOne h_t_highOne h_t_ways h_t_left h_t_text h_t_verbs h_t_nums t_noOlder t_thanThis t_known t_knownAge x141 t_met t_hours t_greatest t_typed t_at t_start t_token t_value t_items t_book y140 y139 x142 x149 y150 y151 hg152) (cwV 1 hts (gV kw_249 kw_250 kw_251 kw_159 kw_252) rfl rfl rfl (by decide +kernel) ⟨Nat.le_of_ble_eq_true rfl, Nat.le_of_ble_eq_true rfl⟩) (kS_env te) hK hP hD hS hA hE [0, 3, 1, 2] [] [0, 2, 3, 1] rfl rfl (by decide) (by decide) (by decide) (by decide) rfl 0 8 rfl rfl rfl rfl hl.1 rfl (Nat.le_of_ble_eq_true rfl) dX10_bounds_118 ⟨Nat.zero_le _, Nat.zero_le _⟩ (fun H locs hP hD hS => ?_)
                      show W p l e rmX10_bounds s m args below meth c H locs 0 0 Q (F0 m 121 ls [])
                      refine lv_iinc (v := (x142 + (1 : Int32))) (lv' := [(4, .int (x142 + (1 : Int32))), (0, .ref h_t), (1, .int p1), (2, .int x117), (3, .int x118)]) hx hb dX10_bounds_121 hl (k := 4) rfl rfl (by decide) rfl (fun ls hl => ?_)
                      refine lv_goto (tgt := 94) hx hb dX10_bounds_124 (by decide) ?_
                      exact ih143 _ _ _ _ _ _ _ hf hX145 _ _ hP hD hS _ (lv_sub hl [1, 2, 3, 4, 0] rfl)
              obtain ⟨y136, y137, x138, hg, hf⟩ := bd3_some hf
              refine L153 FU _ _ _ _ _ _ _ hg ?_ _ _ hP hD hS _ (lv_sub hl [1, 2, 3, 4, 0] rfl)
              · intro H locs hP hD hS ls hl
                refine lv_aload_n hx hb dX10_bounds_127 rfl (lv_at hl 0 rfl) ?_
                refine va_get (D := (dC, dI)) (ci := 8) (v := .int t_noOlder) (C := RX10) (T := TX10) (N := 32) hx hb hts (in1 tw_X10) hown hK hP 0 rfl rfl 11 (by decide) (hts _ (List.mem_cons_of_mem _ kw_253)) (fun _ h9 => h9) rfl dX10_bounds_128 ?_
                refine lv_iconst (v := (-1 : Int32)) hx hb dX10_bounds_131 (by decide) ?_
                obtain ⟨y154, y155, x156, hg, hf⟩ := bd3_some hf
                have J157 : ∀ (H : Heap) (locs : List Loc), va_P (dC, dI) vwCl [(h_t, .inr (8, fX10 h_t_book h_t_images h_t_kept h_t_aside h_t_far h_t_then h_t_row h_t_mays h_t_firstRow h_t_low h_t_high t_noOlder t_thanThis t_known t_knownAge x156 h_t_lowOne h_t_highOne h_t_ways t_met h_t_left t_hours t_greatest h_t_text t_typed t_at t_start t_token t_value h_t_verbs h_t_nums t_items)), (h_t_low, .inl (cI, 8, .inl y155)), (h_t_high, .inl (cI, 8, .inl y154)), (h_t_book, .inl (cI, 460, .inl t_book))] H → va_D A [(h_t, .inr (8, fX10 h_t_book h_t_images h_t_kept h_t_aside h_t_far h_t_then h_t_row h_t_mays h_t_firstRow h_t_low h_t_high t_noOlder t_thanThis t_known t_knownAge x156 h_t_lowOne h_t_highOne h_t_ways t_met h_t_left t_hours t_greatest h_t_text t_typed t_at t_start t_token t_value h_t_verbs h_t_nums t_items)), (h_t_low, .inl (cI, 8, .inl y155)), (h_t_high, .inl (cI, 8, .inl y154)), (h_t_book, .inl (cI, 460, .inl t_book))] → va_S A s.heap H locs → ∀ ls : Array Slot, lv_has ls 5 [(0, .ref h_t), (1, .int p1), (2, .int x117), (3, .int x118)] → W p l e rmX10_bounds s m args below meth c H locs 0 0 Q (F0 m 169 ls []) := by
                  intro H locs hP hD hS ls hl
                  refine lv_iconst (v := (0 : Int32)) hx hb dX10_bounds_169 (by decide) ?_
                  refine lv_istore (lv' := [(4, .int (0 : Int32)), (0, .ref h_t), (1, .int p1), (2, .int x117), (3, .int x118)]) hx hb dX10_bounds_170 hl (by decide) rfl (fun ls hl => ?_)
                  have L178 : ∀ (fu170 : Nat) (x167 : Int32) (x168 : Int32) (x166 : Int32), f_X10_bounds_L8 t_book y154 y155 fu170 x167 x168 = some x166 → (∀ (H : Heap) (locs : List Loc), va_P (dC, dI) vwCl [(h_t, .inr (8, fX10 h_t_book h_t_images h_t_kept h_t_aside h_t_far h_t_then h_t_row h_t_mays h_t_firstRow h_t_low h_t_high t_noOlder t_thanThis t_known t_knownAge x156 h_t_lowOne h_t_highOne h_t_ways t_met h_t_left t_hours t_greatest h_t_text t_typed t_at t_start t_token t_value h_t_verbs h_t_nums t_items)), (h_t_low, .inl (cI, 8, .inl y155)), (h_t_high, .inl (cI, 8, .inl y154)), (h_t_book, .inl (cI, 460, .inl t_book))] H → va_D A [(h_t, .inr (8, fX10 h_t_book h_t_images h_t_kept h_t_aside h_t_far h_t_then h_t_row h_t_mays h_t_firstRow h_t_low h_t_high t_noOlder t_thanThis t_known t_knownAge x156 h_t_lowOne h_t_highOne h_t_ways t_met h_t_left t_hours t_greatest h_t_text t_typed t_at t_start t_token t_value h_t_verbs h_t_nums t_items)), (h_t_low, .inl (cI, 8, .inl y155)), (h_t_high, .inl (cI, 8, .inl y154)), (h_t_book, .inl (cI, 460, .inl t_book))] → va_S A s.heap H locs → ∀ ls : Array Slot, lv_has ls 5 [(0, .ref h_t), (1, .int p1), (2, .int x166), (3, .int x118)] → W p l e rmX10_bounds s m args below meth c H locs 0 0 Q (F0 m 216 ls [])) → ∀ (H : Heap) (locs : List Loc), va_P (dC, dI) vwCl [(h_t, .inr (8, fX10 h_t_book h_t_images h_t_kept h_t_aside h_t_far h_t_then h_t_row h_t_mays h_t_firstRow h_t_low h_t_high t_noOlder t_thanThis t_known t_knownAge x156 h_t_lowOne h_t_highOne h_t_ways t_met h_t_left t_hours t_greatest h_t_text t_typed t_at t_start t_token t_value h_t_verbs h_t_nums t_items)), (h_t_low, .inl (cI, 8, .inl y155)), (h_t_high, .inl (cI, 8, .inl y154)), (h_t_book, .inl (cI, 460, .inl t_book))] H → va_D A [(h_t, .inr (8, fX10 h_t_book h_t_images h_t_kept h_t_aside h_t_far h_t_then h_t_row h_t_mays h_t_firstRow h_t_low h_t_high t_noOlder t_thanThis t_known t_knownAge x156 h_t_lowOne h_t_highOne h_t_ways t_met h_t_left t_hours t_greatest h_t_text t_typed t_at t_start t_token t_value h_t_verbs h_t_nums t_items)), (h_t_low, .inl (cI, 8, .inl y155)), (h_t_high, .inl (cI, 8, .inl y154)), (h_t_book, .inl (cI, 460, .inl t_book))] → va_S A s.heap H locs → ∀ ls : Array Slot, lv_has ls 5 [(0, .ref h_t), (1, .int p1), (2, .int x167), (3, .int x118), (4, .int x168)] → W p l e rmX10_bounds s m args below meth c H locs 0 0 Q (F0 m 172 ls []) := by
                    intro fu170
                    induction fu170 with
                    | zero =>
                      intro x167 x168 x166 hf
                      unfold f_X10_bounds_L8 at hf
                      exact none_ne hf
                    | succ fu170 ih169 =>
                      intro x167 x168 x166 hf hX171 H locs hP hD hS ls hl
                      unfold f_X10_bounds_L8 at hf
                      refine lv_iload hx hb dX10_bounds_172 (lv_at hl 4 rfl) ?_
                      refine lv_aload_n hx hb dX10_bounds_174 rfl (lv_at hl 0 rfl) ?_
                      refine va_get (D := (dC, dI)) (ci := 8) (v := .ref h_t_book) (C := RX10) (T := TX10) (N := 32) hx hb hts (in1 tw_X10) hown hK hP 0 rfl rfl 0 (by decide) (hts _ (List.mem_cons_of_mem _ kw_116)) (fun _ h9 => h9) rfl dX10_bounds_175 ?_
                      refine lv_iconst (v := (3 : Int32)) hx hb dX10_bounds_178 (by decide) ?_
                      obtain ⟨g172, hf⟩ := chk_some hf
                      refine va_iald hx hb hK hP 3 0 rfl rfl (gin_in g172) dX10_bounds_179 ?_
                      refine lv_icmp_ge (tgt := 216) hx hb dX10_bounds_180 (by decide) (fun c173 => ?_) (fun c173 => ?_)
                      · replace hf := ifp c173 hf
                        obtain rfl := inj1 hf
                        exact hX171 _ _ hP hD hS _ (lv_sub hl [0, 1, 2, 3] rfl)
                      · replace hf := ifn c173 hf
                        refine lv_iload_n hx hb dX10_bounds_183 rfl (lv_at hl 2 rfl) ?_
                        refine lv_if_eq (tgt := 208) hx hb dX10_bounds_184 (by decide) (fun c174 => ?_) (fun c174 => ?_)
                        · replace hf := ifp c174 hf
                          refine lv_iconst (v := (0 : Int32)) hx hb dX10_bounds_208 (by decide) ?_
                          refine lv_istore_n (lv' := [(2, .int (0 : Int32)), (0, .ref h_t), (1, .int p1), (3, .int x118), (4, .int x168)]) hx hb dX10_bounds_209 rfl hl (by decide) rfl (fun ls hl => ?_)
                          refine lv_iinc (v := (x168 + (1 : Int32))) (lv' := [(4, .int (x168 + (1 : Int32))), (2, .int (0 : Int32)), (0, .ref h_t), (1, .int p1), (3, .int x118)]) hx hb dX10_bounds_210 hl (k := 4) rfl rfl (by decide) rfl (fun ls hl => ?_)
                          refine lv_goto (tgt := 172) hx hb dX10_bounds_213 (by decide) ?_
                          exact ih169 _ _ _ hf hX171 _ _ hP hD hS _ (lv_sub hl [2, 3, 1, 4, 0] rfl)
                        · replace hf := ifn c174 hf
                          refine lv_aload_n hx hb dX10_bounds_187 rfl (lv_at hl 0 rfl) ?_
                          refine va_get (D := (dC, dI)) (ci := 8) (v := .ref h_t_low) (C := RX10) (T := TX10) (N := 32) hx hb hts (in1 tw_X10) hown hK hP 0 rfl rfl 9 (by decide) (hts _ (List.mem_cons_of_mem _ kw_126)) (fun _ h9 => h9) rfl dX10_bounds_188 ?_
                          refine lv_iload hx hb dX10_bounds_191 (lv_at hl 4 rfl) ?_
                          obtain ⟨g175, hf⟩ := chk_some hf
                          refine va_iald hx hb hK hP 1 0 rfl rfl (gin_in g175) dX10_bounds_193 ?_
                          refine lv_aload_n hx hb dX10_bounds_194 rfl (lv_at hl 0 rfl) ?_
                          refine va_get (D := (dC, dI)) (ci := 8) (v := .ref h_t_high) (C := RX10) (T := TX10) (N := 32) hx hb hts (in1 tw_X10) hown hK hP 0 rfl rfl 10 (by decide) (hts _ (List.mem_cons_of_mem _ kw_127)) (fun _ h9 => h9) rfl dX10_bounds_195 ?_
                          refine lv_iload hx hb dX10_bounds_198 (lv_at hl 4 rfl) ?_
                          obtain ⟨g176, hf⟩ := chk_some hf
                          refine va_iald hx hb hK hP 2 0 rfl rfl (gin_in g176) dX10_bounds_200 ?_
                          refine lv_icmp_gt (tgt := 208) hx hb dX10_bounds_201 (by decide) (fun c177 => ?_) (fun c177 => ?_)
                          · replace hf := ifp c177 hf
                            refine lv_iconst (v := (0 : Int32)) hx hb dX10_bounds_208 (by decide) ?_
                            refine lv_istore_n (lv' := [(2, .int (0 : Int32)), (0, .ref h_t), (1, .int p1), (3, .int x118), (4, .int x168)]) hx hb dX10_bounds_209 rfl hl (by decide) rfl (fun ls hl => ?_)
                            refine lv_iinc (v := (x168 + (1 : Int32))) (lv' := [(4, .int (x168 + (1 : Int32))), (2, .int (0 : Int32)), (0, .ref h_t), (1, .int p1), (3, .int x118)]) hx hb dX10_bounds_210 hl (k := 4) rfl rfl (by decide) rfl (fun ls hl => ?_)
                            refine lv_goto (tgt := 172) hx hb dX10_bounds_213 (by decide) ?_
                            exact ih169 _ _ _ hf hX171 _ _ hP hD hS _ (lv_sub hl [2, 3, 1, 4, 0] rfl)
                          · replace hf := ifn c177 hf
                            refine lv_iconst (v := (1 : Int32)) hx hb dX10_bounds_204 (by decide) ?_
                            refine lv_goto (tgt := 209) hx hb dX10_bounds_205 (by decide) ?_
                            refine lv_istore_n (lv' := [(2, .int (1 : Int32)), (0, .ref h_t), (1, .int p1), (3, .int x118), (4, .int x168)]) hx hb dX10_bounds_209 rfl hl (by decide) rfl (fun ls hl => ?_)
                            refine lv_iinc (v := (x168 + (1 : Int32))) (lv' := [(4, .int (x168 + (1 : Int32))), (2, .int (1 : Int32)), (0, .ref h_t), (1, .int p1), (3, .int x118)]) hx hb dX10_bounds_210 hl (k := 4) rfl rfl (by decide) rfl (fun ls hl => ?_)
                            refine lv_goto (tgt := 172) hx hb dX10_bounds_213 (by decide) ?_
                            exact ih169 _ _ _ hf hX171 _ _ hP hD hS _ (lv_sub hl [2, 3, 1, 4, 0] rfl)
                  obtain ⟨x166, hg, hf⟩ := bd1_some hf
                  refine L178 FU _ _ _ hg ?_ _ _ hP hD hS _ (lv_sub hl [1, 2, 3, 4, 0] rfl)
                  · intro H locs hP hD hS ls hl
                    refine lv_iinc (v := (x118 + (1 : Int32))) (lv' := [(3, .int (x118 + (1 : Int32))), (0, .ref h_t), (1, .int p1), (2, .int x166)]) hx hb dX10_bounds_216 hl (k := 3) rfl rfl (by decide) rfl (fun ls hl => ?_)
                    refine lv_goto (tgt := 69) hx hb dX10_bounds_219 (by decide) ?_
                    exact ih119 _ _ _ _ _ _ _ _ _ hf hX121 _ _ hP hD hS _ (lv_sub hl [1, 2, 3, 0] rfl)
                clear hf
                have hf := hg
                refine lv_icmp_eq (tgt := 169) hx hb dX10_bounds_132 (by decide) (fun c179 => ?_) (fun c179 => ?_)
                · replace hf := ifp c179 hf
                  obtain ⟨rfl, rfl, rfl⟩ := inj3 hf
                  exact J157 _ _ hP hD hS _ (lv_sub hl [0, 1, 2, 3] rfl)
                · replace hf := ifn c179 hf
                  refine lv_aload_n hx hb dX10_bounds_135 rfl (lv_at hl 0 rfl) ?_
                  refine lv_aload_n hx hb dX10_bounds_136 rfl (lv_at hl 0 rfl) ?_
                  refine va_get (D := (dC, dI)) (ci := 8) (v := .int t_thanThis) (C := RX10) (T := TX10) (N := 32) hx hb hts (in1 tw_X10) hown hK hP 0 rfl rfl 12 (by decide) (hts _ (List.mem_cons_of_mem _ kw_254)) (fun _ h9 => h9) rfl dX10_bounds_137 ?_
                  refine lv_aload_n hx hb dX10_bounds_140 rfl (lv_at hl 0 rfl) ?_
                  refine va_get (D := (dC, dI)) (ci := 8) (v := .ref h_t_low) (C := RX10) (T := TX10) (N := 32) hx hb hts (in1 tw_X10) hown hK hP 0 rfl rfl 9 (by decide) (hts _ (List.mem_cons_of_mem _ kw_126)) (fun _ h9 => h9) rfl dX10_bounds_141 ?_
                  refine lv_aload_n hx hb dX10_bounds_144 rfl (lv_at hl 0 rfl) ?_
                  refine va_get (D := (dC, dI)) (ci := 8) (v := .int t_noOlder) (C := RX10) (T := TX10) (N := 32) hx hb hts (in1 tw_X10) hown hK hP 0 rfl rfl 11 (by decide) (hts _ (List.mem_cons_of_mem _ kw_253)) (fun _ h9 => h9) rfl dX10_bounds_145 ?_
                  obtain ⟨g180, hf⟩ := chk_some hf
                  refine va_iald hx hb hK hP 1 0 rfl rfl (gin_in g180) dX10_bounds_148 ?_
                  obtain ⟨x181, y182, hg183, hf⟩ := bd2_some hf
                  refine CM_callV (C := RX10) (As := [.int t_thanThis, .int (y137 t_noOlder.toNatClampNeg)]) (rest := []) (wc := [(h_t, .inr (8, fX10 h_t_book h_t_images h_t_kept h_t_aside h_t_far h_t_then h_t_row h_t_mays h_t_firstRow h_t_low h_t_high t_noOlder t_thanThis t_known t_knownAge x138 h_t_lowOne h_t_highOne h_t_ways t_met h_t_left t_hours t_greatest h_t_text t_typed t_at t_start t_token t_value h_t_verbs h_t_nums t_items)), (h_t_low, .inl (cI, 8, .inl y137))]) (w1 := [(h_t, .inr (8, fX10 h_t_book h_t_images h_t_kept h_t_aside h_t_far h_t_then h_t_row h_t_mays h_t_firstRow h_t_low h_t_high t_noOlder t_thanThis t_known t_knownAge x181 h_t_lowOne h_t_highOne h_t_ways t_met h_t_left t_hours t_greatest h_t_text t_typed t_at t_start t_token t_value h_t_verbs h_t_nums t_items)), (h_t_low, .inl (cI, 8, .inl y182))]) (wr := [(h_t_high, .inl (cI, 8, .inl y136)), (h_t_book, .inl (cI, 460, .inl t_book))]) (wo := [(h_t, .inr (8, fX10 h_t_book h_t_images h_t_kept h_t_aside h_t_far h_t_then h_t_row h_t_mays h_t_firstRow h_t_low h_t_high t_noOlder t_thanThis t_known t_knownAge x181 h_t_lowOne h_t_highOne h_t_ways t_met h_t_left t_hours t_greatest h_t_text t_typed t_at t_start t_token t_value h_t_verbs h_t_nums t_items)), (h_t_low, .inl (cI, 8, .inl y182)), (h_t_high, .inl (cI, 8, .inl y136)), (h_t_book, .inl (cI, 460, .inl t_book))]) (v := (none)) ⟨hx, hb, hml, hown, hts⟩ (c_X10_atLeast l dC dI cI cZ te h_t h_t_book h_t_images h_t_kept h_t_aside h_t_far h_t_then h_t_row h_t_mays h_t_firstRow h_t_low h_t_high h_t_lowOne h_t_highOne h_t_ways h_t_left h_t_text h_t_verbs h_t_nums t_noOlder t_thanThis t_known t_knownAge x138 t_met t_hours t_greatest t_typed t_at t_start t_token t_value t_items y137 t_thanThis (y137 t_noOlder.toNatClampNeg) x181 y182 hg183) (cwV 2 hts (gV kw_239 kw_240 kw_241 kw_159 kw_242) rfl rfl rfl (by decide +kernel) ⟨Nat.le_of_ble_eq_true rfl, Nat.le_of_ble_eq_true rfl⟩) (kS_env te) hK hP hD hS hA hE [0, 1] [2, 3] [2, 3, 0, 1] rfl rfl (by decide) (by decide) (by decide) (by decide) rfl 0 8 rfl rfl rfl rfl hl.1 rfl (Nat.le_of_ble_eq_true rfl) dX10_bounds_149 ⟨Nat.zero_le _, Nat.zero_le _⟩ (fun H locs hP hD hS => ?_)
                  show W p l e rmX10_bounds s m args below meth c H locs 0 0 Q (F0 m 152 ls [])
                  refine lv_aload_n hx hb dX10_bounds_152 rfl (lv_at hl 0 rfl) ?_
                  refine lv_aload_n hx hb dX10_bounds_153 rfl (lv_at hl 0 rfl) ?_
                  refine va_get (D := (dC, dI)) (ci := 8) (v := .int t_noOlder) (C := RX10) (T := TX10) (N := 32) hx hb hts (in1 tw_X10) hown hK hP 0 rfl rfl 11 (by decide) (hts _ (List.mem_cons_of_mem _ kw_253)) (fun _ h9 => h9) rfl dX10_bounds_154 ?_
                  refine lv_aload_n hx hb dX10_bounds_157 rfl (lv_at hl 0 rfl) ?_
                  refine va_get (D := (dC, dI)) (ci := 8) (v := .ref h_t_high) (C := RX10) (T := TX10) (N := 32) hx hb hts (in1 tw_X10) hown hK hP 0 rfl rfl 10 (by decide) (hts _ (List.mem_cons_of_mem _ kw_127)) (fun _ h9 => h9) rfl dX10_bounds_158 ?_
                  refine lv_aload_n hx hb dX10_bounds_161 rfl (lv_at hl 0 rfl) ?_
                  refine va_get (D := (dC, dI)) (ci := 8) (v := .int t_thanThis) (C := RX10) (T := TX10) (N := 32) hx hb hts (in1 tw_X10) hown hK hP 0 rfl rfl 12 (by decide) (hts _ (List.mem_cons_of_mem _ kw_254)) (fun _ h9 => h9) rfl dX10_bounds_162 ?_
                  obtain ⟨g184, hf⟩ := chk_some hf
                  refine va_iald hx hb hK hP 2 0 rfl rfl (gin_in g184) dX10_bounds_165 ?_
                  obtain ⟨x185, y186, hg187, hf⟩ := bd2_some hf
                  refine CM_callV (C := RX10) (As := [.int t_noOlder, .int (y136 t_thanThis.toNatClampNeg)]) (rest := []) (wc := [(h_t, .inr (8, fX10 h_t_book h_t_images h_t_kept h_t_aside h_t_far h_t_then h_t_row h_t_mays h_t_firstRow h_t_low h_t_high t_noOlder t_thanThis t_known t_knownAge x181 h_t_lowOne h_t_highOne h_t_ways t_met h_t_left t_hours t_greatest h_t_text t_typed t_at t_start t_token t_value h_t_verbs h_t_nums t_items)), (h_t_high, .inl (cI, 8, .inl y136))]) (w1 := [(h_t, .inr (8, fX10 h_t_book h_t_images h_t_kept h_t_aside h_t_far h_t_then h_t_row h_t_mays h_t_firstRow h_t_low h_t_high t_noOlder t_thanThis t_known t_knownAge x185 h_t_lowOne h_t_highOne h_t_ways t_met h_t_left t_hours t_greatest h_t_text t_typed t_at t_start t_token t_value h_t_verbs h_t_nums t_items)), (h_t_high, .inl (cI, 8, .inl y186))]) (wr := [(h_t_low, .inl (cI, 8, .inl y182)), (h_t_book, .inl (cI, 460, .inl t_book))]) (wo := [(h_t, .inr (8, fX10 h_t_book h_t_images h_t_kept h_t_aside h_t_far h_t_then h_t_row h_t_mays h_t_firstRow h_t_low h_t_high t_noOlder t_thanThis t_known t_knownAge x185 h_t_lowOne h_t_highOne h_t_ways t_met h_t_left t_hours t_greatest h_t_text t_typed t_at t_start t_token t_value h_t_verbs h_t_nums t_items)), (h_t_low, .inl (cI, 8, .inl y182)), (h_t_high, .inl (cI, 8, .inl y186)), (h_t_book, .inl (cI, 460, .inl t_book))]) (v := (none)) ⟨hx, hb, hml, hown, hts⟩ (c_X10_atMost l dC dI cI cZ te h_t h_t_book h_t_images h_t_kept h_t_aside h_t_far h_t_then h_t_row h_t_mays h_t_firstRow h_t_low h_t_high h_t_lowOne h_t_highOne h_t_ways h_t_left h_t_text h_t_verbs h_t_nums t_noOlder t_thanThis t_known t_knownAge x181 t_met t_hours t_greatest t_typed t_at t_start t_token t_value t_items y136 t_noOlder (y136 t_thanThis.toNatClampNeg) x185 y186 hg187) (cwV 2 hts (gV kw_243 kw_244 kw_245 kw_159 kw_246) rfl rfl rfl (by decide +kernel) ⟨Nat.le_of_ble_eq_true rfl, Nat.le_of_ble_eq_true rfl⟩) (kS_env te) hK hP hD hS hA hE [0, 2] [1, 3] [2, 0, 3, 1] rfl rfl (by decide) (by decide) (by decide) (by decide) rfl 0 8 rfl rfl rfl rfl hl.1 rfl (Nat.le_of_ble_eq_true rfl) dX10_bounds_166 ⟨Nat.zero_le _, Nat.zero_le _⟩ (fun H locs hP hD hS => ?_)
                  show W p l e rmX10_bounds s m args below meth c H locs 0 0 Q (F0 m 169 ls [])
                  obtain ⟨rfl, rfl, rfl⟩ := inj3 hf
                  exact J157 _ _ hP hD hS _ (lv_sub hl [0, 1, 2, 3] rfl)
    obtain ⟨y110, y111, x112, x113, hg, hf⟩ := bd4_some hf
    refine L188 FU _ _ _ _ _ _ _ _ _ hg ?_ _ _ hP hD hS _ (lv_sub hl [2, 3, 1, 0] rfl)
    · intro H locs hP hD hS ls hl
      refine lv_iload_n hx hb dX10_bounds_222 rfl (lv_at hl 1 rfl) ?_
      refine lv_if_eq (tgt := 237) hx hb dX10_bounds_223 (by decide) (fun c189 => ?_) (fun c189 => ?_)
      · replace hf := ifp c189 hf
        refine lv_iconst (v := (0 : Int32)) hx hb dX10_bounds_237 (by decide) ?_
        obtain ⟨rfl, rfl, rfl, rfl⟩ := inj4 hf
        subst hQ
        exact CM_iret hx hb hr rfl hlocks hAe hP hD hS dX10_bounds_238
      · replace hf := ifn c189 hf
        refine lv_aload_n hx hb dX10_bounds_226 rfl (lv_at hl 0 rfl) ?_
        refine va_get (D := (dC, dI)) (ci := 8) (v := .int x112) (C := RX10) (T := TX10) (N := 32) hx hb hts (in1 tw_X10) hown hK hP 0 rfl rfl 15 (by decide) (hts _ (List.mem_cons_of_mem _ kw_234)) (fun _ h9 => h9) rfl dX10_bounds_227 ?_
        refine lv_if_ne (tgt := 237) hx hb dX10_bounds_230 (by decide) (fun c190 => ?_) (fun c190 => ?_)
        · replace hf := ifn c190 hf
          refine lv_iconst (v := (0 : Int32)) hx hb dX10_bounds_237 (by decide) ?_
          obtain ⟨rfl, rfl, rfl, rfl⟩ := inj4 hf
          subst hQ
          exact CM_iret hx hb hr rfl hlocks hAe hP hD hS dX10_bounds_238
        · replace hf := ifp c190 hf
          refine lv_iconst (v := (1 : Int32)) hx hb dX10_bounds_233 (by decide) ?_
          refine lv_goto (tgt := 238) hx hb dX10_bounds_234 (by decide) ?_
          obtain ⟨rfl, rfl, rfl, rfl⟩ := inj4 hf
          subst hQ
          exact CM_iret hx hb hr rfl hlocks hAe hP hD hS dX10_bounds_238
def rmX10_plain : Room := { frames := 3, cells := 0, slots := 0, locals := 69 }
abbrev wqX10_plain : List Cond := Cond.code yX10_plain cX10_plain 2 (some .boolean) :: tG
set_option maxHeartbeats 4000000 in
set_option maxRecDepth 100000 in
theorem c_X10_plain (l : Launch) (dC : Nat → ClassId) (dI : Nat → Nat → Nat) (cI cZ : ClassId) (te : Nat → Nat) (h_t : Nat) (h_t_book : Nat) (h_t_images : Nat) (h_t_kept : Nat) (h_t_aside : Nat) (h_t_far : Nat) (h_t_then : Nat) (h_t_row : Nat) (h_t_mays : Nat) (h_t_firstRow : Nat) (h_t_low : Nat) (h_t_high : Nat) (h_t_lowOne : Nat) (h_t_highOne : Nat) (h_t_ways : Nat) (h_t_left : Nat) (h_t_text : Nat) (h_t_verbs : Nat) (h_t_nums : Nat) (t_noOlder : Int32) (t_thanThis : Int32) (t_known : Int32) (t_knownAge : Int32) (t_moved : Int32) (t_met : Int32) (t_hours : Int32) (t_greatest : Int32) (t_typed : Int32) (t_at : Int32) (t_start : Int32) (t_token : Int32) (t_value : Int32) (t_items : Int32) (t_low : Nat → Int32) (t_high : Nat → Int32) (t_book : Nat → Int32) (p1 : Int32) (o0 : Int32) (o1 : Int32) (o2 : Int32) (o3 : Int32) (o4 : Nat → Int32) (o5 : Nat → Int32) (hf : f_X10_plain t_thanThis t_knownAge t_low t_high t_book p1 = some (o0, o1, o2, o3, o4, o5)) : CM l yX10_plain wqX10_plain rmX10_plain (kS te) dC dI cI cZ [.ref h_t, .int p1] [(h_t, .inr (8, fX10 h_t_book h_t_images h_t_kept h_t_aside h_t_far h_t_then h_t_row h_t_mays h_t_firstRow h_t_low h_t_high t_noOlder t_thanThis t_known t_knownAge t_moved h_t_lowOne h_t_highOne h_t_ways t_met h_t_left t_hours t_greatest h_t_text t_typed t_at t_start t_token t_value h_t_verbs h_t_nums t_items)), (h_t_low, .inl (cI, 8, .inl t_low)), (h_t_high, .inl (cI, 8, .inl t_high)), (h_t_book, .inl (cI, 460, .inl t_book))] [(h_t, .inr (8, fX10 h_t_book h_t_images h_t_kept h_t_aside h_t_far h_t_then h_t_row h_t_mays h_t_firstRow h_t_low h_t_high o1 t_thanThis o2 t_knownAge o3 h_t_lowOne h_t_highOne h_t_ways t_met h_t_left t_hours t_greatest h_t_text t_typed t_at t_start t_token t_value h_t_verbs h_t_nums t_items)), (h_t_low, .inl (cI, 8, .inl o4)), (h_t_high, .inl (cI, 8, .inl o5)), (h_t_book, .inl (cI, 460, .inl t_book))] (some (.int o0)) := by
  refine CM_of (cc := cX10_plain) (maxL := 2) (ret := (some .boolean)) (by decide +kernel) rfl (Nat.le_of_ble_eq_true rfl) ?_
  intro p e s m args below meth c A Q hx hb hr hml hown hts hlocks hA hK hP hD hS hE hQ hAe ls hl
  have hown : s.vm.findClass RX10 = some m.cls := hown
  have hl : lv_has ls 2 [(0, .ref h_t), (1, .int p1)] := hl
  unfold f_X10_plain at hf
  refine lv_aload_n hx hb dX10_plain_0 rfl (lv_at hl 0 rfl) ?_
  refine lv_iconst (v := (-1 : Int32)) hx hb dX10_plain_1 (by decide) ?_
  refine va_put (D := (dC, dI)) (ci := 8) (v := .int (-1 : Int32)) (ty := tyX10 11) (C := RX10) (T := TX10) (N := 32) hx hb hts (in1 tw_X10) tyX10 tyX10_ok nmX10 hown hK hP hD hS 0 rfl rfl 11 (by decide) (hts _ (List.mem_cons_of_mem _ kw_253)) (fun _ h9 => h9) rfl (tyX10_ok 11 (by decide)) rfl rfl (Nat.le_of_ble_eq_true rfl) dX10_plain_2 (fun H locs hP hD hS => ?_)
  have hP : va_P (dC, dI) vwCl [(h_t, .inr (8, fX10 h_t_book h_t_images h_t_kept h_t_aside h_t_far h_t_then h_t_row h_t_mays h_t_firstRow h_t_low h_t_high (-1 : Int32) t_thanThis t_known t_knownAge t_moved h_t_lowOne h_t_highOne h_t_ways t_met h_t_left t_hours t_greatest h_t_text t_typed t_at t_start t_token t_value h_t_verbs h_t_nums t_items)), (h_t_low, .inl (cI, 8, .inl t_low)), (h_t_high, .inl (cI, 8, .inl t_high)), (h_t_book, .inl (cI, 460, .inl t_book))] H := hP
  have hD : va_D A [(h_t, .inr (8, fX10 h_t_book h_t_images h_t_kept h_t_aside h_t_far h_t_then h_t_row h_t_mays h_t_firstRow h_t_low h_t_high (-1 : Int32) t_thanThis t_known t_knownAge t_moved h_t_lowOne h_t_highOne h_t_ways t_met h_t_left t_hours t_greatest h_t_text t_typed t_at t_start t_token t_value h_t_verbs h_t_nums t_items)), (h_t_low, .inl (cI, 8, .inl t_low)), (h_t_high, .inl (cI, 8, .inl t_high)), (h_t_book, .inl (cI, 460, .inl t_book))] := hD
  refine lv_aload_n hx hb dX10_plain_5 rfl (lv_at hl 0 rfl) ?_
  refine lv_iconst (v := (-1 : Int32)) hx hb dX10_plain_6 (by decide) ?_
  refine va_put (D := (dC, dI)) (ci := 8) (v := .int (-1 : Int32)) (ty := tyX10 13) (C := RX10) (T := TX10) (N := 32) hx hb hts (in1 tw_X10) tyX10 tyX10_ok nmX10 hown hK hP hD hS 0 rfl rfl 13 (by decide) (hts _ (List.mem_cons_of_mem _ kw_247)) (fun _ h9 => h9) rfl (tyX10_ok 13 (by decide)) rfl rfl (Nat.le_of_ble_eq_true rfl) dX10_plain_7 (fun H locs hP hD hS => ?_)
  have hP : va_P (dC, dI) vwCl [(h_t, .inr (8, fX10 h_t_book h_t_images h_t_kept h_t_aside h_t_far h_t_then h_t_row h_t_mays h_t_firstRow h_t_low h_t_high (-1 : Int32) t_thanThis (-1 : Int32) t_knownAge t_moved h_t_lowOne h_t_highOne h_t_ways t_met h_t_left t_hours t_greatest h_t_text t_typed t_at t_start t_token t_value h_t_verbs h_t_nums t_items)), (h_t_low, .inl (cI, 8, .inl t_low)), (h_t_high, .inl (cI, 8, .inl t_high)), (h_t_book, .inl (cI, 460, .inl t_book))] H := hP
  have hD : va_D A [(h_t, .inr (8, fX10 h_t_book h_t_images h_t_kept h_t_aside h_t_far h_t_then h_t_row h_t_mays h_t_firstRow h_t_low h_t_high (-1 : Int32) t_thanThis (-1 : Int32) t_knownAge t_moved h_t_lowOne h_t_highOne h_t_ways t_met h_t_left t_hours t_greatest h_t_text t_typed t_at t_start t_token t_value h_t_verbs h_t_nums t_items)), (h_t_low, .inl (cI, 8, .inl t_low)), (h_t_high, .inl (cI, 8, .inl t_high)), (h_t_book, .inl (cI, 460, .inl t_book))] := hD
  refine lv_aload_n hx hb dX10_plain_10 rfl (lv_at hl 0 rfl) ?_
  refine lv_iload_n hx hb dX10_plain_11 rfl (lv_at hl 1 rfl) ?_
  obtain ⟨r1, x2, y3, y4, hg5, hf⟩ := bd4_some hf
  refine CM_callV (C := RX10) (As := [.int p1]) (rest := []) (wc := [(h_t, .inr (8, fX10 h_t_book h_t_images h_t_kept h_t_aside h_t_far h_t_then h_t_row h_t_mays h_t_firstRow h_t_low h_t_high (-1 : Int32) t_thanThis (-1 : Int32) t_knownAge t_moved h_t_lowOne h_t_highOne h_t_ways t_met h_t_left t_hours t_greatest h_t_text t_typed t_at t_start t_token t_value h_t_verbs h_t_nums t_items)), (h_t_low, .inl (cI, 8, .inl t_low)), (h_t_high, .inl (cI, 8, .inl t_high)), (h_t_book, .inl (cI, 460, .inl t_book))]) (w1 := [(h_t, .inr (8, fX10 h_t_book h_t_images h_t_kept h_t_aside h_t_far h_t_then h_t_row h_t_mays h_t_firstRow h_t_low h_t_high (-1 : Int32) t_thanThis (-1 : Int32) t_knownAge x2 h_t_lowOne h_t_highOne h_t_ways t_met h_t_left t_hours t_greatest h_t_text t_typed t_at t_start t_token t_value h_t_verbs h_t_nums t_items)), (h_t_low, .inl (cI, 8, .inl y3)), (h_t_high, .inl (cI, 8, .inl y4)), (h_t_book, .inl (cI, 460, .inl t_book))]) (wr := []) (wo := [(h_t, .inr (8, fX10 h_t_book h_t_images h_t_kept h_t_aside h_t_far h_t_then h_t_row h_t_mays h_t_firstRow h_t_low h_t_high (-1 : Int32) t_thanThis (-1 : Int32) t_knownAge x2 h_t_lowOne h_t_highOne h_t_ways t_met h_t_left t_hours t_greatest h_t_text t_typed t_at t_start t_token t_value h_t_verbs h_t_nums t_items)), (h_t_low, .inl (cI, 8, .inl y3)), (h_t_high, .inl (cI, 8, .inl y4)), (h_t_book, .inl (cI, 460, .inl t_book))]) (v := (some (.int r1))) ⟨hx, hb, hml, hown, hts⟩ (c_X10_bounds l dC dI cI cZ te h_t h_t_book h_t_images h_t_kept h_t_aside h_t_far h_t_then h_t_row h_t_mays h_t_firstRow h_t_low h_t_high h_t_lowOne h_t_highOne h_t_ways h_t_left h_t_text h_t_verbs h_t_nums (-1 : Int32) t_thanThis (-1 : Int32) t_knownAge t_moved t_met t_hours t_greatest t_typed t_at t_start t_token t_value t_items t_low t_high t_book p1 r1 x2 y3 y4 hg5) (cwV 1 hts (gV kw_255 kw_256 kw_257 kw_159 kw_258) rfl rfl rfl (by decide +kernel) ⟨Nat.le_of_ble_eq_true rfl, Nat.le_of_ble_eq_true rfl⟩) (kS_env te) hK hP hD hS hA hE [0, 1, 2, 3] [] [0, 1, 2, 3] rfl rfl (by decide) (by decide) (by decide) (by decide) rfl 0 8 rfl rfl rfl rfl hl.1 rfl (Nat.le_of_ble_eq_true rfl) dX10_plain_12 ⟨Nat.zero_le _, Nat.zero_le _⟩ (fun H locs hP hD hS => ?_)
  show W p l e rmX10_plain s m args below meth c H locs 0 0 Q (F0 m 15 ls [.int r1])
  obtain ⟨g6, hf⟩ := chk_some hf
  obtain ⟨rfl, rfl, rfl, rfl, rfl, rfl⟩ := inj6 hf
  subst hQ
  exact CM_iret hx hb hr (gz_n g6) hlocks hAe hP hD hS dX10_plain_15
def rmX10_age : Room := { frames := 4, cells := 0, slots := 0, locals := 90 }
abbrev wqX10_age : List Cond := Cond.code yX10_age cX10_age 4 (some .int) :: tG
set_option maxHeartbeats 4000000 in
set_option maxRecDepth 100000 in
theorem c_X10_age (l : Launch) (dC : Nat → ClassId) (dI : Nat → Nat → Nat) (cI cZ : ClassId) (te : Nat → Nat) (h_t : Nat) (h_t_book : Nat) (h_t_images : Nat) (h_t_kept : Nat) (h_t_aside : Nat) (h_t_far : Nat) (h_t_then : Nat) (h_t_row : Nat) (h_t_mays : Nat) (h_t_firstRow : Nat) (h_t_low : Nat) (h_t_high : Nat) (h_t_lowOne : Nat) (h_t_highOne : Nat) (h_t_ways : Nat) (h_t_left : Nat) (h_t_text : Nat) (h_t_verbs : Nat) (h_t_nums : Nat) (t_noOlder : Int32) (t_thanThis : Int32) (t_known : Int32) (t_knownAge : Int32) (t_moved : Int32) (t_met : Int32) (t_hours : Int32) (t_greatest : Int32) (t_typed : Int32) (t_at : Int32) (t_start : Int32) (t_token : Int32) (t_value : Int32) (t_items : Int32) (t_book : Nat → Int32) (t_low : Nat → Int32) (t_high : Nat → Int32) (p1 : Int32) (p2 : Int32) (p3 : Int32) (o0 : Int32) (o1 : Int32) (o2 : Int32) (o3 : Int32) (o4 : Nat → Int32) (o5 : Nat → Int32) (hf : f_X10_age t_noOlder t_thanThis t_known t_knownAge t_moved t_book t_low t_high p1 p2 p3 = some (o0, o1, o2, o3, o4, o5)) : CM l yX10_age wqX10_age rmX10_age (kS te) dC dI cI cZ [.ref h_t, .int p1, .int p2, .int p3] [(h_t, .inr (8, fX10 h_t_book h_t_images h_t_kept h_t_aside h_t_far h_t_then h_t_row h_t_mays h_t_firstRow h_t_low h_t_high t_noOlder t_thanThis t_known t_knownAge t_moved h_t_lowOne h_t_highOne h_t_ways t_met h_t_left t_hours t_greatest h_t_text t_typed t_at t_start t_token t_value h_t_verbs h_t_nums t_items)), (h_t_book, .inl (cI, 460, .inl t_book)), (h_t_low, .inl (cI, 8, .inl t_low)), (h_t_high, .inl (cI, 8, .inl t_high))] [(h_t, .inr (8, fX10 h_t_book h_t_images h_t_kept h_t_aside h_t_far h_t_then h_t_row h_t_mays h_t_firstRow h_t_low h_t_high o1 t_thanThis o2 t_knownAge o3 h_t_lowOne h_t_highOne h_t_ways t_met h_t_left t_hours t_greatest h_t_text t_typed t_at t_start t_token t_value h_t_verbs h_t_nums t_items)), (h_t_book, .inl (cI, 460, .inl t_book)), (h_t_low, .inl (cI, 8, .inl o4)), (h_t_high, .inl (cI, 8, .inl o5))] (some (.int o0)) := by
  refine CM_of (cc := cX10_age) (maxL := 4) (ret := (some .int)) (by decide +kernel) rfl (Nat.le_of_ble_eq_true rfl) ?_
  intro p e s m args below meth c A Q hx hb hr hml hown hts hlocks hA hK hP hD hS hE hQ hAe ls hl
  have hown : s.vm.findClass RX10 = some m.cls := hown
  have hl : lv_has ls 4 [(0, .ref h_t), (1, .int p1), (2, .int p2), (3, .int p3)] := hl
  unfold f_X10_age at hf
  refine lv_aload_n hx hb dX10_age_0 rfl (lv_at hl 0 rfl) ?_
  refine lv_iconst (v := (3 : Int32)) hx hb dX10_age_1 (by decide) ?_
  refine lv_iload_n hx hb dX10_age_2 rfl (lv_at hl 1 rfl) ?_
  obtain ⟨r1, hg2, hf⟩ := bd1_some hf
  refine CM_callV (C := RX10) (As := [.int (3 : Int32), .int p1]) (rest := []) (wc := [(h_t, .inr (8, fX10 h_t_book h_t_images h_t_kept h_t_aside h_t_far h_t_then h_t_row h_t_mays h_t_firstRow h_t_low h_t_high t_noOlder t_thanThis t_known t_knownAge t_moved h_t_lowOne h_t_highOne h_t_ways t_met h_t_left t_hours t_greatest h_t_text t_typed t_at t_start t_token t_value h_t_verbs h_t_nums t_items)), (h_t_book, .inl (cI, 460, .inl t_book))]) (w1 := [(h_t, .inr (8, fX10 h_t_book h_t_images h_t_kept h_t_aside h_t_far h_t_then h_t_row h_t_mays h_t_firstRow h_t_low h_t_high t_noOlder t_thanThis t_known t_knownAge t_moved h_t_lowOne h_t_highOne h_t_ways t_met h_t_left t_hours t_greatest h_t_text t_typed t_at t_start t_token t_value h_t_verbs h_t_nums t_items)), (h_t_book, .inl (cI, 460, .inl t_book))]) (wr := [(h_t_low, .inl (cI, 8, .inl t_low)), (h_t_high, .inl (cI, 8, .inl t_high))]) (wo := [(h_t, .inr (8, fX10 h_t_book h_t_images h_t_kept h_t_aside h_t_far h_t_then h_t_row h_t_mays h_t_firstRow h_t_low h_t_high t_noOlder t_thanThis t_known t_knownAge t_moved h_t_lowOne h_t_highOne h_t_ways t_met h_t_left t_hours t_greatest h_t_text t_typed t_at t_start t_token t_value h_t_verbs h_t_nums t_items)), (h_t_book, .inl (cI, 460, .inl t_book)), (h_t_low, .inl (cI, 8, .inl t_low)), (h_t_high, .inl (cI, 8, .inl t_high))]) (v := (some (.int r1))) ⟨hx, hb, hml, hown, hts⟩ (c_X10_is l dC dI cI cZ te h_t h_t_book h_t_images h_t_kept h_t_aside h_t_far h_t_then h_t_row h_t_mays h_t_firstRow h_t_low h_t_high h_t_lowOne h_t_highOne h_t_ways h_t_left h_t_text h_t_verbs h_t_nums t_noOlder t_thanThis t_known t_knownAge t_moved t_met t_hours t_greatest t_typed t_at t_start t_token t_value t_items t_book (3 : Int32) p1 r1 hg2) (cwV 2 hts (gV kw_205 kw_206 kw_207 kw_159 kw_208) rfl rfl rfl (by decide +kernel) ⟨Nat.le_of_ble_eq_true rfl, Nat.le_of_ble_eq_true rfl⟩) (kS_env te) hK hP hD hS hA hE [0, 1] [2, 3] [2, 3, 0, 1] rfl rfl (by decide) (by decide) (by decide) (by decide) rfl 0 8 rfl rfl rfl rfl hl.1 rfl (Nat.le_of_ble_eq_true rfl) dX10_age_3 ⟨Nat.zero_le _, Nat.zero_le _⟩ (fun H locs hP hD hS => ?_)
  show W p l e rmX10_age s m args below meth c H locs 0 0 Q (F0 m 6 ls [.int r1])
  refine lv_if_eq (tgt := 39) hx hb dX10_age_6 (by decide) (fun c3 => ?_) (fun c3 => ?_)
  · replace hf := ifp c3 hf
    refine lv_bipush (v := (-10 : Int32)) hx hb dX10_age_39 (by decide) ?_
    obtain ⟨rfl, rfl, rfl, rfl, rfl, rfl⟩ := inj6 hf
    subst hQ
    exact CM_iret hx hb hr rfl hlocks hAe hP hD hS dX10_age_41
  · replace hf := ifn c3 hf
    refine lv_iload_n hx hb dX10_age_9 rfl (lv_at hl 2 rfl) ?_
    refine lv_i2l hx hb dX10_age_10 rfl ?_
    refine lv_lconst (v := (0 : Int64)) hx hb dX10_age_11 (by decide) ?_
    refine lv_iconst (v := (1 : Int32)) hx hb dX10_age_12 (by decide) ?_
    refine lv_aload_n hx hb dX10_age_13 rfl (lv_at hl 0 rfl) ?_
    refine va_get (D := (dC, dI)) (ci := 8) (v := .ref h_t_book) (C := RX10) (T := TX10) (N := 32) hx hb hts (in1 tw_X10) hown hK hP 0 rfl rfl 0 (by decide) (hts _ (List.mem_cons_of_mem _ kw_116)) (fun _ h9 => h9) rfl dX10_age_14 ?_
    refine lv_iconst (v := (4 : Int32)) hx hb dX10_age_17 (by decide) ?_
    obtain ⟨g4, hf⟩ := chk_some hf
    refine va_iald hx hb hK hP 1 0 rfl rfl (gin_in g4) dX10_age_18 ?_
    refine lv_ishl hx hb dX10_age_19 ?_
    refine lv_iconst (v := (1 : Int32)) hx hb dX10_age_20 (by decide) ?_
    refine lv_isub hx hb dX10_age_21 ?_
    refine lv_i2l hx hb dX10_age_22 rfl ?_
    obtain ⟨r5, hg6, hf⟩ := bd1_some hf
    refine CM_callS (As := [.long p2.toInt64, .long (0 : Int64), .long (((1 : Int32) <<< ((t_book (4 : Int32).toNatClampNeg) &&& 31)) - (1 : Int32)).toInt64]) (rest := []) (wc := []) (w1 := []) (wr := [(h_t, .inr (8, fX10 h_t_book h_t_images h_t_kept h_t_aside h_t_far h_t_then h_t_row h_t_mays h_t_firstRow h_t_low h_t_high t_noOlder t_thanThis t_known t_knownAge t_moved h_t_lowOne h_t_highOne h_t_ways t_met h_t_left t_hours t_greatest h_t_text t_typed t_at t_start t_token t_value h_t_verbs h_t_nums t_items)), (h_t_book, .inl (cI, 460, .inl t_book)), (h_t_low, .inl (cI, 8, .inl t_low)), (h_t_high, .inl (cI, 8, .inl t_high))]) (wo := [(h_t, .inr (8, fX10 h_t_book h_t_images h_t_kept h_t_aside h_t_far h_t_then h_t_row h_t_mays h_t_firstRow h_t_low h_t_high t_noOlder t_thanThis t_known t_knownAge t_moved h_t_lowOne h_t_highOne h_t_ways t_met h_t_left t_hours t_greatest h_t_text t_typed t_at t_start t_token t_value h_t_verbs h_t_nums t_items)), (h_t_book, .inl (cI, 460, .inl t_book)), (h_t_low, .inl (cI, 8, .inl t_low)), (h_t_high, .inl (cI, 8, .inl t_high))]) (v := (some (.int r5))) ⟨hx, hb, hml, hown, hts⟩ (c_X10_in l dC dI cI cZ te (p2.toInt64) (0 : Int64) ((((1 : Int32) <<< ((t_book (4 : Int32).toNatClampNeg) &&& 31)) - (1 : Int32)).toInt64) r5 hg6) (va_cwS 3 hts (gS kw_157 kw_158 kw_159 kw_160) rfl rfl rfl (by decide +kernel) ⟨Nat.le_of_ble_eq_true rfl, Nat.le_of_ble_eq_true rfl⟩) (kS_env te) hK hP hD hS hA hE [] [0, 1, 2, 3] [0, 1, 2, 3] rfl rfl (by decide) (by decide) (by decide) (by decide) rfl rfl hl.1 rfl (Nat.le_of_ble_eq_true rfl) dX10_age_23 ⟨Nat.zero_le _, Nat.zero_le _⟩ (fun H locs hP hD hS => ?_)
    show W p l e rmX10_age s m args below meth c H locs 0 0 Q (F0 m 26 ls [.int r5])
    refine lv_if_eq (tgt := 39) hx hb dX10_age_26 (by decide) (fun c7 => ?_) (fun c7 => ?_)
    · replace hf := ifp c7 hf
      refine lv_bipush (v := (-10 : Int32)) hx hb dX10_age_39 (by decide) ?_
      obtain ⟨rfl, rfl, rfl, rfl, rfl, rfl⟩ := inj6 hf
      subst hQ
      exact CM_iret hx hb hr rfl hlocks hAe hP hD hS dX10_age_41
    · replace hf := ifn c7 hf
      refine lv_iload_n hx hb dX10_age_29 rfl (lv_at hl 3 rfl) ?_
      refine lv_i2l hx hb dX10_age_30 rfl ?_
      refine lv_lconst (v := (0 : Int64)) hx hb dX10_age_31 (by decide) ?_
      refine lv_lconst (v := (1 : Int64)) hx hb dX10_age_32 (by decide) ?_
      obtain ⟨r8, hg9, hf⟩ := bd1_some hf
      refine CM_callS (As := [.long p3.toInt64, .long (0 : Int64), .long (1 : Int64)]) (rest := []) (wc := []) (w1 := []) (wr := [(h_t, .inr (8, fX10 h_t_book h_t_images h_t_kept h_t_aside h_t_far h_t_then h_t_row h_t_mays h_t_firstRow h_t_low h_t_high t_noOlder t_thanThis t_known t_knownAge t_moved h_t_lowOne h_t_highOne h_t_ways t_met h_t_left t_hours t_greatest h_t_text t_typed t_at t_start t_token t_value h_t_verbs h_t_nums t_items)), (h_t_book, .inl (cI, 460, .inl t_book)), (h_t_low, .inl (cI, 8, .inl t_low)), (h_t_high, .inl (cI, 8, .inl t_high))]) (wo := [(h_t, .inr (8, fX10 h_t_book h_t_images h_t_kept h_t_aside h_t_far h_t_then h_t_row h_t_mays h_t_firstRow h_t_low h_t_high t_noOlder t_thanThis t_known t_knownAge t_moved h_t_lowOne h_t_highOne h_t_ways t_met h_t_left t_hours t_greatest h_t_text t_typed t_at t_start t_token t_value h_t_verbs h_t_nums t_items)), (h_t_book, .inl (cI, 460, .inl t_book)), (h_t_low, .inl (cI, 8, .inl t_low)), (h_t_high, .inl (cI, 8, .inl t_high))]) (v := (some (.int r8))) ⟨hx, hb, hml, hown, hts⟩ (c_X10_in l dC dI cI cZ te (p3.toInt64) (0 : Int64) (1 : Int64) r8 hg9) (va_cwS 3 hts (gS kw_157 kw_158 kw_159 kw_160) rfl rfl rfl (by decide +kernel) ⟨Nat.le_of_ble_eq_true rfl, Nat.le_of_ble_eq_true rfl⟩) (kS_env te) hK hP hD hS hA hE [] [0, 1, 2, 3] [0, 1, 2, 3] rfl rfl (by decide) (by decide) (by decide) (by decide) rfl rfl hl.1 rfl (Nat.le_of_ble_eq_true rfl) dX10_age_33 ⟨Nat.zero_le _, Nat.zero_le _⟩ (fun H locs hP hD hS => ?_)
      show W p l e rmX10_age s m args below meth c H locs 0 0 Q (F0 m 36 ls [.int r8])
      refine lv_if_ne (tgt := 42) hx hb dX10_age_36 (by decide) (fun c10 => ?_) (fun c10 => ?_)
      · replace hf := ifn c10 hf
        refine lv_aload_n hx hb dX10_age_42 rfl (lv_at hl 0 rfl) ?_
        refine lv_iload_n hx hb dX10_age_43 rfl (lv_at hl 2 rfl) ?_
        obtain ⟨r11, x12, x13, x14, y15, y16, hg17, hf⟩ := bd6_some hf
        refine CM_callV (C := RX10) (As := [.int p2]) (rest := []) (wc := [(h_t, .inr (8, fX10 h_t_book h_t_images h_t_kept h_t_aside h_t_far h_t_then h_t_row h_t_mays h_t_firstRow h_t_low h_t_high t_noOlder t_thanThis t_known t_knownAge t_moved h_t_lowOne h_t_highOne h_t_ways t_met h_t_left t_hours t_greatest h_t_text t_typed t_at t_start t_token t_value h_t_verbs h_t_nums t_items)), (h_t_low, .inl (cI, 8, .inl t_low)), (h_t_high, .inl (cI, 8, .inl t_high)), (h_t_book, .inl (cI, 460, .inl t_book))]) (w1 := [(h_t, .inr (8, fX10 h_t_book h_t_images h_t_kept h_t_aside h_t_far h_t_then h_t_row h_t_mays h_t_firstRow h_t_low h_t_high x12 t_thanThis x13 t_knownAge x14 h_t_lowOne h_t_highOne h_t_ways t_met h_t_left t_hours t_greatest h_t_text t_typed t_at t_start t_token t_value h_t_verbs h_t_nums t_items)), (h_t_low, .inl (cI, 8, .inl y15)), (h_t_high, .inl (cI, 8, .inl y16)), (h_t_book, .inl (cI, 460, .inl t_book))]) (wr := []) (wo := [(h_t, .inr (8, fX10 h_t_book h_t_images h_t_kept h_t_aside h_t_far h_t_then h_t_row h_t_mays h_t_firstRow h_t_low h_t_high x12 t_thanThis x13 t_knownAge x14 h_t_lowOne h_t_highOne h_t_ways t_met h_t_left t_hours t_greatest h_t_text t_typed t_at t_start t_token t_value h_t_verbs h_t_nums t_items)), (h_t_book, .inl (cI, 460, .inl t_book)), (h_t_low, .inl (cI, 8, .inl y15)), (h_t_high, .inl (cI, 8, .inl y16))]) (v := (some (.int r11))) ⟨hx, hb, hml, hown, hts⟩ (c_X10_plain l dC dI cI cZ te h_t h_t_book h_t_images h_t_kept h_t_aside h_t_far h_t_then h_t_row h_t_mays h_t_firstRow h_t_low h_t_high h_t_lowOne h_t_highOne h_t_ways h_t_left h_t_text h_t_verbs h_t_nums t_noOlder t_thanThis t_known t_knownAge t_moved t_met t_hours t_greatest t_typed t_at t_start t_token t_value t_items t_low t_high t_book p2 r11 x12 x13 x14 y15 y16 hg17) (cwV 1 hts (gV kw_259 kw_260 kw_261 kw_159 kw_262) rfl rfl rfl (by decide +kernel) ⟨Nat.le_of_ble_eq_true rfl, Nat.le_of_ble_eq_true rfl⟩) (kS_env te) hK hP hD hS hA hE [0, 2, 3, 1] [] [0, 3, 1, 2] rfl rfl (by decide) (by decide) (by decide) (by decide) rfl 0 8 rfl rfl rfl rfl hl.1 rfl (Nat.le_of_ble_eq_true rfl) dX10_age_44 ⟨Nat.zero_le _, Nat.zero_le _⟩ (fun H locs hP hD hS => ?_)
        show W p l e rmX10_age s m args below meth c H locs 0 0 Q (F0 m 47 ls [.int r11])
        refine lv_if_ne (tgt := 55) hx hb dX10_age_47 (by decide) (fun c18 => ?_) (fun c18 => ?_)
        · replace hf := ifn c18 hf
          refine lv_iload_n hx hb dX10_age_55 rfl (lv_at hl 3 rfl) ?_
          refine lv_if_ne (tgt := 68) hx hb dX10_age_56 (by decide) (fun c19 => ?_) (fun c19 => ?_)
          · replace hf := ifn c19 hf
            refine lv_aload_n hx hb dX10_age_68 rfl (lv_at hl 0 rfl) ?_
            refine va_get (D := (dC, dI)) (ci := 8) (v := .ref h_t_high) (C := RX10) (T := TX10) (N := 32) hx hb hts (in1 tw_X10) hown hK hP 0 rfl rfl 10 (by decide) (hts _ (List.mem_cons_of_mem _ kw_127)) (fun _ h9 => h9) rfl dX10_age_69 ?_
            refine lv_iload_n hx hb dX10_age_72 rfl (lv_at hl 1 rfl) ?_
            obtain ⟨g20, hf⟩ := chk_some hf
            refine va_iald hx hb hK hP 3 0 rfl rfl (gin_in g20) dX10_age_73 ?_
            obtain ⟨rfl, rfl, rfl, rfl, rfl, rfl⟩ := inj6 hf
            subst hQ
            exact CM_iret hx hb hr rfl hlocks hAe hP hD hS dX10_age_74
          · replace hf := ifp c19 hf
            refine lv_aload_n hx hb dX10_age_59 rfl (lv_at hl 0 rfl) ?_
            refine va_get (D := (dC, dI)) (ci := 8) (v := .ref h_t_low) (C := RX10) (T := TX10) (N := 32) hx hb hts (in1 tw_X10) hown hK hP 0 rfl rfl 9 (by decide) (hts _ (List.mem_cons_of_mem _ kw_126)) (fun _ h9 => h9) rfl dX10_age_60 ?_
            refine lv_iload_n hx hb dX10_age_63 rfl (lv_at hl 1 rfl) ?_
            obtain ⟨g21, hf⟩ := chk_some hf
            refine va_iald hx hb hK hP 2 0 rfl rfl (gin_in g21) dX10_age_64 ?_
            refine lv_goto (tgt := 74) hx hb dX10_age_65 (by decide) ?_
            obtain ⟨rfl, rfl, rfl, rfl, rfl, rfl⟩ := inj6 hf
            subst hQ
            exact CM_iret hx hb hr rfl hlocks hAe hP hD hS dX10_age_74
        · replace hf := ifp c18 hf
          refine lv_bipush (v := (-5 : Int32)) hx hb dX10_age_50 (by decide) ?_
          refine lv_goto (tgt := 74) hx hb dX10_age_52 (by decide) ?_
          obtain ⟨rfl, rfl, rfl, rfl, rfl, rfl⟩ := inj6 hf
          subst hQ
          exact CM_iret hx hb hr rfl hlocks hAe hP hD hS dX10_age_74
      · replace hf := ifp c10 hf
        refine lv_bipush (v := (-10 : Int32)) hx hb dX10_age_39 (by decide) ?_
        obtain ⟨rfl, rfl, rfl, rfl, rfl, rfl⟩ := inj6 hf
        subst hQ
        exact CM_iret hx hb hr rfl hlocks hAe hP hD hS dX10_age_41
def rmX10_sizeOf : Room := { frames := 0, cells := 0, slots := 0, locals := 0 }
abbrev wqX10_sizeOf : List Cond := Cond.code yX10_sizeOf cX10_sizeOf 3 (some .int) :: tG
set_option maxHeartbeats 4000000 in
set_option maxRecDepth 100000 in
theorem c_X10_sizeOf (l : Launch) (dC : Nat → ClassId) (dI : Nat → Nat → Nat) (cI cZ : ClassId) (te : Nat → Nat) (p1 : Int32) (o0 : Int32) (hf : f_X10_sizeOf p1 = some o0) : CM l yX10_sizeOf wqX10_sizeOf rmX10_sizeOf (kS te) dC dI cI cZ [.int p1] [] [] (some (.int o0)) := by
  refine CM_of (cc := cX10_sizeOf) (maxL := 3) (ret := (some .int)) (by decide +kernel) rfl (Nat.le_of_ble_eq_true rfl) ?_
  intro p e s m args below meth c A Q hx hb hr hml hown hts hlocks hA hK hP hD hS hE hQ hAe ls hl
  have hown : s.vm.findClass RX10 = some m.cls := hown
  have hl : lv_has ls 3 [(0, .int p1)] := hl
  unfold f_X10_sizeOf at hf
  refine lv_iconst (v := (0 : Int32)) hx hb dX10_sizeOf_0 (by decide) ?_
  refine lv_istore_n (lv' := [(1, .int (0 : Int32)), (0, .int p1)]) hx hb dX10_sizeOf_1 rfl hl (by decide) rfl (fun ls hl => ?_)
  refine lv_iload_n hx hb dX10_sizeOf_2 rfl (lv_at hl 1 rfl) ?_
  refine lv_istore_n (lv' := [(2, .int p1), (1, .int (0 : Int32)), (0, .int p1)]) hx hb dX10_sizeOf_3 rfl hl (by decide) rfl (fun ls hl => ?_)
  have L19 : ∀ (fu12 : Nat) (x9 : Int32) (x10 : Int32) (x8 : Int32), f_X10_sizeOf_L1 fu12 x9 x10 = some x8 → (∀ (H : Heap) (locs : List Loc), va_P (dC, dI) vwCl [] H → va_D A [] → va_S A s.heap H locs → ∀ ls : Array Slot, lv_has ls 3 [(1, .int x8)] → W p l e rmX10_sizeOf s m args below meth c H locs 0 0 Q (F0 m 21 ls [])) → ∀ (H : Heap) (locs : List Loc), va_P (dC, dI) vwCl [] H → va_D A [] → va_S A s.heap H locs → ∀ ls : Array Slot, lv_has ls 3 [(1, .int x9), (2, .int x10)] → W p l e rmX10_sizeOf s m args below meth c H locs 0 0 Q (F0 m 4 ls []) := by
    intro fu12
    induction fu12 with
    | zero =>
      intro x9 x10 x8 hf
      unfold f_X10_sizeOf_L1 at hf
      exact none_ne hf
    | succ fu12 ih11 =>
      intro x9 x10 x8 hf hX13 H locs hP hD hS ls hl
      unfold f_X10_sizeOf_L1 at hf
      refine lv_iload_n hx hb dX10_sizeOf_4 rfl (lv_at hl 1 rfl) ?_
      refine lv_if_le (tgt := 21) hx hb dX10_sizeOf_5 (by decide) (fun c14 => ?_) (fun c14 => ?_)
      · replace hf := ifp c14 hf
        obtain rfl := inj1 hf
        exact hX13 _ _ hP hD hS _ (lv_sub hl [0] rfl)
      · replace hf := ifn c14 hf
        refine lv_iload_n hx hb dX10_sizeOf_8 rfl (lv_at hl 0 rfl) ?_
        refine lv_iload_n hx hb dX10_sizeOf_9 rfl (lv_at hl 1 rfl) ?_
        refine lv_iconst (v := (1 : Int32)) hx hb dX10_sizeOf_10 (by decide) ?_
        refine lv_iand hx hb dX10_sizeOf_11 ?_
        refine lv_iadd hx hb dX10_sizeOf_12 ?_
        obtain ⟨x15, e16, hf⟩ := nm_some hf
        refine lv_tope e16 ?_
        refine lv_istore_n (lv' := [(1, .int x15), (2, .int x10)]) hx hb dX10_sizeOf_13 rfl hl (by decide) rfl (fun ls hl => ?_)
        refine lv_iload_n hx hb dX10_sizeOf_14 rfl (lv_at hl 1 rfl) ?_
        refine lv_iconst (v := (1 : Int32)) hx hb dX10_sizeOf_15 (by decide) ?_
        refine lv_ishr hx hb dX10_sizeOf_16 ?_
        obtain ⟨x17, e18, hf⟩ := nm_some hf
        refine lv_tope e18 ?_
        refine lv_istore_n (lv' := [(2, .int x17), (1, .int x15)]) hx hb dX10_sizeOf_17 rfl hl (by decide) rfl (fun ls hl => ?_)
        refine lv_goto (tgt := 4) hx hb dX10_sizeOf_18 (by decide) ?_
        exact ih11 _ _ _ hf hX13 _ _ hP hD hS _ (lv_sub hl [1, 0] rfl)
  obtain ⟨x8, hg, hf⟩ := bd1_some hf
  refine L19 FU _ _ _ hg ?_ _ _ hP hD hS _ (lv_sub hl [1, 0] rfl)
  · intro H locs hP hD hS ls hl
    refine lv_iload_n hx hb dX10_sizeOf_21 rfl (lv_at hl 0 rfl) ?_
    obtain rfl := inj1 hf
    subst hQ
    exact CM_iret hx hb hr rfl hlocks hAe hP hD hS dX10_sizeOf_22
def rmX10_all : Room := { frames := 0, cells := 0, slots := 0, locals := 0 }
abbrev wqX10_all : List Cond := Cond.code yX10_all cX10_all 1 (some .int) :: tG
set_option maxHeartbeats 4000000 in
set_option maxRecDepth 100000 in
theorem c_X10_all (l : Launch) (dC : Nat → ClassId) (dI : Nat → Nat → Nat) (cI cZ : ClassId) (te : Nat → Nat) (h_t : Nat) (h_t_book : Nat) (h_t_images : Nat) (h_t_kept : Nat) (h_t_aside : Nat) (h_t_far : Nat) (h_t_then : Nat) (h_t_row : Nat) (h_t_mays : Nat) (h_t_firstRow : Nat) (h_t_low : Nat) (h_t_high : Nat) (h_t_lowOne : Nat) (h_t_highOne : Nat) (h_t_ways : Nat) (h_t_left : Nat) (h_t_text : Nat) (h_t_verbs : Nat) (h_t_nums : Nat) (t_noOlder : Int32) (t_thanThis : Int32) (t_known : Int32) (t_knownAge : Int32) (t_moved : Int32) (t_met : Int32) (t_hours : Int32) (t_greatest : Int32) (t_typed : Int32) (t_at : Int32) (t_start : Int32) (t_token : Int32) (t_value : Int32) (t_items : Int32) (t_book : Nat → Int32) (o0 : Int32) (hf : f_X10_all t_book = some o0) : CM l yX10_all wqX10_all rmX10_all (kS te) dC dI cI cZ [.ref h_t] [(h_t, .inr (8, fX10 h_t_book h_t_images h_t_kept h_t_aside h_t_far h_t_then h_t_row h_t_mays h_t_firstRow h_t_low h_t_high t_noOlder t_thanThis t_known t_knownAge t_moved h_t_lowOne h_t_highOne h_t_ways t_met h_t_left t_hours t_greatest h_t_text t_typed t_at t_start t_token t_value h_t_verbs h_t_nums t_items)), (h_t_book, .inl (cI, 460, .inl t_book))] [(h_t, .inr (8, fX10 h_t_book h_t_images h_t_kept h_t_aside h_t_far h_t_then h_t_row h_t_mays h_t_firstRow h_t_low h_t_high t_noOlder t_thanThis t_known t_knownAge t_moved h_t_lowOne h_t_highOne h_t_ways t_met h_t_left t_hours t_greatest h_t_text t_typed t_at t_start t_token t_value h_t_verbs h_t_nums t_items)), (h_t_book, .inl (cI, 460, .inl t_book))] (some (.int o0)) := by
  refine CM_of (cc := cX10_all) (maxL := 1) (ret := (some .int)) (by decide +kernel) rfl (Nat.le_of_ble_eq_true rfl) ?_
  intro p e s m args below meth c A Q hx hb hr hml hown hts hlocks hA hK hP hD hS hE hQ hAe ls hl
  have hown : s.vm.findClass RX10 = some m.cls := hown
  have hl : lv_has ls 1 [(0, .ref h_t)] := hl
  unfold f_X10_all at hf
  refine lv_iconst (v := (1 : Int32)) hx hb dX10_all_0 (by decide) ?_
  refine lv_aload_n hx hb dX10_all_1 rfl (lv_at hl 0 rfl) ?_
  refine va_get (D := (dC, dI)) (ci := 8) (v := .ref h_t_book) (C := RX10) (T := TX10) (N := 32) hx hb hts (in1 tw_X10) hown hK hP 0 rfl rfl 0 (by decide) (hts _ (List.mem_cons_of_mem _ kw_116)) (fun _ h9 => h9) rfl dX10_all_2 ?_
  refine lv_iconst (v := (4 : Int32)) hx hb dX10_all_5 (by decide) ?_
  obtain ⟨g1, hf⟩ := chk_some hf
  refine va_iald hx hb hK hP 1 0 rfl rfl (gin_in g1) dX10_all_6 ?_
  refine lv_ishl hx hb dX10_all_7 ?_
  refine lv_iconst (v := (1 : Int32)) hx hb dX10_all_8 (by decide) ?_
  refine lv_isub hx hb dX10_all_9 ?_
  obtain rfl := inj1 hf
  subst hQ
  exact CM_iret hx hb hr rfl hlocks hAe hP hD hS dX10_all_10
def rmX10_findFewest : Room := { frames := 4, cells := 0, slots := 0, locals := 90 }
abbrev wqX10_findFewest : List Cond := Cond.code yX10_findFewest cX10_findFewest 3 (some .int) :: tG
set_option maxHeartbeats 4000000 in
set_option maxRecDepth 100000 in
theorem c_X10_findFewest (l : Launch) (dC : Nat → ClassId) (dI : Nat → Nat → Nat) (cI cZ : ClassId) (te : Nat → Nat) (h_t : Nat) (h_t_book : Nat) (h_t_images : Nat) (h_t_kept : Nat) (h_t_aside : Nat) (h_t_far : Nat) (h_t_then : Nat) (h_t_row : Nat) (h_t_mays : Nat) (h_t_firstRow : Nat) (h_t_low : Nat) (h_t_high : Nat) (h_t_lowOne : Nat) (h_t_highOne : Nat) (h_t_ways : Nat) (h_t_left : Nat) (h_t_text : Nat) (h_t_verbs : Nat) (h_t_nums : Nat) (t_noOlder : Int32) (t_thanThis : Int32) (t_known : Int32) (t_knownAge : Int32) (t_moved : Int32) (t_met : Int32) (t_hours : Int32) (t_greatest : Int32) (t_typed : Int32) (t_at : Int32) (t_start : Int32) (t_token : Int32) (t_value : Int32) (t_items : Int32) (t_book : Nat → Int32) (t_low : Nat → Int32) (t_high : Nat → Int32) (o0 : Int32) (o1 : Int32) (o2 : Int32) (o3 : Int32) (o4 : Nat → Int32) (o5 : Nat → Int32) (hf : f_X10_findFewest t_noOlder t_thanThis t_known t_knownAge t_moved t_book t_low t_high = some (o0, o1, o2, o3, o4, o5)) : CM l yX10_findFewest wqX10_findFewest rmX10_findFewest (kS te) dC dI cI cZ [.ref h_t] [(h_t, .inr (8, fX10 h_t_book h_t_images h_t_kept h_t_aside h_t_far h_t_then h_t_row h_t_mays h_t_firstRow h_t_low h_t_high t_noOlder t_thanThis t_known t_knownAge t_moved h_t_lowOne h_t_highOne h_t_ways t_met h_t_left t_hours t_greatest h_t_text t_typed t_at t_start t_token t_value h_t_verbs h_t_nums t_items)), (h_t_book, .inl (cI, 460, .inl t_book)), (h_t_low, .inl (cI, 8, .inl t_low)), (h_t_high, .inl (cI, 8, .inl t_high))] [(h_t, .inr (8, fX10 h_t_book h_t_images h_t_kept h_t_aside h_t_far h_t_then h_t_row h_t_mays h_t_firstRow h_t_low h_t_high o1 t_thanThis o2 t_knownAge o3 h_t_lowOne h_t_highOne h_t_ways t_met h_t_left t_hours t_greatest h_t_text t_typed t_at t_start t_token t_value h_t_verbs h_t_nums t_items)), (h_t_book, .inl (cI, 460, .inl t_book)), (h_t_low, .inl (cI, 8, .inl o4)), (h_t_high, .inl (cI, 8, .inl o5))] (some (.int o0)) := by
  refine CM_of (cc := cX10_findFewest) (maxL := 3) (ret := (some .int)) (by decide +kernel) rfl (Nat.le_of_ble_eq_true rfl) ?_
  intro p e s m args below meth c A Q hx hb hr hml hown hts hlocks hA hK hP hD hS hE hQ hAe ls hl
  have hown : s.vm.findClass RX10 = some m.cls := hown
  have hl : lv_has ls 3 [(0, .ref h_t)] := hl
  unfold f_X10_findFewest at hf
  refine lv_iconst (v := (0 : Int32)) hx hb dX10_findFewest_0 (by decide) ?_
  refine lv_istore_n (lv' := [(1, .int (0 : Int32)), (0, .ref h_t)]) hx hb dX10_findFewest_1 rfl hl (by decide) rfl (fun ls hl => ?_)
  have L138 : ∀ (fu78 : Nat) (y71 : Nat → Int32) (y72 : Nat → Int32) (x73 : Int32) (x74 : Int32) (x75 : Int32) (x76 : Int32) (q70 : Nat) (y64 : Nat → Int32) (y65 : Nat → Int32) (x66 : Int32) (x67 : Int32) (x68 : Int32) (x69 : Int32), f_X10_findFewest_L3 t_book t_thanThis t_knownAge fu78 y71 y72 x73 x74 x75 x76 = some (q70, y64, y65, x66, x67, x68, x69) → (q70 = 0 → ∀ (H : Heap) (locs : List Loc), va_P (dC, dI) vwCl [(h_t, .inr (8, fX10 h_t_book h_t_images h_t_kept h_t_aside h_t_far h_t_then h_t_row h_t_mays h_t_firstRow h_t_low h_t_high x66 t_thanThis x67 t_knownAge x68 h_t_lowOne h_t_highOne h_t_ways t_met h_t_left t_hours t_greatest h_t_text t_typed t_at t_start t_token t_value h_t_verbs h_t_nums t_items)), (h_t_book, .inl (cI, 460, .inl t_book)), (h_t_low, .inl (cI, 8, .inl y65)), (h_t_high, .inl (cI, 8, .inl y64))] H → va_D A [(h_t, .inr (8, fX10 h_t_book h_t_images h_t_kept h_t_aside h_t_far h_t_then h_t_row h_t_mays h_t_firstRow h_t_low h_t_high x66 t_thanThis x67 t_knownAge x68 h_t_lowOne h_t_highOne h_t_ways t_met h_t_left t_hours t_greatest h_t_text t_typed t_at t_start t_token t_value h_t_verbs h_t_nums t_items)), (h_t_book, .inl (cI, 460, .inl t_book)), (h_t_low, .inl (cI, 8, .inl y65)), (h_t_high, .inl (cI, 8, .inl y64))] → va_S A s.heap H locs → ∀ ls : Array Slot, lv_has ls 3 [(2, .int x69)] → W p l e rmX10_findFewest s m args below meth c H locs 0 0 Q (F0 m 40 ls [])) → (q70 = 1 → ∀ (H : Heap) (locs : List Loc), va_P (dC, dI) vwCl [(h_t, .inr (8, fX10 h_t_book h_t_images h_t_kept h_t_aside h_t_far h_t_then h_t_row h_t_mays h_t_firstRow h_t_low h_t_high x66 t_thanThis x67 t_knownAge x68 h_t_lowOne h_t_highOne h_t_ways t_met h_t_left t_hours t_greatest h_t_text t_typed t_at t_start t_token t_value h_t_verbs h_t_nums t_items)), (h_t_book, .inl (cI, 460, .inl t_book)), (h_t_low, .inl (cI, 8, .inl y65)), (h_t_high, .inl (cI, 8, .inl y64))] H → va_D A [(h_t, .inr (8, fX10 h_t_book h_t_images h_t_kept h_t_aside h_t_far h_t_then h_t_row h_t_mays h_t_firstRow h_t_low h_t_high x66 t_thanThis x67 t_knownAge x68 h_t_lowOne h_t_highOne h_t_ways t_met h_t_left t_hours t_greatest h_t_text t_typed t_at t_start t_token t_value h_t_verbs h_t_nums t_items)), (h_t_book, .inl (cI, 460, .inl t_book)), (h_t_low, .inl (cI, 8, .inl y65)), (h_t_high, .inl (cI, 8, .inl y64))] → va_S A s.heap H locs → ∀ ls : Array Slot, lv_has ls 3 [] → W p l e rmX10_findFewest s m args below meth c H locs 0 0 Q (F0 m 54 ls [])) → ∀ (H : Heap) (locs : List Loc), va_P (dC, dI) vwCl [(h_t, .inr (8, fX10 h_t_book h_t_images h_t_kept h_t_aside h_t_far h_t_then h_t_row h_t_mays h_t_firstRow h_t_low h_t_high x73 t_thanThis x74 t_knownAge x75 h_t_lowOne h_t_highOne h_t_ways t_met h_t_left t_hours t_greatest h_t_text t_typed t_at t_start t_token t_value h_t_verbs h_t_nums t_items)), (h_t_book, .inl (cI, 460, .inl t_book)), (h_t_low, .inl (cI, 8, .inl y72)), (h_t_high, .inl (cI, 8, .inl y71))] H → va_D A [(h_t, .inr (8, fX10 h_t_book h_t_images h_t_kept h_t_aside h_t_far h_t_then h_t_row h_t_mays h_t_firstRow h_t_low h_t_high x73 t_thanThis x74 t_knownAge x75 h_t_lowOne h_t_highOne h_t_ways t_met h_t_left t_hours t_greatest h_t_text t_typed t_at t_start t_token t_value h_t_verbs h_t_nums t_items)), (h_t_book, .inl (cI, 460, .inl t_book)), (h_t_low, .inl (cI, 8, .inl y72)), (h_t_high, .inl (cI, 8, .inl y71))] → va_S A s.heap H locs → ∀ ls : Array Slot, lv_has ls 3 [(0, .ref h_t), (1, .int x76)] → W p l e rmX10_findFewest s m args below meth c H locs 0 0 Q (F0 m 2 ls []) := by
    intro fu78
    induction fu78 with
    | zero =>
      intro y71 y72 x73 x74 x75 x76 q70 y64 y65 x66 x67 x68 x69 hf
      unfold f_X10_findFewest_L3 at hf
      exact none_ne hf
    | succ fu78 ih77 =>
      intro y71 y72 x73 x74 x75 x76 q70 y64 y65 x66 x67 x68 x69 hf hX79 hX80 H locs hP hD hS ls hl
      unfold f_X10_findFewest_L3 at hf
      refine lv_iload_n hx hb dX10_findFewest_2 rfl (lv_at hl 1 rfl) ?_
      refine lv_iconst (v := (5 : Int32)) hx hb dX10_findFewest_3 (by decide) ?_
      refine lv_icmp_ge (tgt := 54) hx hb dX10_findFewest_4 (by decide) (fun c81 => ?_) (fun c81 => ?_)
      · replace hf := ifp c81 hf
        obtain ⟨rfl, rfl, rfl, rfl, rfl, rfl, rfl⟩ := inj7 hf
        exact hX80 rfl _ _ hP hD hS _ (lv_sub hl [] rfl)
      · replace hf := ifn c81 hf
        refine lv_iconst (v := (0 : Int32)) hx hb dX10_findFewest_7 (by decide) ?_
        refine lv_istore_n (lv' := [(2, .int (0 : Int32)), (0, .ref h_t), (1, .int x76)]) hx hb dX10_findFewest_8 rfl hl (by decide) rfl (fun ls hl => ?_)
        have L137 : ∀ (fu118 : Nat) (y111 : Nat → Int32) (y112 : Nat → Int32) (x113 : Int32) (x114 : Int32) (x115 : Int32) (x116 : Int32) (q110 : Nat) (y104 : Nat → Int32) (y105 : Nat → Int32) (x106 : Int32) (x107 : Int32) (x108 : Int32) (x109 : Int32), f_X10_findFewest_L4 t_book x76 t_thanThis t_knownAge fu118 y111 y112 x113 x114 x115 x116 = some (q110, y104, y105, x106, x107, x108, x109) → (q110 = 0 → ∀ (H : Heap) (locs : List Loc), va_P (dC, dI) vwCl [(h_t, .inr (8, fX10 h_t_book h_t_images h_t_kept h_t_aside h_t_far h_t_then h_t_row h_t_mays h_t_firstRow h_t_low h_t_high x106 t_thanThis x107 t_knownAge x108 h_t_lowOne h_t_highOne h_t_ways t_met h_t_left t_hours t_greatest h_t_text t_typed t_at t_start t_token t_value h_t_verbs h_t_nums t_items)), (h_t_book, .inl (cI, 460, .inl t_book)), (h_t_low, .inl (cI, 8, .inl y105)), (h_t_high, .inl (cI, 8, .inl y104))] H → va_D A [(h_t, .inr (8, fX10 h_t_book h_t_images h_t_kept h_t_aside h_t_far h_t_then h_t_row h_t_mays h_t_firstRow h_t_low h_t_high x106 t_thanThis x107 t_knownAge x108 h_t_lowOne h_t_highOne h_t_ways t_met h_t_left t_hours t_greatest h_t_text t_typed t_at t_start t_token t_value h_t_verbs h_t_nums t_items)), (h_t_book, .inl (cI, 460, .inl t_book)), (h_t_low, .inl (cI, 8, .inl y105)), (h_t_high, .inl (cI, 8, .inl y104))] → va_S A s.heap H locs → ∀ ls : Array Slot, lv_has ls 3 [(2, .int x109)] → W p l e rmX10_findFewest s m args below meth c H locs 0 0 Q (F0 m 40 ls [])) → (q110 = 1 → ∀ (H : Heap) (locs : List Loc), va_P (dC, dI) vwCl [(h_t, .inr (8, fX10 h_t_book h_t_images h_t_kept h_t_aside h_t_far h_t_then h_t_row h_t_mays h_t_firstRow h_t_low h_t_high x106 t_thanThis x107 t_knownAge x108 h_t_lowOne h_t_highOne h_t_ways t_met h_t_left t_hours t_greatest h_t_text t_typed t_at t_start t_token t_value h_t_verbs h_t_nums t_items)), (h_t_book, .inl (cI, 460, .inl t_book)), (h_t_low, .inl (cI, 8, .inl y105)), (h_t_high, .inl (cI, 8, .inl y104))] H → va_D A [(h_t, .inr (8, fX10 h_t_book h_t_images h_t_kept h_t_aside h_t_far h_t_then h_t_row h_t_mays h_t_firstRow h_t_low h_t_high x106 t_thanThis x107 t_knownAge x108 h_t_lowOne h_t_highOne h_t_ways t_met h_t_left t_hours t_greatest h_t_text t_typed t_at t_start t_token t_value h_t_verbs h_t_nums t_items)), (h_t_book, .inl (cI, 460, .inl t_book)), (h_t_low, .inl (cI, 8, .inl y105)), (h_t_high, .inl (cI, 8, .inl y104))] → va_S A s.heap H locs → ∀ ls : Array Slot, lv_has ls 3 [(0, .ref h_t), (1, .int x76)] → W p l e rmX10_findFewest s m args below meth c H locs 0 0 Q (F0 m 48 ls [])) → ∀ (H : Heap) (locs : List Loc), va_P (dC, dI) vwCl [(h_t, .inr (8, fX10 h_t_book h_t_images h_t_kept h_t_aside h_t_far h_t_then h_t_row h_t_mays h_t_firstRow h_t_low h_t_high x113 t_thanThis x114 t_knownAge x115 h_t_lowOne h_t_highOne h_t_ways t_met h_t_left t_hours t_greatest h_t_text t_typed t_at t_start t_token t_value h_t_verbs h_t_nums t_items)), (h_t_book, .inl (cI, 460, .inl t_book)), (h_t_low, .inl (cI, 8, .inl y112)), (h_t_high, .inl (cI, 8, .inl y111))] H → va_D A [(h_t, .inr (8, fX10 h_t_book h_t_images h_t_kept h_t_aside h_t_far h_t_then h_t_row h_t_mays h_t_firstRow h_t_low h_t_high x113 t_thanThis x114 t_knownAge x115 h_t_lowOne h_t_highOne h_t_ways t_met h_t_left t_hours t_greatest h_t_text t_typed t_at t_start t_token t_value h_t_verbs h_t_nums t_items)), (h_t_book, .inl (cI, 460, .inl t_book)), (h_t_low, .inl (cI, 8, .inl y112)), (h_t_high, .inl (cI, 8, .inl y111))] → va_S A s.heap H locs → ∀ ls : Array Slot, lv_has ls 3 [(0, .ref h_t), (1, .int x76), (2, .int x116)] → W p l e rmX10_findFewest s m args below meth c H locs 0 0 Q (F0 m 9 ls []) := by
          intro fu118
          induction fu118 with
          | zero =>
            intro y111 y112 x113 x114 x115 x116 q110 y104 y105 x106 x107 x108 x109 hf
            unfold f_X10_findFewest_L4 at hf
            exact none_ne hf
          | succ fu118 ih117 =>
            intro y111 y112 x113 x114 x115 x116 q110 y104 y105 x106 x107 x108 x109 hf hX119 hX120 H locs hP hD hS ls hl
            unfold f_X10_findFewest_L4 at hf
            refine lv_iload_n hx hb dX10_findFewest_9 rfl (lv_at hl 2 rfl) ?_
            refine lv_aload_n hx hb dX10_findFewest_10 rfl (lv_at hl 0 rfl) ?_
            obtain ⟨r121, hg122, hf⟩ := bd1_some hf
            refine CM_callV (C := RX10) (As := []) (rest := [.int x116]) (wc := [(h_t, .inr (8, fX10 h_t_book h_t_images h_t_kept h_t_aside h_t_far h_t_then h_t_row h_t_mays h_t_firstRow h_t_low h_t_high x113 t_thanThis x114 t_knownAge x115 h_t_lowOne h_t_highOne h_t_ways t_met h_t_left t_hours t_greatest h_t_text t_typed t_at t_start t_token t_value h_t_verbs h_t_nums t_items)), (h_t_book, .inl (cI, 460, .inl t_book))]) (w1 := [(h_t, .inr (8, fX10 h_t_book h_t_images h_t_kept h_t_aside h_t_far h_t_then h_t_row h_t_mays h_t_firstRow h_t_low h_t_high x113 t_thanThis x114 t_knownAge x115 h_t_lowOne h_t_highOne h_t_ways t_met h_t_left t_hours t_greatest h_t_text t_typed t_at t_start t_token t_value h_t_verbs h_t_nums t_items)), (h_t_book, .inl (cI, 460, .inl t_book))]) (wr := [(h_t_low, .inl (cI, 8, .inl y112)), (h_t_high, .inl (cI, 8, .inl y111))]) (wo := [(h_t, .inr (8, fX10 h_t_book h_t_images h_t_kept h_t_aside h_t_far h_t_then h_t_row h_t_mays h_t_firstRow h_t_low h_t_high x113 t_thanThis x114 t_knownAge x115 h_t_lowOne h_t_highOne h_t_ways t_met h_t_left t_hours t_greatest h_t_text t_typed t_at t_start t_token t_value h_t_verbs h_t_nums t_items)), (h_t_book, .inl (cI, 460, .inl t_book)), (h_t_low, .inl (cI, 8, .inl y112)), (h_t_high, .inl (cI, 8, .inl y111))]) (v := (some (.int r121))) ⟨hx, hb, hml, hown, hts⟩ (c_X10_all l dC dI cI cZ te h_t h_t_book h_t_images h_t_kept h_t_aside h_t_far h_t_then h_t_row h_t_mays h_t_firstRow h_t_low h_t_high h_t_lowOne h_t_highOne h_t_ways h_t_left h_t_text h_t_verbs h_t_nums x113 t_thanThis x114 t_knownAge x115 t_met t_hours t_greatest t_typed t_at t_start t_token t_value t_items t_book r121 hg122) (cwV 0 hts (gV kw_263 kw_264 kw_265 kw_159 kw_266) rfl rfl rfl (by decide +kernel) ⟨Nat.le_of_ble_eq_true rfl, Nat.le_of_ble_eq_true rfl⟩) (kS_env te) hK hP hD hS hA hE [0, 1] [2, 3] [2, 3, 0, 1] rfl rfl (by decide) (by decide) (by decide) (by decide) rfl 0 8 rfl rfl rfl rfl hl.1 rfl (Nat.le_of_ble_eq_true rfl) dX10_findFewest_11 ⟨Nat.zero_le _, Nat.zero_le _⟩ (fun H locs hP hD hS => ?_)
            show W p l e rmX10_findFewest s m args below meth c H locs 0 0 Q (F0 m 14 ls [.int r121, .int x116])
            refine lv_icmp_gt (tgt := 48) hx hb dX10_findFewest_14 (by decide) (fun c123 => ?_) (fun c123 => ?_)
            · replace hf := ifp c123 hf
              obtain ⟨rfl, rfl, rfl, rfl, rfl, rfl, rfl⟩ := inj7 hf
              exact hX120 rfl _ _ hP hD hS _ (lv_sub hl [0, 1] rfl)
            · replace hf := ifn c123 hf
              refine lv_iload_n hx hb dX10_findFewest_17 rfl (lv_at hl 2 rfl) ?_
              obtain ⟨r124, hg125, hf⟩ := bd1_some hf
              refine CM_callS (As := [.int x116]) (rest := []) (wc := []) (w1 := []) (wr := [(h_t, .inr (8, fX10 h_t_book h_t_images h_t_kept h_t_aside h_t_far h_t_then h_t_row h_t_mays h_t_firstRow h_t_low h_t_high x113 t_thanThis x114 t_knownAge x115 h_t_lowOne h_t_highOne h_t_ways t_met h_t_left t_hours t_greatest h_t_text t_typed t_at t_start t_token t_value h_t_verbs h_t_nums t_items)), (h_t_book, .inl (cI, 460, .inl t_book)), (h_t_low, .inl (cI, 8, .inl y112)), (h_t_high, .inl (cI, 8, .inl y111))]) (wo := [(h_t, .inr (8, fX10 h_t_book h_t_images h_t_kept h_t_aside h_t_far h_t_then h_t_row h_t_mays h_t_firstRow h_t_low h_t_high x113 t_thanThis x114 t_knownAge x115 h_t_lowOne h_t_highOne h_t_ways t_met h_t_left t_hours t_greatest h_t_text t_typed t_at t_start t_token t_value h_t_verbs h_t_nums t_items)), (h_t_book, .inl (cI, 460, .inl t_book)), (h_t_low, .inl (cI, 8, .inl y112)), (h_t_high, .inl (cI, 8, .inl y111))]) (v := (some (.int r124))) ⟨hx, hb, hml, hown, hts⟩ (c_X10_sizeOf l dC dI cI cZ te x116 r124 hg125) (va_cwS 1 hts (gS kw_267 kw_268 kw_159 kw_269) rfl rfl rfl (by decide +kernel) ⟨Nat.le_of_ble_eq_true rfl, Nat.le_of_ble_eq_true rfl⟩) (kS_env te) hK hP hD hS hA hE [] [0, 1, 2, 3] [0, 1, 2, 3] rfl rfl (by decide) (by decide) (by decide) (by decide) rfl rfl hl.1 rfl (Nat.le_of_ble_eq_true rfl) dX10_findFewest_18 ⟨Nat.zero_le _, Nat.zero_le _⟩ (fun H locs hP hD hS => ?_)
              show W p l e rmX10_findFewest s m args below meth c H locs 0 0 Q (F0 m 21 ls [.int r124])
              refine lv_iload_n hx hb dX10_findFewest_21 rfl (lv_at hl 1 rfl) ?_
              refine lv_icmp_ne (tgt := 42) hx hb dX10_findFewest_22 (by decide) (fun c126 => ?_) (fun c126 => ?_)
              · replace hf := ifn c126 hf
                refine lv_iinc (v := (x116 + (1 : Int32))) (lv' := [(2, .int (x116 + (1 : Int32))), (0, .ref h_t), (1, .int x76)]) hx hb dX10_findFewest_42 hl (k := 2) rfl rfl (by decide) rfl (fun ls hl => ?_)
                refine lv_goto (tgt := 9) hx hb dX10_findFewest_45 (by decide) ?_
                exact ih117 _ _ _ _ _ _ _ _ _ _ _ _ _ hf hX119 hX120 _ _ hP hD hS _ (lv_sub hl [1, 2, 0] rfl)
              · replace hf := ifp c126 hf
                refine lv_aload_n hx hb dX10_findFewest_25 rfl (lv_at hl 0 rfl) ?_
                refine lv_aload_n hx hb dX10_findFewest_26 rfl (lv_at hl 0 rfl) ?_
                obtain ⟨r127, hg128, hf⟩ := bd1_some hf
                refine CM_callV (C := RX10) (As := []) (rest := [.ref h_t]) (wc := [(h_t, .inr (8, fX10 h_t_book h_t_images h_t_kept h_t_aside h_t_far h_t_then h_t_row h_t_mays h_t_firstRow h_t_low h_t_high x113 t_thanThis x114 t_knownAge x115 h_t_lowOne h_t_highOne h_t_ways t_met h_t_left t_hours t_greatest h_t_text t_typed t_at t_start t_token t_value h_t_verbs h_t_nums t_items)), (h_t_book, .inl (cI, 460, .inl t_book))]) (w1 := [(h_t, .inr (8, fX10 h_t_book h_t_images h_t_kept h_t_aside h_t_far h_t_then h_t_row h_t_mays h_t_firstRow h_t_low h_t_high x113 t_thanThis x114 t_knownAge x115 h_t_lowOne h_t_highOne h_t_ways t_met h_t_left t_hours t_greatest h_t_text t_typed t_at t_start t_token t_value h_t_verbs h_t_nums t_items)), (h_t_book, .inl (cI, 460, .inl t_book))]) (wr := [(h_t_low, .inl (cI, 8, .inl y112)), (h_t_high, .inl (cI, 8, .inl y111))]) (wo := [(h_t, .inr (8, fX10 h_t_book h_t_images h_t_kept h_t_aside h_t_far h_t_then h_t_row h_t_mays h_t_firstRow h_t_low h_t_high x113 t_thanThis x114 t_knownAge x115 h_t_lowOne h_t_highOne h_t_ways t_met h_t_left t_hours t_greatest h_t_text t_typed t_at t_start t_token t_value h_t_verbs h_t_nums t_items)), (h_t_book, .inl (cI, 460, .inl t_book)), (h_t_low, .inl (cI, 8, .inl y112)), (h_t_high, .inl (cI, 8, .inl y111))]) (v := (some (.int r127))) ⟨hx, hb, hml, hown, hts⟩ (c_X10_all l dC dI cI cZ te h_t h_t_book h_t_images h_t_kept h_t_aside h_t_far h_t_then h_t_row h_t_mays h_t_firstRow h_t_low h_t_high h_t_lowOne h_t_highOne h_t_ways h_t_left h_t_text h_t_verbs h_t_nums x113 t_thanThis x114 t_knownAge x115 t_met t_hours t_greatest t_typed t_at t_start t_token t_value t_items t_book r127 hg128) (cwV 0 hts (gV kw_263 kw_264 kw_265 kw_159 kw_266) rfl rfl rfl (by decide +kernel) ⟨Nat.le_of_ble_eq_true rfl, Nat.le_of_ble_eq_true rfl⟩) (kS_env te) hK hP hD hS hA hE [0, 1] [2, 3] [2, 3, 0, 1] rfl rfl (by decide) (by decide) (by decide) (by decide) rfl 0 8 rfl rfl rfl rfl hl.1 rfl (Nat.le_of_ble_eq_true rfl) dX10_findFewest_27 ⟨Nat.zero_le _, Nat.zero_le _⟩ (fun H locs hP hD hS => ?_)
                show W p l e rmX10_findFewest s m args below meth c H locs 0 0 Q (F0 m 30 ls [.int r127, .ref h_t])
                refine lv_iload_n hx hb dX10_findFewest_30 rfl (lv_at hl 2 rfl) ?_
                refine lv_iconst (v := (-1 : Int32)) hx hb dX10_findFewest_31 (by decide) ?_
                refine lv_ixor hx hb dX10_findFewest_32 ?_
                refine lv_iand hx hb dX10_findFewest_33 ?_
                obtain ⟨r129, x130, x131, x132, y133, y134, hg135, hf⟩ := bd6_some hf
                refine CM_callV (C := RX10) (As := [.int (r127 &&& (x116 ^^^ (-1 : Int32)))]) (rest := []) (wc := [(h_t, .inr (8, fX10 h_t_book h_t_images h_t_kept h_t_aside h_t_far h_t_then h_t_row h_t_mays h_t_firstRow h_t_low h_t_high x113 t_thanThis x114 t_knownAge x115 h_t_lowOne h_t_highOne h_t_ways t_met h_t_left t_hours t_greatest h_t_text t_typed t_at t_start t_token t_value h_t_verbs h_t_nums t_items)), (h_t_low, .inl (cI, 8, .inl y112)), (h_t_high, .inl (cI, 8, .inl y111)), (h_t_book, .inl (cI, 460, .inl t_book))]) (w1 := [(h_t, .inr (8, fX10 h_t_book h_t_images h_t_kept h_t_aside h_t_far h_t_then h_t_row h_t_mays h_t_firstRow h_t_low h_t_high x130 t_thanThis x131 t_knownAge x132 h_t_lowOne h_t_highOne h_t_ways t_met h_t_left t_hours t_greatest h_t_text t_typed t_at t_start t_token t_value h_t_verbs h_t_nums t_items)), (h_t_low, .inl (cI, 8, .inl y133)), (h_t_high, .inl (cI, 8, .inl y134)), (h_t_book, .inl (cI, 460, .inl t_book))]) (wr := []) (wo := [(h_t, .inr (8, fX10 h_t_book h_t_images h_t_kept h_t_aside h_t_far h_t_then h_t_row h_t_mays h_t_firstRow h_t_low h_t_high x130 t_thanThis x131 t_knownAge x132 h_t_lowOne h_t_highOne h_t_ways t_met h_t_left t_hours t_greatest h_t_text t_typed t_at t_start t_token t_value h_t_verbs h_t_nums t_items)), (h_t_book, .inl (cI, 460, .inl t_book)), (h_t_low, .inl (cI, 8, .inl y133)), (h_t_high, .inl (cI, 8, .inl y134))]) (v := (some (.int r129))) ⟨hx, hb, hml, hown, hts⟩ (c_X10_plain l dC dI cI cZ te h_t h_t_book h_t_images h_t_kept h_t_aside h_t_far h_t_then h_t_row h_t_mays h_t_firstRow h_t_low h_t_high h_t_lowOne h_t_highOne h_t_ways h_t_left h_t_text h_t_verbs h_t_nums x113 t_thanThis x114 t_knownAge x115 t_met t_hours t_greatest t_typed t_at t_start t_token t_value t_items y112 y111 t_book (r127 &&& (x116 ^^^ (-1 : Int32))) r129 x130 x131 x132 y133 y134 hg135) (cwV 1 hts (gV kw_259 kw_260 kw_261 kw_159 kw_262) rfl rfl rfl (by decide +kernel) ⟨Nat.le_of_ble_eq_true rfl, Nat.le_of_ble_eq_true rfl⟩) (kS_env te) hK hP hD hS hA hE [0, 2, 3, 1] [] [0, 3, 1, 2] rfl rfl (by decide) (by decide) (by decide) (by decide) rfl 0 8 rfl rfl rfl rfl hl.1 rfl (Nat.le_of_ble_eq_true rfl) dX10_findFewest_34 ⟨Nat.zero_le _, Nat.zero_le _⟩ (fun H locs hP hD hS => ?_)
                show W p l e rmX10_findFewest s m args below meth c H locs 0 0 Q (F0 m 37 ls [.int r129])
                refine lv_if_eq (tgt := 42) hx hb dX10_findFewest_37 (by decide) (fun c136 => ?_) (fun c136 => ?_)
                · replace hf := ifp c136 hf
                  refine lv_iinc (v := (x116 + (1 : Int32))) (lv' := [(2, .int (x116 + (1 : Int32))), (0, .ref h_t), (1, .int x76)]) hx hb dX10_findFewest_42 hl (k := 2) rfl rfl (by decide) rfl (fun ls hl => ?_)
                  refine lv_goto (tgt := 9) hx hb dX10_findFewest_45 (by decide) ?_
                  exact ih117 _ _ _ _ _ _ _ _ _ _ _ _ _ hf hX119 hX120 _ _ hP hD hS _ (lv_sub hl [1, 2, 0] rfl)
                · replace hf := ifn c136 hf
                  obtain ⟨rfl, rfl, rfl, rfl, rfl, rfl, rfl⟩ := inj7 hf
                  exact hX119 rfl _ _ hP hD hS _ (lv_sub hl [2] rfl)
        obtain ⟨q110, y104, y105, x106, x107, x108, x109, hg, hf⟩ := bd7_some hf
        refine L137 FU _ _ _ _ _ _ _ _ _ _ _ _ _ hg ?_ ?_ _ _ hP hD hS _ (lv_sub hl [1, 2, 0] rfl)
        · intro hq
          subst hq
          replace hf := ifp rfl hf
          intro H locs hP hD hS ls hl
          obtain ⟨rfl, rfl, rfl, rfl, rfl, rfl, rfl⟩ := inj7 hf
          exact hX79 rfl _ _ hP hD hS _ (lv_sub hl [0] rfl)
        · intro hq
          subst hq
          replace hf := ifn (by decide) hf
          intro H locs hP hD hS ls hl
          refine lv_iinc (v := (x76 + (1 : Int32))) (lv' := [(1, .int (x76 + (1 : Int32))), (0, .ref h_t)]) hx hb dX10_findFewest_48 hl (k := 1) rfl rfl (by decide) rfl (fun ls hl => ?_)
          refine lv_goto (tgt := 2) hx hb dX10_findFewest_51 (by decide) ?_
          exact ih77 _ _ _ _ _ _ _ _ _ _ _ _ _ hf hX79 hX80 _ _ hP hD hS _ (lv_sub hl [1, 0] rfl)
  obtain ⟨q70, y64, y65, x66, x67, x68, x69, hg, hf⟩ := bd7_some hf
  refine L138 FU _ _ _ _ _ _ _ _ _ _ _ _ _ hg ?_ ?_ _ _ hP hD hS _ (lv_sub hl [1, 0] rfl)
  · intro hq
    subst hq
    replace hf := ifp rfl hf
    intro H locs hP hD hS ls hl
    refine lv_iload_n hx hb dX10_findFewest_40 rfl (lv_at hl 0 rfl) ?_
    obtain ⟨rfl, rfl, rfl, rfl, rfl, rfl⟩ := inj6 hf
    subst hQ
    exact CM_iret hx hb hr rfl hlocks hAe hP hD hS dX10_findFewest_41
  · intro hq
    subst hq
    replace hf := ifn (by decide) hf
    intro H locs hP hD hS ls hl
    refine lv_bipush (v := (-5 : Int32)) hx hb dX10_findFewest_54 (by decide) ?_
    obtain ⟨rfl, rfl, rfl, rfl, rfl, rfl⟩ := inj6 hf
    subst hQ
    exact CM_iret hx hb hr rfl hlocks hAe hP hD hS dX10_findFewest_56
def rmX10_fewest : Room := { frames := 5, cells := 0, slots := 0, locals := 112 }
abbrev wqX10_fewest : List Cond := Cond.code yX10_fewest cX10_fewest 1 (some .int) :: tG
set_option maxHeartbeats 4000000 in
set_option maxRecDepth 100000 in
theorem c_X10_fewest (l : Launch) (dC : Nat → ClassId) (dI : Nat → Nat → Nat) (cI cZ : ClassId) (te : Nat → Nat) (h_t : Nat) (h_t_book : Nat) (h_t_images : Nat) (h_t_kept : Nat) (h_t_aside : Nat) (h_t_far : Nat) (h_t_then : Nat) (h_t_row : Nat) (h_t_mays : Nat) (h_t_firstRow : Nat) (h_t_low : Nat) (h_t_high : Nat) (h_t_lowOne : Nat) (h_t_highOne : Nat) (h_t_ways : Nat) (h_t_left : Nat) (h_t_text : Nat) (h_t_verbs : Nat) (h_t_nums : Nat) (t_noOlder : Int32) (t_thanThis : Int32) (t_known : Int32) (t_knownAge : Int32) (t_moved : Int32) (t_met : Int32) (t_hours : Int32) (t_greatest : Int32) (t_typed : Int32) (t_at : Int32) (t_start : Int32) (t_token : Int32) (t_value : Int32) (t_items : Int32) (t_book : Nat → Int32) (t_low : Nat → Int32) (t_high : Nat → Int32) (o0 : Int32) (o1 : Int32) (o2 : Int32) (o3 : Int32) (o4 : Nat → Int32) (o5 : Nat → Int32) (hf : f_X10_fewest t_noOlder t_thanThis t_known t_knownAge t_moved t_book t_low t_high = some (o0, o1, o2, o3, o4, o5)) : CM l yX10_fewest wqX10_fewest rmX10_fewest (kS te) dC dI cI cZ [.ref h_t] [(h_t, .inr (8, fX10 h_t_book h_t_images h_t_kept h_t_aside h_t_far h_t_then h_t_row h_t_mays h_t_firstRow h_t_low h_t_high t_noOlder t_thanThis t_known t_knownAge t_moved h_t_lowOne h_t_highOne h_t_ways t_met h_t_left t_hours t_greatest h_t_text t_typed t_at t_start t_token t_value h_t_verbs h_t_nums t_items)), (h_t_book, .inl (cI, 460, .inl t_book)), (h_t_low, .inl (cI, 8, .inl t_low)), (h_t_high, .inl (cI, 8, .inl t_high))] [(h_t, .inr (8, fX10 h_t_book h_t_images h_t_kept h_t_aside h_t_far h_t_then h_t_row h_t_mays h_t_firstRow h_t_low h_t_high o1 t_thanThis o2 t_knownAge o3 h_t_lowOne h_t_highOne h_t_ways t_met h_t_left t_hours t_greatest h_t_text t_typed t_at t_start t_token t_value h_t_verbs h_t_nums t_items)), (h_t_book, .inl (cI, 460, .inl t_book)), (h_t_low, .inl (cI, 8, .inl o4)), (h_t_high, .inl (cI, 8, .inl o5))] (some (.int o0)) := by
  refine CM_of (cc := cX10_fewest) (maxL := 1) (ret := (some .int)) (by decide +kernel) rfl (Nat.le_of_ble_eq_true rfl) ?_
  intro p e s m args below meth c A Q hx hb hr hml hown hts hlocks hA hK hP hD hS hE hQ hAe ls hl
  have hown : s.vm.findClass RX10 = some m.cls := hown
  have hl : lv_has ls 1 [(0, .ref h_t)] := hl
  unfold f_X10_fewest at hf
  refine lv_aload_n hx hb dX10_fewest_0 rfl (lv_at hl 0 rfl) ?_
  obtain ⟨r1, x2, x3, x4, y5, y6, hg7, hf⟩ := bd6_some hf
  refine CM_callV (C := RX10) (As := []) (rest := []) (wc := [(h_t, .inr (8, fX10 h_t_book h_t_images h_t_kept h_t_aside h_t_far h_t_then h_t_row h_t_mays h_t_firstRow h_t_low h_t_high t_noOlder t_thanThis t_known t_knownAge t_moved h_t_lowOne h_t_highOne h_t_ways t_met h_t_left t_hours t_greatest h_t_text t_typed t_at t_start t_token t_value h_t_verbs h_t_nums t_items)), (h_t_book, .inl (cI, 460, .inl t_book)), (h_t_low, .inl (cI, 8, .inl t_low)), (h_t_high, .inl (cI, 8, .inl t_high))]) (w1 := [(h_t, .inr (8, fX10 h_t_book h_t_images h_t_kept h_t_aside h_t_far h_t_then h_t_row h_t_mays h_t_firstRow h_t_low h_t_high x2 t_thanThis x3 t_knownAge x4 h_t_lowOne h_t_highOne h_t_ways t_met h_t_left t_hours t_greatest h_t_text t_typed t_at t_start t_token t_value h_t_verbs h_t_nums t_items)), (h_t_book, .inl (cI, 460, .inl t_book)), (h_t_low, .inl (cI, 8, .inl y5)), (h_t_high, .inl (cI, 8, .inl y6))]) (wr := []) (wo := [(h_t, .inr (8, fX10 h_t_book h_t_images h_t_kept h_t_aside h_t_far h_t_then h_t_row h_t_mays h_t_firstRow h_t_low h_t_high x2 t_thanThis x3 t_knownAge x4 h_t_lowOne h_t_highOne h_t_ways t_met h_t_left t_hours t_greatest h_t_text t_typed t_at t_start t_token t_value h_t_verbs h_t_nums t_items)), (h_t_book, .inl (cI, 460, .inl t_book)), (h_t_low, .inl (cI, 8, .inl y5)), (h_t_high, .inl (cI, 8, .inl y6))]) (v := (some (.int r1))) ⟨hx, hb, hml, hown, hts⟩ (c_X10_findFewest l dC dI cI cZ te h_t h_t_book h_t_images h_t_kept h_t_aside h_t_far h_t_then h_t_row h_t_mays h_t_firstRow h_t_low h_t_high h_t_lowOne h_t_highOne h_t_ways h_t_left h_t_text h_t_verbs h_t_nums t_noOlder t_thanThis t_known t_knownAge t_moved t_met t_hours t_greatest t_typed t_at t_start t_token t_value t_items t_book t_low t_high r1 x2 x3 x4 y5 y6 hg7) (cwV 0 hts (gV kw_270 kw_271 kw_272 kw_159 kw_273) rfl rfl rfl (by decide +kernel) ⟨Nat.le_of_ble_eq_true rfl, Nat.le_of_ble_eq_true rfl⟩) (kS_env te) hK hP hD hS hA hE [0, 1, 2, 3] [] [0, 1, 2, 3] rfl rfl (by decide) (by decide) (by decide) (by decide) rfl 0 8 rfl rfl rfl rfl hl.1 rfl (Nat.le_of_ble_eq_true rfl) dX10_fewest_1 ⟨Nat.zero_le _, Nat.zero_le _⟩ (fun H locs hP hD hS => ?_)
  show W p l e rmX10_fewest s m args below meth c H locs 0 0 Q (F0 m 4 ls [.int r1])
  obtain ⟨rfl, rfl, rfl, rfl, rfl, rfl⟩ := inj6 hf
  subst hQ
  exact CM_iret hx hb hr rfl hlocks hAe hP hD hS dX10_fewest_4
