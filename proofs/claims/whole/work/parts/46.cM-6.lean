def rmX10_area : Room := { frames := 1, cells := 0, slots := 0, locals := 25 }
abbrev wqX10_area : List Cond := Cond.code yX10_area cX10_area 3 (some .int) :: tG
set_option maxHeartbeats 4000000 in
set_option maxRecDepth 100000 in
theorem c_X10_area (l : Launch) (dC : Nat → ClassId) (dI : Nat → Nat → Nat) (cI cZ : ClassId) (te : Nat → Nat) (h_t : Nat) (h_t_book : Nat) (h_t_images : Nat) (h_t_kept : Nat) (h_t_aside : Nat) (h_t_far : Nat) (h_t_then : Nat) (h_t_row : Nat) (h_t_mays : Nat) (h_t_firstRow : Nat) (h_t_low : Nat) (h_t_high : Nat) (h_t_lowOne : Nat) (h_t_highOne : Nat) (h_t_ways : Nat) (h_t_left : Nat) (h_t_text : Nat) (h_t_verbs : Nat) (h_t_nums : Nat) (t_noOlder : Int32) (t_thanThis : Int32) (t_known : Int32) (t_knownAge : Int32) (t_moved : Int32) (t_met : Int32) (t_hours : Int32) (t_greatest : Int32) (t_typed : Int32) (t_at : Int32) (t_start : Int32) (t_token : Int32) (t_value : Int32) (t_items : Int32) (t_book : Nat → Int32) (p1 : Int32) (p2 : Int32) (o0 : Int32) (o1 : Nat → Int32) (hf : f_X10_area t_book p1 p2 = some (o0, o1)) : CM l yX10_area wqX10_area rmX10_area (kS te) dC dI cI cZ [.ref h_t, .int p1, .int p2] [(h_t, .inr (8, fX10 h_t_book h_t_images h_t_kept h_t_aside h_t_far h_t_then h_t_row h_t_mays h_t_firstRow h_t_low h_t_high t_noOlder t_thanThis t_known t_knownAge t_moved h_t_lowOne h_t_highOne h_t_ways t_met h_t_left t_hours t_greatest h_t_text t_typed t_at t_start t_token t_value h_t_verbs h_t_nums t_items)), (h_t_book, .inl (cI, 460, .inl t_book))] [(h_t, .inr (8, fX10 h_t_book h_t_images h_t_kept h_t_aside h_t_far h_t_then h_t_row h_t_mays h_t_firstRow h_t_low h_t_high t_noOlder t_thanThis t_known t_knownAge t_moved h_t_lowOne h_t_highOne h_t_ways t_met h_t_left t_hours t_greatest h_t_text t_typed t_at t_start t_token t_value h_t_verbs h_t_nums t_items)), (h_t_book, .inl (cI, 460, .inl o1))] (some (.int o0)) := by
  refine CM_of (cc := cX10_area) (maxL := 3) (ret := (some .int)) (by decide +kernel) rfl (Nat.le_of_ble_eq_true rfl) ?_
  intro p e s m args below meth c A Q hx hb hr hml hown hts hlocks hA hK hP hD hS hE hQ hAe ls hl
  have hown : s.vm.findClass RX10 = some m.cls := hown
  have hl : lv_has ls 3 [(0, .ref h_t), (1, .int p1), (2, .int p2)] := hl
  unfold f_X10_area at hf
  refine lv_iload_n hx hb dX10_area_0 rfl (lv_at hl 1 rfl) ?_
  refine lv_i2l hx hb dX10_area_1 rfl ?_
  refine lv_lconst (v := (0 : Int64)) hx hb dX10_area_2 (by decide) ?_
  refine lv_ldc2 (v := (19 : Int64)) hx hb hown (hts _ (List.mem_cons_of_mem _ kw_300)) dX10_area_3 ?_
  obtain ⟨r1, hg2, hf⟩ := bd1_some hf
  refine CM_callS (As := [.long p1.toInt64, .long (0 : Int64), .long (19 : Int64)]) (rest := []) (wc := []) (w1 := []) (wr := [(h_t, .inr (8, fX10 h_t_book h_t_images h_t_kept h_t_aside h_t_far h_t_then h_t_row h_t_mays h_t_firstRow h_t_low h_t_high t_noOlder t_thanThis t_known t_knownAge t_moved h_t_lowOne h_t_highOne h_t_ways t_met h_t_left t_hours t_greatest h_t_text t_typed t_at t_start t_token t_value h_t_verbs h_t_nums t_items)), (h_t_book, .inl (cI, 460, .inl t_book))]) (wo := [(h_t, .inr (8, fX10 h_t_book h_t_images h_t_kept h_t_aside h_t_far h_t_then h_t_row h_t_mays h_t_firstRow h_t_low h_t_high t_noOlder t_thanThis t_known t_knownAge t_moved h_t_lowOne h_t_highOne h_t_ways t_met h_t_left t_hours t_greatest h_t_text t_typed t_at t_start t_token t_value h_t_verbs h_t_nums t_items)), (h_t_book, .inl (cI, 460, .inl t_book))]) (v := (some (.int r1))) ⟨hx, hb, hml, hown, hts⟩ (c_X10_in l dC dI cI cZ te (p1.toInt64) (0 : Int64) (19 : Int64) r1 hg2) (va_cwS 3 hts (gS kw_157 kw_158 kw_159 kw_160) rfl rfl rfl (by decide +kernel) ⟨Nat.le_of_ble_eq_true rfl, Nat.le_of_ble_eq_true rfl⟩) (kS_env te) hK hP hD hS hA hE [] [0, 1] [0, 1] rfl rfl (by decide) (by decide) (by decide) (by decide) rfl rfl hl.1 rfl (Nat.le_of_ble_eq_true rfl) dX10_area_6 ⟨Nat.zero_le _, Nat.zero_le _⟩ (fun H locs hP hD hS => ?_)
  show W p l e rmX10_area s m args below meth c H locs 0 0 Q (F0 m 9 ls [.int r1])
  refine lv_if_eq (tgt := 37) hx hb dX10_area_9 (by decide) (fun c3 => ?_) (fun c3 => ?_)
  · replace hf := ifp c3 hf
    refine lv_bipush (v := (-2 : Int32)) hx hb dX10_area_37 (by decide) ?_
    obtain ⟨rfl, rfl⟩ := inj2 hf
    subst hQ
    exact CM_iret hx hb hr rfl hlocks hAe hP hD hS dX10_area_39
  · replace hf := ifn c3 hf
    refine lv_iload_n hx hb dX10_area_12 rfl (lv_at hl 2 rfl) ?_
    refine lv_i2l hx hb dX10_area_13 rfl ?_
    refine lv_lconst (v := (0 : Int64)) hx hb dX10_area_14 (by decide) ?_
    refine lv_ldc2 (v := (999 : Int64)) hx hb hown (hts _ (List.mem_cons_of_mem _ kw_215)) dX10_area_15 ?_
    obtain ⟨r4, hg5, hf⟩ := bd1_some hf
    refine CM_callS (As := [.long p2.toInt64, .long (0 : Int64), .long (999 : Int64)]) (rest := []) (wc := []) (w1 := []) (wr := [(h_t, .inr (8, fX10 h_t_book h_t_images h_t_kept h_t_aside h_t_far h_t_then h_t_row h_t_mays h_t_firstRow h_t_low h_t_high t_noOlder t_thanThis t_known t_knownAge t_moved h_t_lowOne h_t_highOne h_t_ways t_met h_t_left t_hours t_greatest h_t_text t_typed t_at t_start t_token t_value h_t_verbs h_t_nums t_items)), (h_t_book, .inl (cI, 460, .inl t_book))]) (wo := [(h_t, .inr (8, fX10 h_t_book h_t_images h_t_kept h_t_aside h_t_far h_t_then h_t_row h_t_mays h_t_firstRow h_t_low h_t_high t_noOlder t_thanThis t_known t_knownAge t_moved h_t_lowOne h_t_highOne h_t_ways t_met h_t_left t_hours t_greatest h_t_text t_typed t_at t_start t_token t_value h_t_verbs h_t_nums t_items)), (h_t_book, .inl (cI, 460, .inl t_book))]) (v := (some (.int r4))) ⟨hx, hb, hml, hown, hts⟩ (c_X10_in l dC dI cI cZ te (p2.toInt64) (0 : Int64) (999 : Int64) r4 hg5) (va_cwS 3 hts (gS kw_157 kw_158 kw_159 kw_160) rfl rfl rfl (by decide +kernel) ⟨Nat.le_of_ble_eq_true rfl, Nat.le_of_ble_eq_true rfl⟩) (kS_env te) hK hP hD hS hA hE [] [0, 1] [0, 1] rfl rfl (by decide) (by decide) (by decide) (by decide) rfl rfl hl.1 rfl (Nat.le_of_ble_eq_true rfl) dX10_area_18 ⟨Nat.zero_le _, Nat.zero_le _⟩ (fun H locs hP hD hS => ?_)
    show W p l e rmX10_area s m args below meth c H locs 0 0 Q (F0 m 21 ls [.int r4])
    refine lv_if_eq (tgt := 37) hx hb dX10_area_21 (by decide) (fun c6 => ?_) (fun c6 => ?_)
    · replace hf := ifp c6 hf
      refine lv_bipush (v := (-2 : Int32)) hx hb dX10_area_37 (by decide) ?_
      obtain ⟨rfl, rfl⟩ := inj2 hf
      subst hQ
      exact CM_iret hx hb hr rfl hlocks hAe hP hD hS dX10_area_39
    · replace hf := ifn c6 hf
      refine lv_aload_n hx hb dX10_area_24 rfl (lv_at hl 0 rfl) ?_
      refine lv_sipush (v := (410 : Int32)) hx hb dX10_area_25 (by decide) ?_
      refine lv_iload_n hx hb dX10_area_28 rfl (lv_at hl 1 rfl) ?_
      refine lv_iadd hx hb dX10_area_29 ?_
      refine lv_iload_n hx hb dX10_area_30 rfl (lv_at hl 2 rfl) ?_
      obtain ⟨r7, y8, hg9, hf⟩ := bd2_some hf
      refine CM_callV (C := RX10) (As := [.int ((410 : Int32) + p1), .int p2]) (rest := []) (wc := [(h_t, .inr (8, fX10 h_t_book h_t_images h_t_kept h_t_aside h_t_far h_t_then h_t_row h_t_mays h_t_firstRow h_t_low h_t_high t_noOlder t_thanThis t_known t_knownAge t_moved h_t_lowOne h_t_highOne h_t_ways t_met h_t_left t_hours t_greatest h_t_text t_typed t_at t_start t_token t_value h_t_verbs h_t_nums t_items)), (h_t_book, .inl (cI, 460, .inl t_book))]) (w1 := [(h_t, .inr (8, fX10 h_t_book h_t_images h_t_kept h_t_aside h_t_far h_t_then h_t_row h_t_mays h_t_firstRow h_t_low h_t_high t_noOlder t_thanThis t_known t_knownAge t_moved h_t_lowOne h_t_highOne h_t_ways t_met h_t_left t_hours t_greatest h_t_text t_typed t_at t_start t_token t_value h_t_verbs h_t_nums t_items)), (h_t_book, .inl (cI, 460, .inl y8))]) (wr := []) (wo := [(h_t, .inr (8, fX10 h_t_book h_t_images h_t_kept h_t_aside h_t_far h_t_then h_t_row h_t_mays h_t_firstRow h_t_low h_t_high t_noOlder t_thanThis t_known t_knownAge t_moved h_t_lowOne h_t_highOne h_t_ways t_met h_t_left t_hours t_greatest h_t_text t_typed t_at t_start t_token t_value h_t_verbs h_t_nums t_items)), (h_t_book, .inl (cI, 460, .inl y8))]) (v := (some (.int r7))) ⟨hx, hb, hml, hown, hts⟩ (c_X10_sets l dC dI cI cZ te h_t h_t_book h_t_images h_t_kept h_t_aside h_t_far h_t_then h_t_row h_t_mays h_t_firstRow h_t_low h_t_high h_t_lowOne h_t_highOne h_t_ways h_t_left h_t_text h_t_verbs h_t_nums t_noOlder t_thanThis t_known t_knownAge t_moved t_met t_hours t_greatest t_typed t_at t_start t_token t_value t_items t_book ((410 : Int32) + p1) p2 r7 y8 hg9) (cwV 2 hts (gV kw_169 kw_170 kw_171 kw_159 kw_172) rfl rfl rfl (by decide +kernel) ⟨Nat.le_of_ble_eq_true rfl, Nat.le_of_ble_eq_true rfl⟩) (kS_env te) hK hP hD hS hA hE [0, 1] [] [0, 1] rfl rfl (by decide) (by decide) (by decide) (by decide) rfl 0 8 rfl rfl rfl rfl hl.1 rfl (Nat.le_of_ble_eq_true rfl) dX10_area_31 ⟨Nat.zero_le _, Nat.zero_le _⟩ (fun H locs hP hD hS => ?_)
      show W p l e rmX10_area s m args below meth c H locs 0 0 Q (F0 m 34 ls [.int r7])
      refine lv_goto (tgt := 39) hx hb dX10_area_34 (by decide) ?_
      obtain ⟨rfl, rfl⟩ := inj2 hf
      subst hQ
      exact CM_iret hx hb hr rfl hlocks hAe hP hD hS dX10_area_39
def rmX10_volume : Room := { frames := 0, cells := 0, slots := 0, locals := 0 }
abbrev wqX10_volume : List Cond := Cond.code yX10_volume cX10_volume 5 (some .int) :: tG
set_option maxHeartbeats 4000000 in
set_option maxRecDepth 100000 in
theorem c_X10_volume (l : Launch) (dC : Nat → ClassId) (dI : Nat → Nat → Nat) (cI cZ : ClassId) (te : Nat → Nat) (h_t : Nat) (h_t_book : Nat) (h_t_images : Nat) (h_t_kept : Nat) (h_t_aside : Nat) (h_t_far : Nat) (h_t_then : Nat) (h_t_row : Nat) (h_t_mays : Nat) (h_t_firstRow : Nat) (h_t_low : Nat) (h_t_high : Nat) (h_t_lowOne : Nat) (h_t_highOne : Nat) (h_t_ways : Nat) (h_t_left : Nat) (h_t_text : Nat) (h_t_verbs : Nat) (h_t_nums : Nat) (t_noOlder : Int32) (t_thanThis : Int32) (t_known : Int32) (t_knownAge : Int32) (t_moved : Int32) (t_met : Int32) (t_hours : Int32) (t_greatest : Int32) (t_typed : Int32) (t_at : Int32) (t_start : Int32) (t_token : Int32) (t_value : Int32) (t_items : Int32) (t_book : Nat → Int32) (p1 : Int32) (p2 : Int32) (o0 : Int32) (hf : f_X10_volume t_book p1 p2 = some o0) : CM l yX10_volume wqX10_volume rmX10_volume (kS te) dC dI cI cZ [.ref h_t, .int p1, .int p2] [(h_t, .inr (8, fX10 h_t_book h_t_images h_t_kept h_t_aside h_t_far h_t_then h_t_row h_t_mays h_t_firstRow h_t_low h_t_high t_noOlder t_thanThis t_known t_knownAge t_moved h_t_lowOne h_t_highOne h_t_ways t_met h_t_left t_hours t_greatest h_t_text t_typed t_at t_start t_token t_value h_t_verbs h_t_nums t_items)), (h_t_book, .inl (cI, 460, .inl t_book))] [(h_t, .inr (8, fX10 h_t_book h_t_images h_t_kept h_t_aside h_t_far h_t_then h_t_row h_t_mays h_t_firstRow h_t_low h_t_high t_noOlder t_thanThis t_known t_knownAge t_moved h_t_lowOne h_t_highOne h_t_ways t_met h_t_left t_hours t_greatest h_t_text t_typed t_at t_start t_token t_value h_t_verbs h_t_nums t_items)), (h_t_book, .inl (cI, 460, .inl t_book))] (some (.int o0)) := by
  refine CM_of (cc := cX10_volume) (maxL := 5) (ret := (some .int)) (by decide +kernel) rfl (Nat.le_of_ble_eq_true rfl) ?_
  intro p e s m args below meth c A Q hx hb hr hml hown hts hlocks hA hK hP hD hS hE hQ hAe ls hl
  have hown : s.vm.findClass RX10 = some m.cls := hown
  have hl : lv_has ls 5 [(0, .ref h_t), (1, .int p1), (2, .int p2)] := hl
  unfold f_X10_volume at hf
  refine lv_iconst (v := (0 : Int32)) hx hb dX10_volume_0 (by decide) ?_
  refine lv_istore_n (lv' := [(3, .int (0 : Int32)), (0, .ref h_t), (1, .int p1), (2, .int p2)]) hx hb dX10_volume_1 rfl hl (by decide) rfl (fun ls hl => ?_)
  refine lv_iload_n hx hb dX10_volume_2 rfl (lv_at hl 3 rfl) ?_
  refine lv_istore (lv' := [(4, .int p2), (3, .int (0 : Int32)), (0, .ref h_t), (1, .int p1), (2, .int p2)]) hx hb dX10_volume_3 hl (by decide) rfl (fun ls hl => ?_)
  have L17 : ∀ (fu11 : Nat) (x8 : Int32) (x9 : Int32) (x7 : Int32), f_X10_volume_L1 p1 t_book fu11 x8 x9 = some x7 → (∀ (H : Heap) (locs : List Loc), va_P (dC, dI) vwCl [(h_t, .inr (8, fX10 h_t_book h_t_images h_t_kept h_t_aside h_t_far h_t_then h_t_row h_t_mays h_t_firstRow h_t_low h_t_high t_noOlder t_thanThis t_known t_knownAge t_moved h_t_lowOne h_t_highOne h_t_ways t_met h_t_left t_hours t_greatest h_t_text t_typed t_at t_start t_token t_value h_t_verbs h_t_nums t_items)), (h_t_book, .inl (cI, 460, .inl t_book))] H → va_D A [(h_t, .inr (8, fX10 h_t_book h_t_images h_t_kept h_t_aside h_t_far h_t_then h_t_row h_t_mays h_t_firstRow h_t_low h_t_high t_noOlder t_thanThis t_known t_knownAge t_moved h_t_lowOne h_t_highOne h_t_ways t_met h_t_left t_hours t_greatest h_t_text t_typed t_at t_start t_token t_value h_t_verbs h_t_nums t_items)), (h_t_book, .inl (cI, 460, .inl t_book))] → va_S A s.heap H locs → ∀ ls : Array Slot, lv_has ls 5 [(3, .int x7)] → W p l e rmX10_volume s m args below meth c H locs 0 0 Q (F0 m 31 ls [])) → ∀ (H : Heap) (locs : List Loc), va_P (dC, dI) vwCl [(h_t, .inr (8, fX10 h_t_book h_t_images h_t_kept h_t_aside h_t_far h_t_then h_t_row h_t_mays h_t_firstRow h_t_low h_t_high t_noOlder t_thanThis t_known t_knownAge t_moved h_t_lowOne h_t_highOne h_t_ways t_met h_t_left t_hours t_greatest h_t_text t_typed t_at t_start t_token t_value h_t_verbs h_t_nums t_items)), (h_t_book, .inl (cI, 460, .inl t_book))] H → va_D A [(h_t, .inr (8, fX10 h_t_book h_t_images h_t_kept h_t_aside h_t_far h_t_then h_t_row h_t_mays h_t_firstRow h_t_low h_t_high t_noOlder t_thanThis t_known t_knownAge t_moved h_t_lowOne h_t_highOne h_t_ways t_met h_t_left t_hours t_greatest h_t_text t_typed t_at t_start t_token t_value h_t_verbs h_t_nums t_items)), (h_t_book, .inl (cI, 460, .inl t_book))] → va_S A s.heap H locs → ∀ ls : Array Slot, lv_has ls 5 [(0, .ref h_t), (1, .int p1), (3, .int x8), (4, .int x9)] → W p l e rmX10_volume s m args below meth c H locs 0 0 Q (F0 m 5 ls []) := by
    intro fu11
    induction fu11 with
    | zero =>
      intro x8 x9 x7 hf
      unfold f_X10_volume_L1 at hf
      exact none_ne hf
    | succ fu11 ih10 =>
      intro x8 x9 x7 hf hX12 H locs hP hD hS ls hl
      unfold f_X10_volume_L1 at hf
      refine lv_iload hx hb dX10_volume_5 (lv_at hl 3 rfl) ?_
      refine lv_iload_n hx hb dX10_volume_7 rfl (lv_at hl 1 rfl) ?_
      refine lv_icmp_ge (tgt := 31) hx hb dX10_volume_8 (by decide) (fun c13 => ?_) (fun c13 => ?_)
      · replace hf := ifp c13 hf
        obtain rfl := inj1 hf
        exact hX12 _ _ hP hD hS _ (lv_sub hl [2] rfl)
      · replace hf := ifn c13 hf
        refine lv_iload_n hx hb dX10_volume_11 rfl (lv_at hl 2 rfl) ?_
        refine lv_aload_n hx hb dX10_volume_12 rfl (lv_at hl 0 rfl) ?_
        refine va_get (D := (dC, dI)) (ci := 8) (v := .ref h_t_book) (C := RX10) (T := TX10) (N := 32) hx hb hts (in1 tw_X10) hown hK hP 0 rfl rfl 0 (by decide) (hts _ (List.mem_cons_of_mem _ kw_116)) (fun _ h9 => h9) rfl dX10_volume_13 ?_
        refine lv_sipush (v := (410 : Int32)) hx hb dX10_volume_16 (by decide) ?_
        refine lv_iload hx hb dX10_volume_19 (lv_at hl 3 rfl) ?_
        refine lv_iadd hx hb dX10_volume_21 ?_
        obtain ⟨g14, hf⟩ := chk_some hf
        refine va_iald hx hb hK hP 1 0 rfl rfl (gin_in g14) dX10_volume_22 ?_
        refine lv_iadd hx hb dX10_volume_23 ?_
        obtain ⟨x15, e16, hf⟩ := nm_some hf
        refine lv_tope e16 ?_
        refine lv_istore_n (lv' := [(3, .int x15), (0, .ref h_t), (1, .int p1), (4, .int x9)]) hx hb dX10_volume_24 rfl hl (by decide) rfl (fun ls hl => ?_)
        refine lv_iinc (v := (x9 + (1 : Int32))) (lv' := [(4, .int (x9 + (1 : Int32))), (3, .int x15), (0, .ref h_t), (1, .int p1)]) hx hb dX10_volume_25 hl (k := 3) rfl rfl (by decide) rfl (fun ls hl => ?_)
        refine lv_goto (tgt := 5) hx hb dX10_volume_28 (by decide) ?_
        exact ih10 _ _ _ hf hX12 _ _ hP hD hS _ (lv_sub hl [2, 3, 1, 0] rfl)
  obtain ⟨x7, hg, hf⟩ := bd1_some hf
  refine L17 FU _ _ _ hg ?_ _ _ hP hD hS _ (lv_sub hl [2, 3, 1, 0] rfl)
  · intro H locs hP hD hS ls hl
    refine lv_iload_n hx hb dX10_volume_31 rfl (lv_at hl 0 rfl) ?_
    obtain rfl := inj1 hf
    subst hQ
    exact CM_iret hx hb hr rfl hlocks hAe hP hD hS dX10_volume_32
def rmX10_drains : Room := { frames := 1, cells := 0, slots := 0, locals := 24 }
abbrev wqX10_drains : List Cond := Cond.code yX10_drains cX10_drains 8 none :: tG
set_option maxHeartbeats 4000000 in
set_option maxRecDepth 100000 in
theorem c_X10_drains (l : Launch) (dC : Nat → ClassId) (dI : Nat → Nat → Nat) (cI cZ : ClassId) (te : Nat → Nat) (h_t : Nat) (h_t_book : Nat) (h_t_images : Nat) (h_t_kept : Nat) (h_t_aside : Nat) (h_t_far : Nat) (h_t_then : Nat) (h_t_row : Nat) (h_t_mays : Nat) (h_t_firstRow : Nat) (h_t_low : Nat) (h_t_high : Nat) (h_t_lowOne : Nat) (h_t_highOne : Nat) (h_t_ways : Nat) (h_t_left : Nat) (h_t_text : Nat) (h_t_verbs : Nat) (h_t_nums : Nat) (t_noOlder : Int32) (t_thanThis : Int32) (t_known : Int32) (t_knownAge : Int32) (t_moved : Int32) (t_met : Int32) (t_hours : Int32) (t_greatest : Int32) (t_typed : Int32) (t_at : Int32) (t_start : Int32) (t_token : Int32) (t_value : Int32) (t_items : Int32) (t_book : Nat → Int32) (t_left : Nat → Int32) (p1 : Int32) (p2 : Int32) (o0 : Int32) (o1 : Int32) (o2 : Nat → Int32) (hf : f_X10_drains t_book t_left p1 p2 = some (o0, o1, o2)) : CM l yX10_drains wqX10_drains rmX10_drains (kS te) dC dI cI cZ [.ref h_t, .int p1, .int p2] [(h_t, .inr (8, fX10 h_t_book h_t_images h_t_kept h_t_aside h_t_far h_t_then h_t_row h_t_mays h_t_firstRow h_t_low h_t_high t_noOlder t_thanThis t_known t_knownAge t_moved h_t_lowOne h_t_highOne h_t_ways t_met h_t_left t_hours t_greatest h_t_text t_typed t_at t_start t_token t_value h_t_verbs h_t_nums t_items)), (h_t_book, .inl (cI, 460, .inl t_book)), (h_t_left, .inl (cI, 20, .inl t_left))] [(h_t, .inr (8, fX10 h_t_book h_t_images h_t_kept h_t_aside h_t_far h_t_then h_t_row h_t_mays h_t_firstRow h_t_low h_t_high t_noOlder t_thanThis t_known t_knownAge t_moved h_t_lowOne h_t_highOne h_t_ways t_met h_t_left o0 o1 h_t_text t_typed t_at t_start t_token t_value h_t_verbs h_t_nums t_items)), (h_t_book, .inl (cI, 460, .inl t_book)), (h_t_left, .inl (cI, 20, .inl o2))] none := by
  refine CM_of (cc := cX10_drains) (maxL := 8) (ret := none) (by decide +kernel) rfl (Nat.le_of_ble_eq_true rfl) ?_
  intro p e s m args below meth c A Q hx hb hr hml hown hts hlocks hA hK hP hD hS hE hQ hAe ls hl
  have hown : s.vm.findClass RX10 = some m.cls := hown
  have hl : lv_has ls 8 [(0, .ref h_t), (1, .int p1), (2, .int p2)] := hl
  unfold f_X10_drains at hf
  refine lv_aload_n hx hb dX10_drains_0 rfl (lv_at hl 0 rfl) ?_
  refine lv_iload_n hx hb dX10_drains_1 rfl (lv_at hl 1 rfl) ?_
  refine lv_iload_n hx hb dX10_drains_2 rfl (lv_at hl 2 rfl) ?_
  obtain ⟨r1, hg2, hf⟩ := bd1_some hf
  refine CM_callV (C := RX10) (As := [.int p1, .int p2]) (rest := []) (wc := [(h_t, .inr (8, fX10 h_t_book h_t_images h_t_kept h_t_aside h_t_far h_t_then h_t_row h_t_mays h_t_firstRow h_t_low h_t_high t_noOlder t_thanThis t_known t_knownAge t_moved h_t_lowOne h_t_highOne h_t_ways t_met h_t_left t_hours t_greatest h_t_text t_typed t_at t_start t_token t_value h_t_verbs h_t_nums t_items)), (h_t_book, .inl (cI, 460, .inl t_book))]) (w1 := [(h_t, .inr (8, fX10 h_t_book h_t_images h_t_kept h_t_aside h_t_far h_t_then h_t_row h_t_mays h_t_firstRow h_t_low h_t_high t_noOlder t_thanThis t_known t_knownAge t_moved h_t_lowOne h_t_highOne h_t_ways t_met h_t_left t_hours t_greatest h_t_text t_typed t_at t_start t_token t_value h_t_verbs h_t_nums t_items)), (h_t_book, .inl (cI, 460, .inl t_book))]) (wr := [(h_t_left, .inl (cI, 20, .inl t_left))]) (wo := [(h_t, .inr (8, fX10 h_t_book h_t_images h_t_kept h_t_aside h_t_far h_t_then h_t_row h_t_mays h_t_firstRow h_t_low h_t_high t_noOlder t_thanThis t_known t_knownAge t_moved h_t_lowOne h_t_highOne h_t_ways t_met h_t_left t_hours t_greatest h_t_text t_typed t_at t_start t_token t_value h_t_verbs h_t_nums t_items)), (h_t_book, .inl (cI, 460, .inl t_book)), (h_t_left, .inl (cI, 20, .inl t_left))]) (v := (some (.int r1))) ⟨hx, hb, hml, hown, hts⟩ (c_X10_volume l dC dI cI cZ te h_t h_t_book h_t_images h_t_kept h_t_aside h_t_far h_t_then h_t_row h_t_mays h_t_firstRow h_t_low h_t_high h_t_lowOne h_t_highOne h_t_ways h_t_left h_t_text h_t_verbs h_t_nums t_noOlder t_thanThis t_known t_knownAge t_moved t_met t_hours t_greatest t_typed t_at t_start t_token t_value t_items t_book p1 p2 r1 hg2) (cwV 2 hts (gV kw_301 kw_302 kw_303 kw_159 kw_304) rfl rfl rfl (by decide +kernel) ⟨Nat.le_of_ble_eq_true rfl, Nat.le_of_ble_eq_true rfl⟩) (kS_env te) hK hP hD hS hA hE [0, 1] [2] [1, 2, 0] rfl rfl (by decide) (by decide) (by decide) (by decide) rfl 0 8 rfl rfl rfl rfl hl.1 rfl (Nat.le_of_ble_eq_true rfl) dX10_drains_3 ⟨Nat.zero_le _, Nat.zero_le _⟩ (fun H locs hP hD hS => ?_)
  show W p l e rmX10_drains s m args below meth c H locs 0 0 Q (F0 m 6 ls [.int r1])
  refine lv_istore_n (lv' := [(3, .int r1), (0, .ref h_t), (1, .int p1), (2, .int p2)]) hx hb dX10_drains_6 rfl hl (by decide) rfl (fun ls hl => ?_)
  refine lv_aload_n hx hb dX10_drains_7 rfl (lv_at hl 1 rfl) ?_
  refine lv_iconst (v := (0 : Int32)) hx hb dX10_drains_8 (by decide) ?_
  refine va_put (D := (dC, dI)) (ci := 8) (v := .int (0 : Int32)) (ty := tyX10 21) (C := RX10) (T := TX10) (N := 32) hx hb hts (in1 tw_X10) tyX10 tyX10_ok nmX10 hown hK hP hD hS 0 rfl rfl 21 (by decide) (hts _ (List.mem_cons_of_mem _ kw_305)) (fun _ h9 => h9) rfl (tyX10_ok 21 (by decide)) rfl rfl (Nat.le_of_ble_eq_true rfl) dX10_drains_9 (fun H locs hP hD hS => ?_)
  have hP : va_P (dC, dI) vwCl [(h_t, .inr (8, fX10 h_t_book h_t_images h_t_kept h_t_aside h_t_far h_t_then h_t_row h_t_mays h_t_firstRow h_t_low h_t_high t_noOlder t_thanThis t_known t_knownAge t_moved h_t_lowOne h_t_highOne h_t_ways t_met h_t_left (0 : Int32) t_greatest h_t_text t_typed t_at t_start t_token t_value h_t_verbs h_t_nums t_items)), (h_t_book, .inl (cI, 460, .inl t_book)), (h_t_left, .inl (cI, 20, .inl t_left))] H := hP
  have hD : va_D A [(h_t, .inr (8, fX10 h_t_book h_t_images h_t_kept h_t_aside h_t_far h_t_then h_t_row h_t_mays h_t_firstRow h_t_low h_t_high t_noOlder t_thanThis t_known t_knownAge t_moved h_t_lowOne h_t_highOne h_t_ways t_met h_t_left (0 : Int32) t_greatest h_t_text t_typed t_at t_start t_token t_value h_t_verbs h_t_nums t_items)), (h_t_book, .inl (cI, 460, .inl t_book)), (h_t_left, .inl (cI, 20, .inl t_left))] := hD
  refine lv_aload_n hx hb dX10_drains_12 rfl (lv_at hl 1 rfl) ?_
  refine lv_iconst (v := (0 : Int32)) hx hb dX10_drains_13 (by decide) ?_
  refine va_put (D := (dC, dI)) (ci := 8) (v := .int (0 : Int32)) (ty := tyX10 22) (C := RX10) (T := TX10) (N := 32) hx hb hts (in1 tw_X10) tyX10 tyX10_ok nmX10 hown hK hP hD hS 0 rfl rfl 22 (by decide) (hts _ (List.mem_cons_of_mem _ kw_306)) (fun _ h9 => h9) rfl (tyX10_ok 22 (by decide)) rfl rfl (Nat.le_of_ble_eq_true rfl) dX10_drains_14 (fun H locs hP hD hS => ?_)
  have hP : va_P (dC, dI) vwCl [(h_t, .inr (8, fX10 h_t_book h_t_images h_t_kept h_t_aside h_t_far h_t_then h_t_row h_t_mays h_t_firstRow h_t_low h_t_high t_noOlder t_thanThis t_known t_knownAge t_moved h_t_lowOne h_t_highOne h_t_ways t_met h_t_left (0 : Int32) (0 : Int32) h_t_text t_typed t_at t_start t_token t_value h_t_verbs h_t_nums t_items)), (h_t_book, .inl (cI, 460, .inl t_book)), (h_t_left, .inl (cI, 20, .inl t_left))] H := hP
  have hD : va_D A [(h_t, .inr (8, fX10 h_t_book h_t_images h_t_kept h_t_aside h_t_far h_t_then h_t_row h_t_mays h_t_firstRow h_t_low h_t_high t_noOlder t_thanThis t_known t_knownAge t_moved h_t_lowOne h_t_highOne h_t_ways t_met h_t_left (0 : Int32) (0 : Int32) h_t_text t_typed t_at t_start t_token t_value h_t_verbs h_t_nums t_items)), (h_t_book, .inl (cI, 460, .inl t_book)), (h_t_left, .inl (cI, 20, .inl t_left))] := hD
  refine lv_iload_n hx hb dX10_drains_17 rfl (lv_at hl 3 rfl) ?_
  refine lv_istore (lv' := [(4, .int p2), (3, .int r1), (0, .ref h_t), (1, .int p1), (2, .int p2)]) hx hb dX10_drains_18 hl (by decide) rfl (fun ls hl => ?_)
  have L25 : ∀ (fu16 : Nat) (y13 : Nat → Int32) (x14 : Int32) (y12 : Nat → Int32), f_X10_drains_L1 p1 t_book fu16 y13 x14 = some y12 → (∀ (H : Heap) (locs : List Loc), va_P (dC, dI) vwCl [(h_t, .inr (8, fX10 h_t_book h_t_images h_t_kept h_t_aside h_t_far h_t_then h_t_row h_t_mays h_t_firstRow h_t_low h_t_high t_noOlder t_thanThis t_known t_knownAge t_moved h_t_lowOne h_t_highOne h_t_ways t_met h_t_left (0 : Int32) (0 : Int32) h_t_text t_typed t_at t_start t_token t_value h_t_verbs h_t_nums t_items)), (h_t_book, .inl (cI, 460, .inl t_book)), (h_t_left, .inl (cI, 20, .inl y12))] H → va_D A [(h_t, .inr (8, fX10 h_t_book h_t_images h_t_kept h_t_aside h_t_far h_t_then h_t_row h_t_mays h_t_firstRow h_t_low h_t_high t_noOlder t_thanThis t_known t_knownAge t_moved h_t_lowOne h_t_highOne h_t_ways t_met h_t_left (0 : Int32) (0 : Int32) h_t_text t_typed t_at t_start t_token t_value h_t_verbs h_t_nums t_items)), (h_t_book, .inl (cI, 460, .inl t_book)), (h_t_left, .inl (cI, 20, .inl y12))] → va_S A s.heap H locs → ∀ ls : Array Slot, lv_has ls 8 [(0, .ref h_t), (1, .int p1), (2, .int p2), (3, .int r1)] → W p l e rmX10_drains s m args below meth c H locs 0 0 Q (F0 m 50 ls [])) → ∀ (H : Heap) (locs : List Loc), va_P (dC, dI) vwCl [(h_t, .inr (8, fX10 h_t_book h_t_images h_t_kept h_t_aside h_t_far h_t_then h_t_row h_t_mays h_t_firstRow h_t_low h_t_high t_noOlder t_thanThis t_known t_knownAge t_moved h_t_lowOne h_t_highOne h_t_ways t_met h_t_left (0 : Int32) (0 : Int32) h_t_text t_typed t_at t_start t_token t_value h_t_verbs h_t_nums t_items)), (h_t_book, .inl (cI, 460, .inl t_book)), (h_t_left, .inl (cI, 20, .inl y13))] H → va_D A [(h_t, .inr (8, fX10 h_t_book h_t_images h_t_kept h_t_aside h_t_far h_t_then h_t_row h_t_mays h_t_firstRow h_t_low h_t_high t_noOlder t_thanThis t_known t_knownAge t_moved h_t_lowOne h_t_highOne h_t_ways t_met h_t_left (0 : Int32) (0 : Int32) h_t_text t_typed t_at t_start t_token t_value h_t_verbs h_t_nums t_items)), (h_t_book, .inl (cI, 460, .inl t_book)), (h_t_left, .inl (cI, 20, .inl y13))] → va_S A s.heap H locs → ∀ ls : Array Slot, lv_has ls 8 [(0, .ref h_t), (1, .int p1), (2, .int p2), (3, .int r1), (4, .int x14)] → W p l e rmX10_drains s m args below meth c H locs 0 0 Q (F0 m 20 ls []) := by
    intro fu16
    induction fu16 with
    | zero =>
      intro y13 x14 y12 hf
      unfold f_X10_drains_L1 at hf
      exact none_ne hf
    | succ fu16 ih15 =>
      intro y13 x14 y12 hf hX17 H locs hP hD hS ls hl
      unfold f_X10_drains_L1 at hf
      refine lv_iload hx hb dX10_drains_20 (lv_at hl 4 rfl) ?_
      refine lv_iload_n hx hb dX10_drains_22 rfl (lv_at hl 1 rfl) ?_
      refine lv_icmp_ge (tgt := 50) hx hb dX10_drains_23 (by decide) (fun c18 => ?_) (fun c18 => ?_)
      · replace hf := ifp c18 hf
        obtain rfl := inj1 hf
        exact hX17 _ _ hP hD hS _ (lv_sub hl [0, 1, 2, 3] rfl)
      · replace hf := ifn c18 hf
        refine lv_aload_n hx hb dX10_drains_26 rfl (lv_at hl 0 rfl) ?_
        refine va_get (D := (dC, dI)) (ci := 8) (v := .ref h_t_left) (C := RX10) (T := TX10) (N := 32) hx hb hts (in1 tw_X10) hown hK hP 0 rfl rfl 20 (by decide) (hts _ (List.mem_cons_of_mem _ kw_131)) (fun _ h9 => h9) rfl dX10_drains_27 ?_
        refine lv_iload hx hb dX10_drains_30 (lv_at hl 4 rfl) ?_
        refine lv_aload_n hx hb dX10_drains_32 rfl (lv_at hl 0 rfl) ?_
        refine va_get (D := (dC, dI)) (ci := 8) (v := .ref h_t_book) (C := RX10) (T := TX10) (N := 32) hx hb hts (in1 tw_X10) hown hK hP 0 rfl rfl 0 (by decide) (hts _ (List.mem_cons_of_mem _ kw_116)) (fun _ h9 => h9) rfl dX10_drains_33 ?_
        refine lv_sipush (v := (410 : Int32)) hx hb dX10_drains_36 (by decide) ?_
        refine lv_iload hx hb dX10_drains_39 (lv_at hl 4 rfl) ?_
        refine lv_iadd hx hb dX10_drains_41 ?_
        obtain ⟨g19, hf⟩ := chk_some hf
        refine va_iald hx hb hK hP 1 0 rfl rfl (gin_in g19) dX10_drains_42 ?_
        obtain ⟨x20, e21, hf⟩ := nm_some hf
        refine lv_tope e21 ?_
        obtain ⟨g22, hf⟩ := chk_some hf
        obtain ⟨y23, e24, hf⟩ := nm_some hf
        refine va_iast hx hb hK hP hD hS 2 0 rfl rfl (gin_in g22) dX10_drains_43 (fun H locs hP hD hS => ?_)
        have hP : va_P (dC, dI) vwCl [(h_t, .inr (8, fX10 h_t_book h_t_images h_t_kept h_t_aside h_t_far h_t_then h_t_row h_t_mays h_t_firstRow h_t_low h_t_high t_noOlder t_thanThis t_known t_knownAge t_moved h_t_lowOne h_t_highOne h_t_ways t_met h_t_left (0 : Int32) (0 : Int32) h_t_text t_typed t_at t_start t_token t_value h_t_verbs h_t_nums t_items)), (h_t_book, .inl (cI, 460, .inl t_book)), (h_t_left, .inl (cI, 20, .inl y23))] H := by rw [e24]; exact hP
        have hD : va_D A [(h_t, .inr (8, fX10 h_t_book h_t_images h_t_kept h_t_aside h_t_far h_t_then h_t_row h_t_mays h_t_firstRow h_t_low h_t_high t_noOlder t_thanThis t_known t_knownAge t_moved h_t_lowOne h_t_highOne h_t_ways t_met h_t_left (0 : Int32) (0 : Int32) h_t_text t_typed t_at t_start t_token t_value h_t_verbs h_t_nums t_items)), (h_t_book, .inl (cI, 460, .inl t_book)), (h_t_left, .inl (cI, 20, .inl y23))] := by rw [e24]; exact hD
        refine lv_iinc (v := (x14 + (1 : Int32))) (lv' := [(4, .int (x14 + (1 : Int32))), (0, .ref h_t), (1, .int p1), (2, .int p2), (3, .int r1)]) hx hb dX10_drains_44 hl (k := 4) rfl rfl (by decide) rfl (fun ls hl => ?_)
        refine lv_goto (tgt := 20) hx hb dX10_drains_47 (by decide) ?_
        exact ih15 _ _ _ hf hX17 _ _ hP hD hS _ (lv_sub hl [1, 2, 3, 4, 0] rfl)
  obtain ⟨y12, hg, hf⟩ := bd1_some hf
  refine L25 FU _ _ _ hg ?_ _ _ hP hD hS _ (lv_sub hl [2, 3, 4, 1, 0] rfl)
  · intro H locs hP hD hS ls hl
    refine lv_iload_n hx hb dX10_drains_50 rfl (lv_at hl 1 rfl) ?_
    refine lv_iconst (v := (1 : Int32)) hx hb dX10_drains_51 (by decide) ?_
    refine lv_isub hx hb dX10_drains_52 ?_
    obtain ⟨x26, e27, hf⟩ := nm_some hf
    refine lv_tope e27 ?_
    refine lv_istore (lv' := [(4, .int x26), (0, .ref h_t), (1, .int p1), (2, .int p2), (3, .int r1)]) hx hb dX10_drains_53 hl (by decide) rfl (fun ls hl => ?_)
    have L174 : ∀ (fu107 : Nat) (y101 : Nat → Int32) (x102 : Int32) (x103 : Int32) (x104 : Int32) (x105 : Int32) (y98 : Nat → Int32) (x99 : Int32) (x100 : Int32), f_X10_drains_L6 t_book p2 fu107 y101 x102 x103 x104 x105 = some (y98, x99, x100) → (∀ (H : Heap) (locs : List Loc), va_P (dC, dI) vwCl [(h_t, .inr (8, fX10 h_t_book h_t_images h_t_kept h_t_aside h_t_far h_t_then h_t_row h_t_mays h_t_firstRow h_t_low h_t_high t_noOlder t_thanThis t_known t_knownAge t_moved h_t_lowOne h_t_highOne h_t_ways t_met h_t_left x99 x100 h_t_text t_typed t_at t_start t_token t_value h_t_verbs h_t_nums t_items)), (h_t_book, .inl (cI, 460, .inl t_book)), (h_t_left, .inl (cI, 20, .inl y98))] H → va_D A [(h_t, .inr (8, fX10 h_t_book h_t_images h_t_kept h_t_aside h_t_far h_t_then h_t_row h_t_mays h_t_firstRow h_t_low h_t_high t_noOlder t_thanThis t_known t_knownAge t_moved h_t_lowOne h_t_highOne h_t_ways t_met h_t_left x99 x100 h_t_text t_typed t_at t_start t_token t_value h_t_verbs h_t_nums t_items)), (h_t_book, .inl (cI, 460, .inl t_book)), (h_t_left, .inl (cI, 20, .inl y98))] → va_S A s.heap H locs → ∀ ls : Array Slot, lv_has ls 8 [] → W p l e rmX10_drains s m args below meth c H locs 0 0 Q (F0 m 216 ls [])) → ∀ (H : Heap) (locs : List Loc), va_P (dC, dI) vwCl [(h_t, .inr (8, fX10 h_t_book h_t_images h_t_kept h_t_aside h_t_far h_t_then h_t_row h_t_mays h_t_firstRow h_t_low h_t_high t_noOlder t_thanThis t_known t_knownAge t_moved h_t_lowOne h_t_highOne h_t_ways t_met h_t_left x102 x103 h_t_text t_typed t_at t_start t_token t_value h_t_verbs h_t_nums t_items)), (h_t_book, .inl (cI, 460, .inl t_book)), (h_t_left, .inl (cI, 20, .inl y101))] H → va_D A [(h_t, .inr (8, fX10 h_t_book h_t_images h_t_kept h_t_aside h_t_far h_t_then h_t_row h_t_mays h_t_firstRow h_t_low h_t_high t_noOlder t_thanThis t_known t_knownAge t_moved h_t_lowOne h_t_highOne h_t_ways t_met h_t_left x102 x103 h_t_text t_typed t_at t_start t_token t_value h_t_verbs h_t_nums t_items)), (h_t_book, .inl (cI, 460, .inl t_book)), (h_t_left, .inl (cI, 20, .inl y101))] → va_S A s.heap H locs → ∀ ls : Array Slot, lv_has ls 8 [(0, .ref h_t), (2, .int p2), (3, .int x104), (4, .int x105)] → W p l e rmX10_drains s m args below meth c H locs 0 0 Q (F0 m 55 ls []) := by
      intro fu107
      induction fu107 with
      | zero =>
        intro y101 x102 x103 x104 x105 y98 x99 x100 hf
        unfold f_X10_drains_L6 at hf
        exact none_ne hf
      | succ fu107 ih106 =>
        intro y101 x102 x103 x104 x105 y98 x99 x100 hf hX108 H locs hP hD hS ls hl
        unfold f_X10_drains_L6 at hf
        refine lv_iload_n hx hb dX10_drains_55 rfl (lv_at hl 2 rfl) ?_
        refine lv_if_le (tgt := 216) hx hb dX10_drains_56 (by decide) (fun c109 => ?_) (fun c109 => ?_)
        · replace hf := ifp c109 hf
          obtain ⟨rfl, rfl, rfl⟩ := inj3 hf
          exact hX108 _ _ hP hD hS _ (lv_sub hl [] rfl)
        · replace hf := ifn c109 hf
          refine lv_aload_n hx hb dX10_drains_59 rfl (lv_at hl 0 rfl) ?_
          refine va_get (D := (dC, dI)) (ci := 8) (v := .int x102) (C := RX10) (T := TX10) (N := 32) hx hb hts (in1 tw_X10) hown hK hP 0 rfl rfl 21 (by decide) (hts _ (List.mem_cons_of_mem _ kw_305)) (fun _ h9 => h9) rfl dX10_drains_60 ?_
          refine lv_sipush (v := (1000 : Int32)) hx hb dX10_drains_63 (by decide) ?_
          refine lv_icmp_ge (tgt := 216) hx hb dX10_drains_66 (by decide) (fun c110 => ?_) (fun c110 => ?_)
          · replace hf := ifp c110 hf
            obtain ⟨rfl, rfl, rfl⟩ := inj3 hf
            exact hX108 _ _ hP hD hS _ (lv_sub hl [] rfl)
          · replace hf := ifn c110 hf
            have L121 : ∀ (fu117 : Nat) (x115 : Int32) (x114 : Int32), f_X10_drains_L7 y101 fu117 x115 = some x114 → (∀ (H : Heap) (locs : List Loc), va_P (dC, dI) vwCl [(h_t, .inr (8, fX10 h_t_book h_t_images h_t_kept h_t_aside h_t_far h_t_then h_t_row h_t_mays h_t_firstRow h_t_low h_t_high t_noOlder t_thanThis t_known t_knownAge t_moved h_t_lowOne h_t_highOne h_t_ways t_met h_t_left x102 x103 h_t_text t_typed t_at t_start t_token t_value h_t_verbs h_t_nums t_items)), (h_t_book, .inl (cI, 460, .inl t_book)), (h_t_left, .inl (cI, 20, .inl y101))] H → va_D A [(h_t, .inr (8, fX10 h_t_book h_t_images h_t_kept h_t_aside h_t_far h_t_then h_t_row h_t_mays h_t_firstRow h_t_low h_t_high t_noOlder t_thanThis t_known t_knownAge t_moved h_t_lowOne h_t_highOne h_t_ways t_met h_t_left x102 x103 h_t_text t_typed t_at t_start t_token t_value h_t_verbs h_t_nums t_items)), (h_t_book, .inl (cI, 460, .inl t_book)), (h_t_left, .inl (cI, 20, .inl y101))] → va_S A s.heap H locs → ∀ ls : Array Slot, lv_has ls 8 [(0, .ref h_t), (2, .int p2), (3, .int x104), (4, .int x114)] → W p l e rmX10_drains s m args below meth c H locs 0 0 Q (F0 m 85 ls [])) → ∀ (H : Heap) (locs : List Loc), va_P (dC, dI) vwCl [(h_t, .inr (8, fX10 h_t_book h_t_images h_t_kept h_t_aside h_t_far h_t_then h_t_row h_t_mays h_t_firstRow h_t_low h_t_high t_noOlder t_thanThis t_known t_knownAge t_moved h_t_lowOne h_t_highOne h_t_ways t_met h_t_left x102 x103 h_t_text t_typed t_at t_start t_token t_value h_t_verbs h_t_nums t_items)), (h_t_book, .inl (cI, 460, .inl t_book)), (h_t_left, .inl (cI, 20, .inl y101))] H → va_D A [(h_t, .inr (8, fX10 h_t_book h_t_images h_t_kept h_t_aside h_t_far h_t_then h_t_row h_t_mays h_t_firstRow h_t_low h_t_high t_noOlder t_thanThis t_known t_knownAge t_moved h_t_lowOne h_t_highOne h_t_ways t_met h_t_left x102 x103 h_t_text t_typed t_at t_start t_token t_value h_t_verbs h_t_nums t_items)), (h_t_book, .inl (cI, 460, .inl t_book)), (h_t_left, .inl (cI, 20, .inl y101))] → va_S A s.heap H locs → ∀ ls : Array Slot, lv_has ls 8 [(0, .ref h_t), (2, .int p2), (3, .int x104), (4, .int x115)] → W p l e rmX10_drains s m args below meth c H locs 0 0 Q (F0 m 69 ls []) := by
              intro fu117
              induction fu117 with
              | zero =>
                intro x115 x114 hf
                unfold f_X10_drains_L7 at hf
                exact none_ne hf
              | succ fu117 ih116 =>
                intro x115 x114 hf hX118 H locs hP hD hS ls hl
                unfold f_X10_drains_L7 at hf
                refine lv_aload_n hx hb dX10_drains_69 rfl (lv_at hl 0 rfl) ?_
                refine va_get (D := (dC, dI)) (ci := 8) (v := .ref h_t_left) (C := RX10) (T := TX10) (N := 32) hx hb hts (in1 tw_X10) hown hK hP 0 rfl rfl 20 (by decide) (hts _ (List.mem_cons_of_mem _ kw_131)) (fun _ h9 => h9) rfl dX10_drains_70 ?_
                refine lv_iload hx hb dX10_drains_73 (lv_at hl 3 rfl) ?_
                obtain ⟨g119, hf⟩ := chk_some hf
                refine va_iald hx hb hK hP 2 0 rfl rfl (gin_in g119) dX10_drains_75 ?_
                refine lv_if_ne (tgt := 85) hx hb dX10_drains_76 (by decide) (fun c120 => ?_) (fun c120 => ?_)
                · replace hf := ifn c120 hf
                  obtain rfl := inj1 hf
                  exact hX118 _ _ hP hD hS _ (lv_sub hl [0, 1, 2, 3] rfl)
                · replace hf := ifp c120 hf
                  refine lv_iinc (v := (x115 + (-1 : Int32))) (lv' := [(4, .int (x115 + (-1 : Int32))), (0, .ref h_t), (2, .int p2), (3, .int x104)]) hx hb dX10_drains_79 hl (k := 3) rfl rfl (by decide) rfl (fun ls hl => ?_)
                  refine lv_goto (tgt := 69) hx hb dX10_drains_82 (by decide) ?_
                  exact ih116 _ _ hf hX118 _ _ hP hD hS _ (lv_sub hl [1, 2, 3, 0] rfl)
            obtain ⟨x114, hg, hf⟩ := bd1_some hf
            refine L121 FU _ _ hg ?_ _ _ hP hD hS _ (lv_sub hl [0, 1, 2, 3] rfl)
            · intro H locs hP hD hS ls hl
              refine lv_aload_n hx hb dX10_drains_85 rfl (lv_at hl 0 rfl) ?_
              refine va_get (D := (dC, dI)) (ci := 8) (v := .ref h_t_book) (C := RX10) (T := TX10) (N := 32) hx hb hts (in1 tw_X10) hown hK hP 0 rfl rfl 0 (by decide) (hts _ (List.mem_cons_of_mem _ kw_116)) (fun _ h9 => h9) rfl dX10_drains_86 ?_
              refine lv_bipush (v := (8 : Int32)) hx hb dX10_drains_89 (by decide) ?_
              obtain ⟨g122, hf⟩ := chk_some hf
              refine va_iald hx hb hK hP 1 0 rfl rfl (gin_in g122) dX10_drains_91 ?_
              refine lv_iload hx hb dX10_drains_92 (lv_at hl 3 rfl) ?_
              refine lv_iload_n hx hb dX10_drains_94 rfl (lv_at hl 1 rfl) ?_
              refine lv_isub hx hb dX10_drains_95 ?_
              refine lv_iconst (v := (1 : Int32)) hx hb dX10_drains_96 (by decide) ?_
              refine lv_iadd hx hb dX10_drains_97 ?_
              refine lv_imul hx hb dX10_drains_98 ?_
              obtain ⟨x123, e124, hf⟩ := nm_some hf
              refine lv_tope e124 ?_
              refine lv_istore (lv' := [(5, .int x123), (0, .ref h_t), (2, .int p2), (3, .int x104), (4, .int x114)]) hx hb dX10_drains_99 hl (by decide) rfl (fun ls hl => ?_)
              refine lv_iload hx hb dX10_drains_101 (lv_at hl 0 rfl) ?_
              refine lv_iload_n hx hb dX10_drains_103 rfl (lv_at hl 3 rfl) ?_
              obtain ⟨x125, hg, hf⟩ := bd1_some hf
              have J126 : ∀ (H : Heap) (locs : List Loc), va_P (dC, dI) vwCl [(h_t, .inr (8, fX10 h_t_book h_t_images h_t_kept h_t_aside h_t_far h_t_then h_t_row h_t_mays h_t_firstRow h_t_low h_t_high t_noOlder t_thanThis t_known t_knownAge t_moved h_t_lowOne h_t_highOne h_t_ways t_met h_t_left x102 x103 h_t_text t_typed t_at t_start t_token t_value h_t_verbs h_t_nums t_items)), (h_t_book, .inl (cI, 460, .inl t_book)), (h_t_left, .inl (cI, 20, .inl y101))] H → va_D A [(h_t, .inr (8, fX10 h_t_book h_t_images h_t_kept h_t_aside h_t_far h_t_then h_t_row h_t_mays h_t_firstRow h_t_low h_t_high t_noOlder t_thanThis t_known t_knownAge t_moved h_t_lowOne h_t_highOne h_t_ways t_met h_t_left x102 x103 h_t_text t_typed t_at t_start t_token t_value h_t_verbs h_t_nums t_items)), (h_t_book, .inl (cI, 460, .inl t_book)), (h_t_left, .inl (cI, 20, .inl y101))] → va_S A s.heap H locs → ∀ ls : Array Slot, lv_has ls 8 [(0, .ref h_t), (2, .int p2), (3, .int x104), (4, .int x114)] → W p l e rmX10_drains s m args below meth c H locs 0 0 Q (F0 m 113 ls [.int x125]) := by
                intro H locs hP hD hS ls hl
                refine lv_istore (lv' := [(5, .int x125), (0, .ref h_t), (2, .int p2), (3, .int x104), (4, .int x114)]) hx hb dX10_drains_113 hl (by decide) rfl (fun ls hl => ?_)
                refine lv_aload_n hx hb dX10_drains_115 rfl (lv_at hl 1 rfl) ?_
                refine lv_iload hx hb dX10_drains_116 (lv_at hl 0 rfl) ?_
                refine lv_aload_n hx hb dX10_drains_118 rfl (lv_at hl 1 rfl) ?_
                refine va_get (D := (dC, dI)) (ci := 8) (v := .int x103) (C := RX10) (T := TX10) (N := 32) hx hb hts (in1 tw_X10) hown hK hP 0 rfl rfl 22 (by decide) (hts _ (List.mem_cons_of_mem _ kw_306)) (fun _ h9 => h9) rfl dX10_drains_119 ?_
                obtain ⟨x127, hg, hf⟩ := bd1_some hf
                have J128 : ∀ (H : Heap) (locs : List Loc), va_P (dC, dI) vwCl [(h_t, .inr (8, fX10 h_t_book h_t_images h_t_kept h_t_aside h_t_far h_t_then h_t_row h_t_mays h_t_firstRow h_t_low h_t_high t_noOlder t_thanThis t_known t_knownAge t_moved h_t_lowOne h_t_highOne h_t_ways t_met h_t_left x102 x103 h_t_text t_typed t_at t_start t_token t_value h_t_verbs h_t_nums t_items)), (h_t_book, .inl (cI, 460, .inl t_book)), (h_t_left, .inl (cI, 20, .inl y101))] H → va_D A [(h_t, .inr (8, fX10 h_t_book h_t_images h_t_kept h_t_aside h_t_far h_t_then h_t_row h_t_mays h_t_firstRow h_t_low h_t_high t_noOlder t_thanThis t_known t_knownAge t_moved h_t_lowOne h_t_highOne h_t_ways t_met h_t_left x102 x103 h_t_text t_typed t_at t_start t_token t_value h_t_verbs h_t_nums t_items)), (h_t_book, .inl (cI, 460, .inl t_book)), (h_t_left, .inl (cI, 20, .inl y101))] → va_S A s.heap H locs → ∀ ls : Array Slot, lv_has ls 8 [(0, .ref h_t), (2, .int p2), (3, .int x104), (4, .int x114), (5, .int x125)] → W p l e rmX10_drains s m args below meth c H locs 0 0 Q (F0 m 134 ls [.int x127, .ref h_t]) := by
                  intro H locs hP hD hS ls hl
                  refine va_put (D := (dC, dI)) (ci := 8) (v := .int x127) (ty := tyX10 22) (C := RX10) (T := TX10) (N := 32) hx hb hts (in1 tw_X10) tyX10 tyX10_ok nmX10 hown hK hP hD hS 0 rfl rfl 22 (by decide) (hts _ (List.mem_cons_of_mem _ kw_306)) (fun _ h9 => h9) rfl (tyX10_ok 22 (by decide)) rfl rfl (Nat.le_of_ble_eq_true rfl) dX10_drains_134 (fun H locs hP hD hS => ?_)
                  have hP : va_P (dC, dI) vwCl [(h_t, .inr (8, fX10 h_t_book h_t_images h_t_kept h_t_aside h_t_far h_t_then h_t_row h_t_mays h_t_firstRow h_t_low h_t_high t_noOlder t_thanThis t_known t_knownAge t_moved h_t_lowOne h_t_highOne h_t_ways t_met h_t_left x102 x127 h_t_text t_typed t_at t_start t_token t_value h_t_verbs h_t_nums t_items)), (h_t_book, .inl (cI, 460, .inl t_book)), (h_t_left, .inl (cI, 20, .inl y101))] H := hP
                  have hD : va_D A [(h_t, .inr (8, fX10 h_t_book h_t_images h_t_kept h_t_aside h_t_far h_t_then h_t_row h_t_mays h_t_firstRow h_t_low h_t_high t_noOlder t_thanThis t_known t_knownAge t_moved h_t_lowOne h_t_highOne h_t_ways t_met h_t_left x102 x127 h_t_text t_typed t_at t_start t_token t_value h_t_verbs h_t_nums t_items)), (h_t_book, .inl (cI, 460, .inl t_book)), (h_t_left, .inl (cI, 20, .inl y101))] := hD
                  refine lv_iload_n hx hb dX10_drains_137 rfl (lv_at hl 2 rfl) ?_
                  refine lv_iload hx hb dX10_drains_138 (lv_at hl 4 rfl) ?_
                  refine lv_isub hx hb dX10_drains_140 ?_
                  obtain ⟨x129, e130, hf⟩ := nm_some hf
                  refine lv_tope e130 ?_
                  refine lv_istore_n (lv' := [(3, .int x129), (0, .ref h_t), (2, .int p2), (4, .int x114), (5, .int x125)]) hx hb dX10_drains_141 rfl hl (by decide) rfl (fun ls hl => ?_)
                  refine lv_iload hx hb dX10_drains_142 (lv_at hl 3 rfl) ?_
                  refine lv_istore (lv' := [(6, .int x114), (3, .int x129), (0, .ref h_t), (2, .int p2), (4, .int x114), (5, .int x125)]) hx hb dX10_drains_144 hl (by decide) rfl (fun ls hl => ?_)
                  have L169 : ∀ (fu153 : Nat) (y149 : Nat → Int32) (x150 : Int32) (x151 : Int32) (y148 : Nat → Int32), f_X10_drains_L8 p2 fu153 y149 x150 x151 = some y148 → (∀ (H : Heap) (locs : List Loc), va_P (dC, dI) vwCl [(h_t, .inr (8, fX10 h_t_book h_t_images h_t_kept h_t_aside h_t_far h_t_then h_t_row h_t_mays h_t_firstRow h_t_low h_t_high t_noOlder t_thanThis t_known t_knownAge t_moved h_t_lowOne h_t_highOne h_t_ways t_met h_t_left x102 x127 h_t_text t_typed t_at t_start t_token t_value h_t_verbs h_t_nums t_items)), (h_t_book, .inl (cI, 460, .inl t_book)), (h_t_left, .inl (cI, 20, .inl y148))] H → va_D A [(h_t, .inr (8, fX10 h_t_book h_t_images h_t_kept h_t_aside h_t_far h_t_then h_t_row h_t_mays h_t_firstRow h_t_low h_t_high t_noOlder t_thanThis t_known t_knownAge t_moved h_t_lowOne h_t_highOne h_t_ways t_met h_t_left x102 x127 h_t_text t_typed t_at t_start t_token t_value h_t_verbs h_t_nums t_items)), (h_t_book, .inl (cI, 460, .inl t_book)), (h_t_left, .inl (cI, 20, .inl y148))] → va_S A s.heap H locs → ∀ ls : Array Slot, lv_has ls 8 [(0, .ref h_t), (2, .int p2), (3, .int x129), (4, .int x114)] → W p l e rmX10_drains s m args below meth c H locs 0 0 Q (F0 m 203 ls [])) → ∀ (H : Heap) (locs : List Loc), va_P (dC, dI) vwCl [(h_t, .inr (8, fX10 h_t_book h_t_images h_t_kept h_t_aside h_t_far h_t_then h_t_row h_t_mays h_t_firstRow h_t_low h_t_high t_noOlder t_thanThis t_known t_knownAge t_moved h_t_lowOne h_t_highOne h_t_ways t_met h_t_left x102 x127 h_t_text t_typed t_at t_start t_token t_value h_t_verbs h_t_nums t_items)), (h_t_book, .inl (cI, 460, .inl t_book)), (h_t_left, .inl (cI, 20, .inl y149))] H → va_D A [(h_t, .inr (8, fX10 h_t_book h_t_images h_t_kept h_t_aside h_t_far h_t_then h_t_row h_t_mays h_t_firstRow h_t_low h_t_high t_noOlder t_thanThis t_known t_knownAge t_moved h_t_lowOne h_t_highOne h_t_ways t_met h_t_left x102 x127 h_t_text t_typed t_at t_start t_token t_value h_t_verbs h_t_nums t_items)), (h_t_book, .inl (cI, 460, .inl t_book)), (h_t_left, .inl (cI, 20, .inl y149))] → va_S A s.heap H locs → ∀ ls : Array Slot, lv_has ls 8 [(0, .ref h_t), (2, .int p2), (3, .int x129), (4, .int x114), (5, .int x150), (6, .int x151)] → W p l e rmX10_drains s m args below meth c H locs 0 0 Q (F0 m 146 ls []) := by
                    intro fu153
                    induction fu153 with
                    | zero =>
                      intro y149 x150 x151 y148 hf
                      unfold f_X10_drains_L8 at hf
                      exact none_ne hf
                    | succ fu153 ih152 =>
                      intro y149 x150 x151 y148 hf hX154 H locs hP hD hS ls hl
                      unfold f_X10_drains_L8 at hf
                      refine lv_iload hx hb dX10_drains_146 (lv_at hl 5 rfl) ?_
                      refine lv_iload_n hx hb dX10_drains_148 rfl (lv_at hl 1 rfl) ?_
                      refine lv_icmp_lt (tgt := 203) hx hb dX10_drains_149 (by decide) (fun c155 => ?_) (fun c155 => ?_)
                      · replace hf := ifp c155 hf
                        obtain rfl := inj1 hf
                        exact hX154 _ _ hP hD hS _ (lv_sub hl [0, 1, 2, 3] rfl)
                      · replace hf := ifn c155 hf
                        refine lv_aload_n hx hb dX10_drains_152 rfl (lv_at hl 0 rfl) ?_
                        refine va_get (D := (dC, dI)) (ci := 8) (v := .ref h_t_left) (C := RX10) (T := TX10) (N := 32) hx hb hts (in1 tw_X10) hown hK hP 0 rfl rfl 20 (by decide) (hts _ (List.mem_cons_of_mem _ kw_131)) (fun _ h9 => h9) rfl dX10_drains_153 ?_
                        refine lv_iload hx hb dX10_drains_156 (lv_at hl 5 rfl) ?_
                        obtain ⟨g156, hf⟩ := chk_some hf
                        refine va_iald hx hb hK hP 2 0 rfl rfl (gin_in g156) dX10_drains_158 ?_
                        refine lv_iload hx hb dX10_drains_159 (lv_at hl 4 rfl) ?_
                        obtain ⟨x157, hg, hf⟩ := bd1_some hf
                        have J158 : ∀ (H : Heap) (locs : List Loc), va_P (dC, dI) vwCl [(h_t, .inr (8, fX10 h_t_book h_t_images h_t_kept h_t_aside h_t_far h_t_then h_t_row h_t_mays h_t_firstRow h_t_low h_t_high t_noOlder t_thanThis t_known t_knownAge t_moved h_t_lowOne h_t_highOne h_t_ways t_met h_t_left x102 x127 h_t_text t_typed t_at t_start t_token t_value h_t_verbs h_t_nums t_items)), (h_t_book, .inl (cI, 460, .inl t_book)), (h_t_left, .inl (cI, 20, .inl y149))] H → va_D A [(h_t, .inr (8, fX10 h_t_book h_t_images h_t_kept h_t_aside h_t_far h_t_then h_t_row h_t_mays h_t_firstRow h_t_low h_t_high t_noOlder t_thanThis t_known t_knownAge t_moved h_t_lowOne h_t_highOne h_t_ways t_met h_t_left x102 x127 h_t_text t_typed t_at t_start t_token t_value h_t_verbs h_t_nums t_items)), (h_t_book, .inl (cI, 460, .inl t_book)), (h_t_left, .inl (cI, 20, .inl y149))] → va_S A s.heap H locs → ∀ ls : Array Slot, lv_has ls 8 [(0, .ref h_t), (2, .int p2), (3, .int x129), (4, .int x114), (5, .int x150), (6, .int x151)] → W p l e rmX10_drains s m args below meth c H locs 0 0 Q (F0 m 176 ls [.int x157]) := by
                          intro H locs hP hD hS ls hl
                          refine lv_istore (lv' := [(7, .int x157), (0, .ref h_t), (2, .int p2), (3, .int x129), (4, .int x114), (5, .int x150), (6, .int x151)]) hx hb dX10_drains_176 hl (by decide) rfl (fun ls hl => ?_)
                          refine lv_aload_n hx hb dX10_drains_178 rfl (lv_at hl 1 rfl) ?_
                          refine va_get (D := (dC, dI)) (ci := 8) (v := .ref h_t_left) (C := RX10) (T := TX10) (N := 32) hx hb hts (in1 tw_X10) hown hK hP 0 rfl rfl 20 (by decide) (hts _ (List.mem_cons_of_mem _ kw_131)) (fun _ h9 => h9) rfl dX10_drains_179 ?_
                          refine lv_iload hx hb dX10_drains_182 (lv_at hl 6 rfl) ?_
                          refine lv_dup2_11 hx hb dX10_drains_184 rfl rfl ?_
                          obtain ⟨g159, hf⟩ := chk_some hf
                          refine va_iald hx hb hK hP 2 0 rfl rfl (gin_in g159) dX10_drains_185 ?_
                          refine lv_iload hx hb dX10_drains_186 (lv_at hl 0 rfl) ?_
                          refine lv_isub hx hb dX10_drains_188 ?_
                          obtain ⟨x160, e161, hf⟩ := nm_some hf
                          refine lv_tope e161 ?_
                          obtain ⟨g162, hf⟩ := chk_some hf
                          obtain ⟨y163, e164, hf⟩ := nm_some hf
                          refine va_iast hx hb hK hP hD hS 2 0 rfl rfl (gin_in g162) dX10_drains_189 (fun H locs hP hD hS => ?_)
                          have hP : va_P (dC, dI) vwCl [(h_t, .inr (8, fX10 h_t_book h_t_images h_t_kept h_t_aside h_t_far h_t_then h_t_row h_t_mays h_t_firstRow h_t_low h_t_high t_noOlder t_thanThis t_known t_knownAge t_moved h_t_lowOne h_t_highOne h_t_ways t_met h_t_left x102 x127 h_t_text t_typed t_at t_start t_token t_value h_t_verbs h_t_nums t_items)), (h_t_book, .inl (cI, 460, .inl t_book)), (h_t_left, .inl (cI, 20, .inl y163))] H := by rw [e164]; exact hP
                          have hD : va_D A [(h_t, .inr (8, fX10 h_t_book h_t_images h_t_kept h_t_aside h_t_far h_t_then h_t_row h_t_mays h_t_firstRow h_t_low h_t_high t_noOlder t_thanThis t_known t_knownAge t_moved h_t_lowOne h_t_highOne h_t_ways t_met h_t_left x102 x127 h_t_text t_typed t_at t_start t_token t_value h_t_verbs h_t_nums t_items)), (h_t_book, .inl (cI, 460, .inl t_book)), (h_t_left, .inl (cI, 20, .inl y163))] := by rw [e164]; exact hD
                          refine lv_iload hx hb dX10_drains_190 (lv_at hl 5 rfl) ?_
                          refine lv_iload hx hb dX10_drains_192 (lv_at hl 0 rfl) ?_
                          refine lv_isub hx hb dX10_drains_194 ?_
                          obtain ⟨x165, e166, hf⟩ := nm_some hf
                          refine lv_tope e166 ?_
                          refine lv_istore (lv' := [(5, .int x165), (7, .int x157), (0, .ref h_t), (2, .int p2), (3, .int x129), (4, .int x114), (6, .int x151)]) hx hb dX10_drains_195 hl (by decide) rfl (fun ls hl => ?_)
                          refine lv_iinc (v := (x151 + (-1 : Int32))) (lv' := [(6, .int (x151 + (-1 : Int32))), (5, .int x165), (7, .int x157), (0, .ref h_t), (2, .int p2), (3, .int x129), (4, .int x114)]) hx hb dX10_drains_197 hl (k := 6) rfl rfl (by decide) rfl (fun ls hl => ?_)
                          refine lv_goto (tgt := 146) hx hb dX10_drains_200 (by decide) ?_
                          exact ih152 _ _ _ _ hf hX154 _ _ hP hD hS _ (lv_sub hl [3, 4, 5, 6, 1, 0] rfl)
                        clear hf
                        have hf := hg
                        refine lv_icmp_ge (tgt := 174) hx hb dX10_drains_161 (by decide) (fun c167 => ?_) (fun c167 => ?_)
                        · replace hf := ifp c167 hf
                          refine lv_iload hx hb dX10_drains_174 (lv_at hl 4 rfl) ?_
                          obtain rfl := inj1 hf
                          exact J158 _ _ hP hD hS _ (lv_sub hl [0, 1, 2, 3, 4, 5] rfl)
                        · replace hf := ifn c167 hf
                          refine lv_aload_n hx hb dX10_drains_164 rfl (lv_at hl 0 rfl) ?_
                          refine va_get (D := (dC, dI)) (ci := 8) (v := .ref h_t_left) (C := RX10) (T := TX10) (N := 32) hx hb hts (in1 tw_X10) hown hK hP 0 rfl rfl 20 (by decide) (hts _ (List.mem_cons_of_mem _ kw_131)) (fun _ h9 => h9) rfl dX10_drains_165 ?_
                          refine lv_iload hx hb dX10_drains_168 (lv_at hl 5 rfl) ?_
                          obtain ⟨g168, hf⟩ := chk_some hf
                          refine va_iald hx hb hK hP 2 0 rfl rfl (gin_in g168) dX10_drains_170 ?_
                          refine lv_goto (tgt := 176) hx hb dX10_drains_171 (by decide) ?_
                          obtain rfl := inj1 hf
                          exact J158 _ _ hP hD hS _ (lv_sub hl [0, 1, 2, 3, 4, 5] rfl)
                  obtain ⟨y148, hg, hf⟩ := bd1_some hf
                  refine L169 FU _ _ _ _ hg ?_ _ _ hP hD hS _ (lv_sub hl [2, 3, 1, 4, 5, 0] rfl)
                  · intro H locs hP hD hS ls hl
                    refine lv_aload_n hx hb dX10_drains_203 rfl (lv_at hl 0 rfl) ?_
                    refine lv_dup hx hb dX10_drains_204 rfl ?_
                    refine va_get (D := (dC, dI)) (ci := 8) (v := .int x102) (C := RX10) (T := TX10) (N := 32) hx hb hts (in1 tw_X10) hown hK hP 0 rfl rfl 21 (by decide) (hts _ (List.mem_cons_of_mem _ kw_305)) (fun _ h9 => h9) rfl dX10_drains_205 ?_
                    refine lv_iconst (v := (1 : Int32)) hx hb dX10_drains_208 (by decide) ?_
                    refine lv_iadd hx hb dX10_drains_209 ?_
                    obtain ⟨x170, e171, hf⟩ := nm_some hf
                    refine lv_tope e171 ?_
                    refine va_put (D := (dC, dI)) (ci := 8) (v := .int x170) (ty := tyX10 21) (C := RX10) (T := TX10) (N := 32) hx hb hts (in1 tw_X10) tyX10 tyX10_ok nmX10 hown hK hP hD hS 0 rfl rfl 21 (by decide) (hts _ (List.mem_cons_of_mem _ kw_305)) (fun _ h9 => h9) rfl (tyX10_ok 21 (by decide)) rfl rfl (Nat.le_of_ble_eq_true rfl) dX10_drains_210 (fun H locs hP hD hS => ?_)
                    have hP : va_P (dC, dI) vwCl [(h_t, .inr (8, fX10 h_t_book h_t_images h_t_kept h_t_aside h_t_far h_t_then h_t_row h_t_mays h_t_firstRow h_t_low h_t_high t_noOlder t_thanThis t_known t_knownAge t_moved h_t_lowOne h_t_highOne h_t_ways t_met h_t_left x170 x127 h_t_text t_typed t_at t_start t_token t_value h_t_verbs h_t_nums t_items)), (h_t_book, .inl (cI, 460, .inl t_book)), (h_t_left, .inl (cI, 20, .inl y148))] H := hP
                    have hD : va_D A [(h_t, .inr (8, fX10 h_t_book h_t_images h_t_kept h_t_aside h_t_far h_t_then h_t_row h_t_mays h_t_firstRow h_t_low h_t_high t_noOlder t_thanThis t_known t_knownAge t_moved h_t_lowOne h_t_highOne h_t_ways t_met h_t_left x170 x127 h_t_text t_typed t_at t_start t_token t_value h_t_verbs h_t_nums t_items)), (h_t_book, .inl (cI, 460, .inl t_book)), (h_t_left, .inl (cI, 20, .inl y148))] := hD
                    refine lv_goto (tgt := 55) hx hb dX10_drains_213 (by decide) ?_
                    exact ih106 _ _ _ _ _ _ _ _ hf hX108 _ _ hP hD hS _ (lv_sub hl [0, 1, 2, 3] rfl)
                clear hf
                have hf := hg
                refine lv_icmp_le (tgt := 130) hx hb dX10_drains_122 (by decide) (fun c172 => ?_) (fun c172 => ?_)
                · replace hf := ifp c172 hf
                  refine lv_aload_n hx hb dX10_drains_130 rfl (lv_at hl 1 rfl) ?_
                  refine va_get (D := (dC, dI)) (ci := 8) (v := .int x103) (C := RX10) (T := TX10) (N := 32) hx hb hts (in1 tw_X10) hown hK hP 0 rfl rfl 22 (by decide) (hts _ (List.mem_cons_of_mem _ kw_306)) (fun _ h9 => h9) rfl dX10_drains_131 ?_
                  obtain rfl := inj1 hf
                  exact J128 _ _ hP hD hS _ (lv_sub hl [1, 2, 3, 4, 0] rfl)
                · replace hf := ifn c172 hf
                  refine lv_iload hx hb dX10_drains_125 (lv_at hl 0 rfl) ?_
                  refine lv_goto (tgt := 134) hx hb dX10_drains_127 (by decide) ?_
                  obtain rfl := inj1 hf
                  exact J128 _ _ hP hD hS _ (lv_sub hl [1, 2, 3, 4, 0] rfl)
              clear hf
              have hf := hg
              refine lv_icmp_ge (tgt := 112) hx hb dX10_drains_104 (by decide) (fun c173 => ?_) (fun c173 => ?_)
              · replace hf := ifp c173 hf
                refine lv_iload_n hx hb dX10_drains_112 rfl (lv_at hl 3 rfl) ?_
                obtain rfl := inj1 hf
                exact J126 _ _ hP hD hS _ (lv_sub hl [1, 2, 3, 4] rfl)
              · replace hf := ifn c173 hf
                refine lv_iload hx hb dX10_drains_107 (lv_at hl 0 rfl) ?_
                refine lv_goto (tgt := 113) hx hb dX10_drains_109 (by decide) ?_
                obtain rfl := inj1 hf
                exact J126 _ _ hP hD hS _ (lv_sub hl [1, 2, 3, 4] rfl)
    obtain ⟨y98, x99, x100, hg, hf⟩ := bd3_some hf
    refine L174 FU _ _ _ _ _ _ _ _ hg ?_ _ _ hP hD hS _ (lv_sub hl [1, 3, 4, 0] rfl)
    · intro H locs hP hD hS ls hl
      obtain ⟨rfl, rfl, rfl⟩ := inj3 hf
      subst hQ
      exact CM_vret hx hb hr hlocks hAe hP hD hS dX10_drains_216
def rmX10_isLake : Room := { frames := 1, cells := 0, slots := 0, locals := 25 }
abbrev wqX10_isLake : List Cond := Cond.code yX10_isLake cX10_isLake 2 (some .boolean) :: tG
set_option maxHeartbeats 4000000 in
set_option maxRecDepth 100000 in
theorem c_X10_isLake (l : Launch) (dC : Nat → ClassId) (dI : Nat → Nat → Nat) (cI cZ : ClassId) (te : Nat → Nat) (p1 : Int32) (p2 : Int32) (o0 : Int32) (hf : f_X10_isLake p1 p2 = some o0) : CM l yX10_isLake wqX10_isLake rmX10_isLake (kS te) dC dI cI cZ [.int p1, .int p2] [] [] (some (.int o0)) := by
  refine CM_of (cc := cX10_isLake) (maxL := 2) (ret := (some .boolean)) (by decide +kernel) rfl (Nat.le_of_ble_eq_true rfl) ?_
  intro p e s m args below meth c A Q hx hb hr hml hown hts hlocks hA hK hP hD hS hE hQ hAe ls hl
  have hown : s.vm.findClass RX10 = some m.cls := hown
  have hl : lv_has ls 2 [(0, .int p1), (1, .int p2)] := hl
  unfold f_X10_isLake at hf
  refine lv_iload_n hx hb dX10_isLake_0 rfl (lv_at hl 0 rfl) ?_
  refine lv_i2l hx hb dX10_isLake_1 rfl ?_
  refine lv_lconst (v := (0 : Int64)) hx hb dX10_isLake_2 (by decide) ?_
  refine lv_ldc2 (v := (20 : Int64)) hx hb hown (hts _ (List.mem_cons_of_mem _ kw_216)) dX10_isLake_3 ?_
  obtain ⟨r1, hg2, hf⟩ := bd1_some hf
  refine CM_callS (As := [.long p1.toInt64, .long (0 : Int64), .long (20 : Int64)]) (rest := []) (wc := []) (w1 := []) (wr := []) (wo := []) (v := (some (.int r1))) ⟨hx, hb, hml, hown, hts⟩ (c_X10_in l dC dI cI cZ te (p1.toInt64) (0 : Int64) (20 : Int64) r1 hg2) (va_cwS 3 hts (gS kw_157 kw_158 kw_159 kw_160) rfl rfl rfl (by decide +kernel) ⟨Nat.le_of_ble_eq_true rfl, Nat.le_of_ble_eq_true rfl⟩) (kS_env te) hK hP hD hS hA hE [] [] [] rfl rfl (by decide) (by decide) (by decide) (by decide) rfl rfl hl.1 rfl (Nat.le_of_ble_eq_true rfl) dX10_isLake_6 ⟨Nat.zero_le _, Nat.zero_le _⟩ (fun H locs hP hD hS => ?_)
  show W p l e rmX10_isLake s m args below meth c H locs 0 0 Q (F0 m 9 ls [.int r1])
  refine lv_if_eq (tgt := 29) hx hb dX10_isLake_9 (by decide) (fun c3 => ?_) (fun c3 => ?_)
  · replace hf := ifp c3 hf
    refine lv_iconst (v := (0 : Int32)) hx hb dX10_isLake_29 (by decide) ?_
    obtain rfl := inj1 hf
    subst hQ
    exact CM_iret hx hb hr rfl hlocks hAe hP hD hS dX10_isLake_30
  · replace hf := ifn c3 hf
    refine lv_iload_n hx hb dX10_isLake_12 rfl (lv_at hl 1 rfl) ?_
    refine lv_i2l hx hb dX10_isLake_13 rfl ?_
    refine lv_lconst (v := (0 : Int64)) hx hb dX10_isLake_14 (by decide) ?_
    refine lv_iload_n hx hb dX10_isLake_15 rfl (lv_at hl 0 rfl) ?_
    refine lv_iconst (v := (1 : Int32)) hx hb dX10_isLake_16 (by decide) ?_
    refine lv_isub hx hb dX10_isLake_17 ?_
    refine lv_i2l hx hb dX10_isLake_18 rfl ?_
    obtain ⟨r4, hg5, hf⟩ := bd1_some hf
    refine CM_callS (As := [.long p2.toInt64, .long (0 : Int64), .long (p1 - (1 : Int32)).toInt64]) (rest := []) (wc := []) (w1 := []) (wr := []) (wo := []) (v := (some (.int r4))) ⟨hx, hb, hml, hown, hts⟩ (c_X10_in l dC dI cI cZ te (p2.toInt64) (0 : Int64) ((p1 - (1 : Int32)).toInt64) r4 hg5) (va_cwS 3 hts (gS kw_157 kw_158 kw_159 kw_160) rfl rfl rfl (by decide +kernel) ⟨Nat.le_of_ble_eq_true rfl, Nat.le_of_ble_eq_true rfl⟩) (kS_env te) hK hP hD hS hA hE [] [] [] rfl rfl (by decide) (by decide) (by decide) (by decide) rfl rfl hl.1 rfl (Nat.le_of_ble_eq_true rfl) dX10_isLake_19 ⟨Nat.zero_le _, Nat.zero_le _⟩ (fun H locs hP hD hS => ?_)
    show W p l e rmX10_isLake s m args below meth c H locs 0 0 Q (F0 m 22 ls [.int r4])
    refine lv_if_eq (tgt := 29) hx hb dX10_isLake_22 (by decide) (fun c6 => ?_) (fun c6 => ?_)
    · replace hf := ifp c6 hf
      refine lv_iconst (v := (0 : Int32)) hx hb dX10_isLake_29 (by decide) ?_
      obtain rfl := inj1 hf
      subst hQ
      exact CM_iret hx hb hr rfl hlocks hAe hP hD hS dX10_isLake_30
    · replace hf := ifn c6 hf
      refine lv_iconst (v := (1 : Int32)) hx hb dX10_isLake_25 (by decide) ?_
      refine lv_goto (tgt := 30) hx hb dX10_isLake_26 (by decide) ?_
      obtain rfl := inj1 hf
      subst hQ
      exact CM_iret hx hb hr rfl hlocks hAe hP hD hS dX10_isLake_30
def rmX10_lake : Room := { frames := 2, cells := 0, slots := 0, locals := 51 }
abbrev wqX10_lake : List Cond := Cond.code yX10_lake cX10_lake 4 (some .int) :: tG
set_option maxHeartbeats 4000000 in
set_option maxRecDepth 100000 in
theorem c_X10_lake (l : Launch) (dC : Nat → ClassId) (dI : Nat → Nat → Nat) (cI cZ : ClassId) (te : Nat → Nat) (h_t : Nat) (h_t_book : Nat) (h_t_images : Nat) (h_t_kept : Nat) (h_t_aside : Nat) (h_t_far : Nat) (h_t_then : Nat) (h_t_row : Nat) (h_t_mays : Nat) (h_t_firstRow : Nat) (h_t_low : Nat) (h_t_high : Nat) (h_t_lowOne : Nat) (h_t_highOne : Nat) (h_t_ways : Nat) (h_t_left : Nat) (h_t_text : Nat) (h_t_verbs : Nat) (h_t_nums : Nat) (t_noOlder : Int32) (t_thanThis : Int32) (t_known : Int32) (t_knownAge : Int32) (t_moved : Int32) (t_met : Int32) (t_hours : Int32) (t_greatest : Int32) (t_typed : Int32) (t_at : Int32) (t_start : Int32) (t_token : Int32) (t_value : Int32) (t_items : Int32) (t_book : Nat → Int32) (t_left : Nat → Int32) (p1 : Int32) (p2 : Int32) (p3 : Int32) (o0 : Int32) (o1 : Int32) (o2 : Int32) (o3 : Nat → Int32) (hf : f_X10_lake t_hours t_greatest t_book t_left p1 p2 p3 = some (o0, o1, o2, o3)) : CM l yX10_lake wqX10_lake rmX10_lake (kS te) dC dI cI cZ [.ref h_t, .int p1, .int p2, .int p3] [(h_t, .inr (8, fX10 h_t_book h_t_images h_t_kept h_t_aside h_t_far h_t_then h_t_row h_t_mays h_t_firstRow h_t_low h_t_high t_noOlder t_thanThis t_known t_knownAge t_moved h_t_lowOne h_t_highOne h_t_ways t_met h_t_left t_hours t_greatest h_t_text t_typed t_at t_start t_token t_value h_t_verbs h_t_nums t_items)), (h_t_book, .inl (cI, 460, .inl t_book)), (h_t_left, .inl (cI, 20, .inl t_left))] [(h_t, .inr (8, fX10 h_t_book h_t_images h_t_kept h_t_aside h_t_far h_t_then h_t_row h_t_mays h_t_firstRow h_t_low h_t_high t_noOlder t_thanThis t_known t_knownAge t_moved h_t_lowOne h_t_highOne h_t_ways t_met h_t_left o1 o2 h_t_text t_typed t_at t_start t_token t_value h_t_verbs h_t_nums t_items)), (h_t_book, .inl (cI, 460, .inl t_book)), (h_t_left, .inl (cI, 20, .inl o3))] (some (.int o0)) := by
  refine CM_of (cc := cX10_lake) (maxL := 4) (ret := (some .int)) (by decide +kernel) rfl (Nat.le_of_ble_eq_true rfl) ?_
  intro p e s m args below meth c A Q hx hb hr hml hown hts hlocks hA hK hP hD hS hE hQ hAe ls hl
  have hown : s.vm.findClass RX10 = some m.cls := hown
  have hl : lv_has ls 4 [(0, .ref h_t), (1, .int p1), (2, .int p2), (3, .int p3)] := hl
  unfold f_X10_lake at hf
  refine lv_iload_n hx hb dX10_lake_0 rfl (lv_at hl 1 rfl) ?_
  refine lv_iload_n hx hb dX10_lake_1 rfl (lv_at hl 2 rfl) ?_
  obtain ⟨r1, hg2, hf⟩ := bd1_some hf
  refine CM_callS (As := [.int p1, .int p2]) (rest := []) (wc := []) (w1 := []) (wr := [(h_t, .inr (8, fX10 h_t_book h_t_images h_t_kept h_t_aside h_t_far h_t_then h_t_row h_t_mays h_t_firstRow h_t_low h_t_high t_noOlder t_thanThis t_known t_knownAge t_moved h_t_lowOne h_t_highOne h_t_ways t_met h_t_left t_hours t_greatest h_t_text t_typed t_at t_start t_token t_value h_t_verbs h_t_nums t_items)), (h_t_book, .inl (cI, 460, .inl t_book)), (h_t_left, .inl (cI, 20, .inl t_left))]) (wo := [(h_t, .inr (8, fX10 h_t_book h_t_images h_t_kept h_t_aside h_t_far h_t_then h_t_row h_t_mays h_t_firstRow h_t_low h_t_high t_noOlder t_thanThis t_known t_knownAge t_moved h_t_lowOne h_t_highOne h_t_ways t_met h_t_left t_hours t_greatest h_t_text t_typed t_at t_start t_token t_value h_t_verbs h_t_nums t_items)), (h_t_book, .inl (cI, 460, .inl t_book)), (h_t_left, .inl (cI, 20, .inl t_left))]) (v := (some (.int r1))) ⟨hx, hb, hml, hown, hts⟩ (c_X10_isLake l dC dI cI cZ te p1 p2 r1 hg2) (va_cwS 2 hts (gS kw_307 kw_308 kw_159 kw_309) rfl rfl rfl (by decide +kernel) ⟨Nat.le_of_ble_eq_true rfl, Nat.le_of_ble_eq_true rfl⟩) (kS_env te) hK hP hD hS hA hE [] [0, 1, 2] [0, 1, 2] rfl rfl (by decide) (by decide) (by decide) (by decide) rfl rfl hl.1 rfl (Nat.le_of_ble_eq_true rfl) dX10_lake_2 ⟨Nat.zero_le _, Nat.zero_le _⟩ (fun H locs hP hD hS => ?_)
  show W p l e rmX10_lake s m args below meth c H locs 0 0 Q (F0 m 5 ls [.int r1])
  refine lv_if_eq (tgt := 20) hx hb dX10_lake_5 (by decide) (fun c3 => ?_) (fun c3 => ?_)
  · replace hf := ifp c3 hf
    refine lv_bipush (v := (-2 : Int32)) hx hb dX10_lake_20 (by decide) ?_
    obtain ⟨rfl, rfl, rfl, rfl⟩ := inj4 hf
    subst hQ
    exact CM_iret hx hb hr rfl hlocks hAe hP hD hS dX10_lake_22
  · replace hf := ifn c3 hf
    refine lv_iload_n hx hb dX10_lake_8 rfl (lv_at hl 3 rfl) ?_
    refine lv_i2l hx hb dX10_lake_9 rfl ?_
    refine lv_lconst (v := (0 : Int64)) hx hb dX10_lake_10 (by decide) ?_
    refine lv_ldc2 (v := (2 : Int64)) hx hb hown (hts _ (List.mem_cons_of_mem _ kw_156)) dX10_lake_11 ?_
    obtain ⟨r4, hg5, hf⟩ := bd1_some hf
    refine CM_callS (As := [.long p3.toInt64, .long (0 : Int64), .long (2 : Int64)]) (rest := []) (wc := []) (w1 := []) (wr := [(h_t, .inr (8, fX10 h_t_book h_t_images h_t_kept h_t_aside h_t_far h_t_then h_t_row h_t_mays h_t_firstRow h_t_low h_t_high t_noOlder t_thanThis t_known t_knownAge t_moved h_t_lowOne h_t_highOne h_t_ways t_met h_t_left t_hours t_greatest h_t_text t_typed t_at t_start t_token t_value h_t_verbs h_t_nums t_items)), (h_t_book, .inl (cI, 460, .inl t_book)), (h_t_left, .inl (cI, 20, .inl t_left))]) (wo := [(h_t, .inr (8, fX10 h_t_book h_t_images h_t_kept h_t_aside h_t_far h_t_then h_t_row h_t_mays h_t_firstRow h_t_low h_t_high t_noOlder t_thanThis t_known t_knownAge t_moved h_t_lowOne h_t_highOne h_t_ways t_met h_t_left t_hours t_greatest h_t_text t_typed t_at t_start t_token t_value h_t_verbs h_t_nums t_items)), (h_t_book, .inl (cI, 460, .inl t_book)), (h_t_left, .inl (cI, 20, .inl t_left))]) (v := (some (.int r4))) ⟨hx, hb, hml, hown, hts⟩ (c_X10_in l dC dI cI cZ te (p3.toInt64) (0 : Int64) (2 : Int64) r4 hg5) (va_cwS 3 hts (gS kw_157 kw_158 kw_159 kw_160) rfl rfl rfl (by decide +kernel) ⟨Nat.le_of_ble_eq_true rfl, Nat.le_of_ble_eq_true rfl⟩) (kS_env te) hK hP hD hS hA hE [] [0, 1, 2] [0, 1, 2] rfl rfl (by decide) (by decide) (by decide) (by decide) rfl rfl hl.1 rfl (Nat.le_of_ble_eq_true rfl) dX10_lake_14 ⟨Nat.zero_le _, Nat.zero_le _⟩ (fun H locs hP hD hS => ?_)
    show W p l e rmX10_lake s m args below meth c H locs 0 0 Q (F0 m 17 ls [.int r4])
    refine lv_if_ne (tgt := 23) hx hb dX10_lake_17 (by decide) (fun c6 => ?_) (fun c6 => ?_)
    · replace hf := ifn c6 hf
      refine lv_aload_n hx hb dX10_lake_23 rfl (lv_at hl 0 rfl) ?_
      refine lv_iload_n hx hb dX10_lake_24 rfl (lv_at hl 1 rfl) ?_
      refine lv_iload_n hx hb dX10_lake_25 rfl (lv_at hl 2 rfl) ?_
      obtain ⟨x7, x8, y9, hg10, hf⟩ := bd3_some hf
      refine CM_callV (C := RX10) (As := [.int p1, .int p2]) (rest := []) (wc := [(h_t, .inr (8, fX10 h_t_book h_t_images h_t_kept h_t_aside h_t_far h_t_then h_t_row h_t_mays h_t_firstRow h_t_low h_t_high t_noOlder t_thanThis t_known t_knownAge t_moved h_t_lowOne h_t_highOne h_t_ways t_met h_t_left t_hours t_greatest h_t_text t_typed t_at t_start t_token t_value h_t_verbs h_t_nums t_items)), (h_t_book, .inl (cI, 460, .inl t_book)), (h_t_left, .inl (cI, 20, .inl t_left))]) (w1 := [(h_t, .inr (8, fX10 h_t_book h_t_images h_t_kept h_t_aside h_t_far h_t_then h_t_row h_t_mays h_t_firstRow h_t_low h_t_high t_noOlder t_thanThis t_known t_knownAge t_moved h_t_lowOne h_t_highOne h_t_ways t_met h_t_left x7 x8 h_t_text t_typed t_at t_start t_token t_value h_t_verbs h_t_nums t_items)), (h_t_book, .inl (cI, 460, .inl t_book)), (h_t_left, .inl (cI, 20, .inl y9))]) (wr := []) (wo := [(h_t, .inr (8, fX10 h_t_book h_t_images h_t_kept h_t_aside h_t_far h_t_then h_t_row h_t_mays h_t_firstRow h_t_low h_t_high t_noOlder t_thanThis t_known t_knownAge t_moved h_t_lowOne h_t_highOne h_t_ways t_met h_t_left x7 x8 h_t_text t_typed t_at t_start t_token t_value h_t_verbs h_t_nums t_items)), (h_t_book, .inl (cI, 460, .inl t_book)), (h_t_left, .inl (cI, 20, .inl y9))]) (v := (none)) ⟨hx, hb, hml, hown, hts⟩ (c_X10_drains l dC dI cI cZ te h_t h_t_book h_t_images h_t_kept h_t_aside h_t_far h_t_then h_t_row h_t_mays h_t_firstRow h_t_low h_t_high h_t_lowOne h_t_highOne h_t_ways h_t_left h_t_text h_t_verbs h_t_nums t_noOlder t_thanThis t_known t_knownAge t_moved t_met t_hours t_greatest t_typed t_at t_start t_token t_value t_items t_book t_left p1 p2 x7 x8 y9 hg10) (cwV 2 hts (gV kw_310 kw_311 kw_312 kw_159 kw_313) rfl rfl rfl (by decide +kernel) ⟨Nat.le_of_ble_eq_true rfl, Nat.le_of_ble_eq_true rfl⟩) (kS_env te) hK hP hD hS hA hE [0, 1, 2] [] [0, 1, 2] rfl rfl (by decide) (by decide) (by decide) (by decide) rfl 0 8 rfl rfl rfl rfl hl.1 rfl (Nat.le_of_ble_eq_true rfl) dX10_lake_26 ⟨Nat.zero_le _, Nat.zero_le _⟩ (fun H locs hP hD hS => ?_)
      show W p l e rmX10_lake s m args below meth c H locs 0 0 Q (F0 m 29 ls [])
      refine lv_iload_n hx hb dX10_lake_29 rfl (lv_at hl 3 rfl) ?_
      refine lv_if_ne (tgt := 42) hx hb dX10_lake_30 (by decide) (fun c11 => ?_) (fun c11 => ?_)
      · replace hf := ifn c11 hf
        refine lv_iload_n hx hb dX10_lake_42 rfl (lv_at hl 3 rfl) ?_
        refine lv_iconst (v := (1 : Int32)) hx hb dX10_lake_43 (by decide) ?_
        refine lv_icmp_ne (tgt := 54) hx hb dX10_lake_44 (by decide) (fun c12 => ?_) (fun c12 => ?_)
        · replace hf := ifn c12 hf
          refine lv_aload_n hx hb dX10_lake_54 rfl (lv_at hl 0 rfl) ?_
          refine va_get (D := (dC, dI)) (ci := 8) (v := .int x8) (C := RX10) (T := TX10) (N := 32) hx hb hts (in1 tw_X10) hown hK hP 0 rfl rfl 22 (by decide) (hts _ (List.mem_cons_of_mem _ kw_306)) (fun _ h9 => h9) rfl dX10_lake_55 ?_
          obtain ⟨rfl, rfl, rfl, rfl⟩ := inj4 hf
          subst hQ
          exact CM_iret hx hb hr rfl hlocks hAe hP hD hS dX10_lake_58
        · replace hf := ifp c12 hf
          refine lv_aload_n hx hb dX10_lake_47 rfl (lv_at hl 0 rfl) ?_
          refine va_get (D := (dC, dI)) (ci := 8) (v := .int x7) (C := RX10) (T := TX10) (N := 32) hx hb hts (in1 tw_X10) hown hK hP 0 rfl rfl 21 (by decide) (hts _ (List.mem_cons_of_mem _ kw_305)) (fun _ h9 => h9) rfl dX10_lake_48 ?_
          refine lv_goto (tgt := 58) hx hb dX10_lake_51 (by decide) ?_
          obtain ⟨rfl, rfl, rfl, rfl⟩ := inj4 hf
          subst hQ
          exact CM_iret hx hb hr rfl hlocks hAe hP hD hS dX10_lake_58
      · replace hf := ifp c11 hf
        refine lv_aload_n hx hb dX10_lake_33 rfl (lv_at hl 0 rfl) ?_
        refine lv_iload_n hx hb dX10_lake_34 rfl (lv_at hl 1 rfl) ?_
        refine lv_iload_n hx hb dX10_lake_35 rfl (lv_at hl 2 rfl) ?_
        obtain ⟨r13, hg14, hf⟩ := bd1_some hf
        refine CM_callV (C := RX10) (As := [.int p1, .int p2]) (rest := []) (wc := [(h_t, .inr (8, fX10 h_t_book h_t_images h_t_kept h_t_aside h_t_far h_t_then h_t_row h_t_mays h_t_firstRow h_t_low h_t_high t_noOlder t_thanThis t_known t_knownAge t_moved h_t_lowOne h_t_highOne h_t_ways t_met h_t_left x7 x8 h_t_text t_typed t_at t_start t_token t_value h_t_verbs h_t_nums t_items)), (h_t_book, .inl (cI, 460, .inl t_book))]) (w1 := [(h_t, .inr (8, fX10 h_t_book h_t_images h_t_kept h_t_aside h_t_far h_t_then h_t_row h_t_mays h_t_firstRow h_t_low h_t_high t_noOlder t_thanThis t_known t_knownAge t_moved h_t_lowOne h_t_highOne h_t_ways t_met h_t_left x7 x8 h_t_text t_typed t_at t_start t_token t_value h_t_verbs h_t_nums t_items)), (h_t_book, .inl (cI, 460, .inl t_book))]) (wr := [(h_t_left, .inl (cI, 20, .inl y9))]) (wo := [(h_t, .inr (8, fX10 h_t_book h_t_images h_t_kept h_t_aside h_t_far h_t_then h_t_row h_t_mays h_t_firstRow h_t_low h_t_high t_noOlder t_thanThis t_known t_knownAge t_moved h_t_lowOne h_t_highOne h_t_ways t_met h_t_left x7 x8 h_t_text t_typed t_at t_start t_token t_value h_t_verbs h_t_nums t_items)), (h_t_book, .inl (cI, 460, .inl t_book)), (h_t_left, .inl (cI, 20, .inl y9))]) (v := (some (.int r13))) ⟨hx, hb, hml, hown, hts⟩ (c_X10_volume l dC dI cI cZ te h_t h_t_book h_t_images h_t_kept h_t_aside h_t_far h_t_then h_t_row h_t_mays h_t_firstRow h_t_low h_t_high h_t_lowOne h_t_highOne h_t_ways h_t_left h_t_text h_t_verbs h_t_nums t_noOlder t_thanThis t_known t_knownAge t_moved t_met x7 x8 t_typed t_at t_start t_token t_value t_items t_book p1 p2 r13 hg14) (cwV 2 hts (gV kw_301 kw_302 kw_303 kw_159 kw_304) rfl rfl rfl (by decide +kernel) ⟨Nat.le_of_ble_eq_true rfl, Nat.le_of_ble_eq_true rfl⟩) (kS_env te) hK hP hD hS hA hE [0, 1] [2] [1, 2, 0] rfl rfl (by decide) (by decide) (by decide) (by decide) rfl 0 8 rfl rfl rfl rfl hl.1 rfl (Nat.le_of_ble_eq_true rfl) dX10_lake_36 ⟨Nat.zero_le _, Nat.zero_le _⟩ (fun H locs hP hD hS => ?_)
        show W p l e rmX10_lake s m args below meth c H locs 0 0 Q (F0 m 39 ls [.int r13])
        refine lv_goto (tgt := 58) hx hb dX10_lake_39 (by decide) ?_
        obtain ⟨rfl, rfl, rfl, rfl⟩ := inj4 hf
        subst hQ
        exact CM_iret hx hb hr rfl hlocks hAe hP hD hS dX10_lake_58
    · replace hf := ifp c6 hf
      refine lv_bipush (v := (-2 : Int32)) hx hb dX10_lake_20 (by decide) ?_
      obtain ⟨rfl, rfl, rfl, rfl⟩ := inj4 hf
      subst hQ
      exact CM_iret hx hb hr rfl hlocks hAe hP hD hS dX10_lake_22
def rmX10_shore : Room := { frames := 2, cells := 0, slots := 0, locals := 46 }
abbrev wqX10_shore : List Cond := Cond.code yX10_shore cX10_shore 7 (some .int) :: tG
set_option maxHeartbeats 4000000 in
set_option maxRecDepth 100000 in
theorem c_X10_shore (l : Launch) (dC : Nat → ClassId) (dI : Nat → Nat → Nat) (cI cZ : ClassId) (te : Nat → Nat) (h_t : Nat) (h_t_book : Nat) (h_t_images : Nat) (h_t_kept : Nat) (h_t_aside : Nat) (h_t_far : Nat) (h_t_then : Nat) (h_t_row : Nat) (h_t_mays : Nat) (h_t_firstRow : Nat) (h_t_low : Nat) (h_t_high : Nat) (h_t_lowOne : Nat) (h_t_highOne : Nat) (h_t_ways : Nat) (h_t_left : Nat) (h_t_text : Nat) (h_t_verbs : Nat) (h_t_nums : Nat) (t_noOlder : Int32) (t_thanThis : Int32) (t_known : Int32) (t_knownAge : Int32) (t_moved : Int32) (t_met : Int32) (t_hours : Int32) (t_greatest : Int32) (t_typed : Int32) (t_at : Int32) (t_start : Int32) (t_token : Int32) (t_value : Int32) (t_items : Int32) (t_book : Nat → Int32) (p1 : Int32) (p2 : Int32) (p3 : Int32) (p4 : Int32) (o0 : Int32) (hf : f_X10_shore t_book p1 p2 p3 p4 = some o0) : CM l yX10_shore wqX10_shore rmX10_shore (kS te) dC dI cI cZ [.ref h_t, .int p1, .int p2, .int p3, .int p4] [(h_t, .inr (8, fX10 h_t_book h_t_images h_t_kept h_t_aside h_t_far h_t_then h_t_row h_t_mays h_t_firstRow h_t_low h_t_high t_noOlder t_thanThis t_known t_knownAge t_moved h_t_lowOne h_t_highOne h_t_ways t_met h_t_left t_hours t_greatest h_t_text t_typed t_at t_start t_token t_value h_t_verbs h_t_nums t_items)), (h_t_book, .inl (cI, 460, .inl t_book))] [(h_t, .inr (8, fX10 h_t_book h_t_images h_t_kept h_t_aside h_t_far h_t_then h_t_row h_t_mays h_t_firstRow h_t_low h_t_high t_noOlder t_thanThis t_known t_knownAge t_moved h_t_lowOne h_t_highOne h_t_ways t_met h_t_left t_hours t_greatest h_t_text t_typed t_at t_start t_token t_value h_t_verbs h_t_nums t_items)), (h_t_book, .inl (cI, 460, .inl t_book))] (some (.int o0)) := by
  refine CM_of (cc := cX10_shore) (maxL := 7) (ret := (some .int)) (by decide +kernel) rfl (Nat.le_of_ble_eq_true rfl) ?_
  intro p e s m args below meth c A Q hx hb hr hml hown hts hlocks hA hK hP hD hS hE hQ hAe ls hl
  have hown : s.vm.findClass RX10 = some m.cls := hown
  have hl : lv_has ls 7 [(0, .ref h_t), (1, .int p1), (2, .int p2), (3, .int p3), (4, .int p4)] := hl
  unfold f_X10_shore at hf
  refine lv_iload_n hx hb dX10_shore_0 rfl (lv_at hl 1 rfl) ?_
  refine lv_iload_n hx hb dX10_shore_1 rfl (lv_at hl 2 rfl) ?_
  obtain ⟨r1, hg2, hf⟩ := bd1_some hf
  refine CM_callS (As := [.int p1, .int p2]) (rest := []) (wc := []) (w1 := []) (wr := [(h_t, .inr (8, fX10 h_t_book h_t_images h_t_kept h_t_aside h_t_far h_t_then h_t_row h_t_mays h_t_firstRow h_t_low h_t_high t_noOlder t_thanThis t_known t_knownAge t_moved h_t_lowOne h_t_highOne h_t_ways t_met h_t_left t_hours t_greatest h_t_text t_typed t_at t_start t_token t_value h_t_verbs h_t_nums t_items)), (h_t_book, .inl (cI, 460, .inl t_book))]) (wo := [(h_t, .inr (8, fX10 h_t_book h_t_images h_t_kept h_t_aside h_t_far h_t_then h_t_row h_t_mays h_t_firstRow h_t_low h_t_high t_noOlder t_thanThis t_known t_knownAge t_moved h_t_lowOne h_t_highOne h_t_ways t_met h_t_left t_hours t_greatest h_t_text t_typed t_at t_start t_token t_value h_t_verbs h_t_nums t_items)), (h_t_book, .inl (cI, 460, .inl t_book))]) (v := (some (.int r1))) ⟨hx, hb, hml, hown, hts⟩ (c_X10_isLake l dC dI cI cZ te p1 p2 r1 hg2) (va_cwS 2 hts (gS kw_307 kw_308 kw_159 kw_309) rfl rfl rfl (by decide +kernel) ⟨Nat.le_of_ble_eq_true rfl, Nat.le_of_ble_eq_true rfl⟩) (kS_env te) hK hP hD hS hA hE [] [0, 1] [0, 1] rfl rfl (by decide) (by decide) (by decide) (by decide) rfl rfl hl.1 rfl (Nat.le_of_ble_eq_true rfl) dX10_shore_2 ⟨Nat.zero_le _, Nat.zero_le _⟩ (fun H locs hP hD hS => ?_)
  show W p l e rmX10_shore s m args below meth c H locs 0 0 Q (F0 m 5 ls [.int r1])
  refine lv_if_eq (tgt := 31) hx hb dX10_shore_5 (by decide) (fun c3 => ?_) (fun c3 => ?_)
  · replace hf := ifp c3 hf
    refine lv_bipush (v := (-2 : Int32)) hx hb dX10_shore_31 (by decide) ?_
    obtain rfl := inj1 hf
    subst hQ
    exact CM_iret hx hb hr rfl hlocks hAe hP hD hS dX10_shore_33
  · replace hf := ifn c3 hf
    refine lv_iload_n hx hb dX10_shore_8 rfl (lv_at hl 3 rfl) ?_
    refine lv_i2l hx hb dX10_shore_9 rfl ?_
    refine lv_lconst (v := (0 : Int64)) hx hb dX10_shore_10 (by decide) ?_
    refine lv_ldc2 (v := (20 : Int64)) hx hb hown (hts _ (List.mem_cons_of_mem _ kw_216)) dX10_shore_11 ?_
    obtain ⟨r4, hg5, hf⟩ := bd1_some hf
    refine CM_callS (As := [.long p3.toInt64, .long (0 : Int64), .long (20 : Int64)]) (rest := []) (wc := []) (w1 := []) (wr := [(h_t, .inr (8, fX10 h_t_book h_t_images h_t_kept h_t_aside h_t_far h_t_then h_t_row h_t_mays h_t_firstRow h_t_low h_t_high t_noOlder t_thanThis t_known t_knownAge t_moved h_t_lowOne h_t_highOne h_t_ways t_met h_t_left t_hours t_greatest h_t_text t_typed t_at t_start t_token t_value h_t_verbs h_t_nums t_items)), (h_t_book, .inl (cI, 460, .inl t_book))]) (wo := [(h_t, .inr (8, fX10 h_t_book h_t_images h_t_kept h_t_aside h_t_far h_t_then h_t_row h_t_mays h_t_firstRow h_t_low h_t_high t_noOlder t_thanThis t_known t_knownAge t_moved h_t_lowOne h_t_highOne h_t_ways t_met h_t_left t_hours t_greatest h_t_text t_typed t_at t_start t_token t_value h_t_verbs h_t_nums t_items)), (h_t_book, .inl (cI, 460, .inl t_book))]) (v := (some (.int r4))) ⟨hx, hb, hml, hown, hts⟩ (c_X10_in l dC dI cI cZ te (p3.toInt64) (0 : Int64) (20 : Int64) r4 hg5) (va_cwS 3 hts (gS kw_157 kw_158 kw_159 kw_160) rfl rfl rfl (by decide +kernel) ⟨Nat.le_of_ble_eq_true rfl, Nat.le_of_ble_eq_true rfl⟩) (kS_env te) hK hP hD hS hA hE [] [0, 1] [0, 1] rfl rfl (by decide) (by decide) (by decide) (by decide) rfl rfl hl.1 rfl (Nat.le_of_ble_eq_true rfl) dX10_shore_14 ⟨Nat.zero_le _, Nat.zero_le _⟩ (fun H locs hP hD hS => ?_)
    show W p l e rmX10_shore s m args below meth c H locs 0 0 Q (F0 m 17 ls [.int r4])
    refine lv_if_eq (tgt := 31) hx hb dX10_shore_17 (by decide) (fun c6 => ?_) (fun c6 => ?_)
    · replace hf := ifp c6 hf
      refine lv_bipush (v := (-2 : Int32)) hx hb dX10_shore_31 (by decide) ?_
      obtain rfl := inj1 hf
      subst hQ
      exact CM_iret hx hb hr rfl hlocks hAe hP hD hS dX10_shore_33
    · replace hf := ifn c6 hf
      refine lv_iload hx hb dX10_shore_20 (lv_at hl 4 rfl) ?_
      refine lv_i2l hx hb dX10_shore_22 rfl ?_
      refine lv_lconst (v := (0 : Int64)) hx hb dX10_shore_23 (by decide) ?_
      refine lv_lconst (v := (1 : Int64)) hx hb dX10_shore_24 (by decide) ?_
      obtain ⟨r7, hg8, hf⟩ := bd1_some hf
      refine CM_callS (As := [.long p4.toInt64, .long (0 : Int64), .long (1 : Int64)]) (rest := []) (wc := []) (w1 := []) (wr := [(h_t, .inr (8, fX10 h_t_book h_t_images h_t_kept h_t_aside h_t_far h_t_then h_t_row h_t_mays h_t_firstRow h_t_low h_t_high t_noOlder t_thanThis t_known t_knownAge t_moved h_t_lowOne h_t_highOne h_t_ways t_met h_t_left t_hours t_greatest h_t_text t_typed t_at t_start t_token t_value h_t_verbs h_t_nums t_items)), (h_t_book, .inl (cI, 460, .inl t_book))]) (wo := [(h_t, .inr (8, fX10 h_t_book h_t_images h_t_kept h_t_aside h_t_far h_t_then h_t_row h_t_mays h_t_firstRow h_t_low h_t_high t_noOlder t_thanThis t_known t_knownAge t_moved h_t_lowOne h_t_highOne h_t_ways t_met h_t_left t_hours t_greatest h_t_text t_typed t_at t_start t_token t_value h_t_verbs h_t_nums t_items)), (h_t_book, .inl (cI, 460, .inl t_book))]) (v := (some (.int r7))) ⟨hx, hb, hml, hown, hts⟩ (c_X10_in l dC dI cI cZ te (p4.toInt64) (0 : Int64) (1 : Int64) r7 hg8) (va_cwS 3 hts (gS kw_157 kw_158 kw_159 kw_160) rfl rfl rfl (by decide +kernel) ⟨Nat.le_of_ble_eq_true rfl, Nat.le_of_ble_eq_true rfl⟩) (kS_env te) hK hP hD hS hA hE [] [0, 1] [0, 1] rfl rfl (by decide) (by decide) (by decide) (by decide) rfl rfl hl.1 rfl (Nat.le_of_ble_eq_true rfl) dX10_shore_25 ⟨Nat.zero_le _, Nat.zero_le _⟩ (fun H locs hP hD hS => ?_)
      show W p l e rmX10_shore s m args below meth c H locs 0 0 Q (F0 m 28 ls [.int r7])
      refine lv_if_ne (tgt := 34) hx hb dX10_shore_28 (by decide) (fun c9 => ?_) (fun c9 => ?_)
      · replace hf := ifn c9 hf
        refine lv_iload_n hx hb dX10_shore_34 rfl (lv_at hl 1 rfl) ?_
        refine lv_iload_n hx hb dX10_shore_35 rfl (lv_at hl 3 rfl) ?_
        refine lv_isub hx hb dX10_shore_36 ?_
        refine lv_iload_n hx hb dX10_shore_37 rfl (lv_at hl 2 rfl) ?_
        obtain ⟨x10, hg, hf⟩ := bd1_some hf
        have J11 : ∀ (H : Heap) (locs : List Loc), va_P (dC, dI) vwCl [(h_t, .inr (8, fX10 h_t_book h_t_images h_t_kept h_t_aside h_t_far h_t_then h_t_row h_t_mays h_t_firstRow h_t_low h_t_high t_noOlder t_thanThis t_known t_knownAge t_moved h_t_lowOne h_t_highOne h_t_ways t_met h_t_left t_hours t_greatest h_t_text t_typed t_at t_start t_token t_value h_t_verbs h_t_nums t_items)), (h_t_book, .inl (cI, 460, .inl t_book))] H → va_D A [(h_t, .inr (8, fX10 h_t_book h_t_images h_t_kept h_t_aside h_t_far h_t_then h_t_row h_t_mays h_t_firstRow h_t_low h_t_high t_noOlder t_thanThis t_known t_knownAge t_moved h_t_lowOne h_t_highOne h_t_ways t_met h_t_left t_hours t_greatest h_t_text t_typed t_at t_start t_token t_value h_t_verbs h_t_nums t_items)), (h_t_book, .inl (cI, 460, .inl t_book))] → va_S A s.heap H locs → ∀ ls : Array Slot, lv_has ls 7 [(0, .ref h_t), (1, .int p1), (2, .int p2), (3, .int p3), (4, .int p4)] → W p l e rmX10_shore s m args below meth c H locs 0 0 Q (F0 m 50 ls [.int x10]) := by
          intro H locs hP hD hS ls hl
          refine lv_istore (lv' := [(5, .int x10), (0, .ref h_t), (1, .int p1), (2, .int p2), (3, .int p3), (4, .int p4)]) hx hb dX10_shore_50 hl (by decide) rfl (fun ls hl => ?_)
          refine lv_iload_n hx hb dX10_shore_52 rfl (lv_at hl 2 rfl) ?_
          refine lv_iload_n hx hb dX10_shore_53 rfl (lv_at hl 4 rfl) ?_
          refine lv_iadd hx hb dX10_shore_54 ?_
          refine lv_bipush (v := (20 : Int32)) hx hb dX10_shore_55 (by decide) ?_
          obtain ⟨x12, hg, hf⟩ := bd1_some hf
          have J13 : ∀ (H : Heap) (locs : List Loc), va_P (dC, dI) vwCl [(h_t, .inr (8, fX10 h_t_book h_t_images h_t_kept h_t_aside h_t_far h_t_then h_t_row h_t_mays h_t_firstRow h_t_low h_t_high t_noOlder t_thanThis t_known t_knownAge t_moved h_t_lowOne h_t_highOne h_t_ways t_met h_t_left t_hours t_greatest h_t_text t_typed t_at t_start t_token t_value h_t_verbs h_t_nums t_items)), (h_t_book, .inl (cI, 460, .inl t_book))] H → va_D A [(h_t, .inr (8, fX10 h_t_book h_t_images h_t_kept h_t_aside h_t_far h_t_then h_t_row h_t_mays h_t_firstRow h_t_low h_t_high t_noOlder t_thanThis t_known t_knownAge t_moved h_t_lowOne h_t_highOne h_t_ways t_met h_t_left t_hours t_greatest h_t_text t_typed t_at t_start t_token t_value h_t_verbs h_t_nums t_items)), (h_t_book, .inl (cI, 460, .inl t_book))] → va_S A s.heap H locs → ∀ ls : Array Slot, lv_has ls 7 [(0, .ref h_t), (2, .int p2), (4, .int p4), (5, .int x10)] → W p l e rmX10_shore s m args below meth c H locs 0 0 Q (F0 m 68 ls [.int x12]) := by
            intro H locs hP hD hS ls hl
            refine lv_istore (lv' := [(6, .int x12), (0, .ref h_t), (2, .int p2), (4, .int p4), (5, .int x10)]) hx hb dX10_shore_68 hl (by decide) rfl (fun ls hl => ?_)
            refine lv_aload_n hx hb dX10_shore_70 rfl (lv_at hl 1 rfl) ?_
            refine lv_iload hx hb dX10_shore_71 (lv_at hl 3 rfl) ?_
            obtain ⟨x14, hg, hf⟩ := bd1_some hf
            have J15 : ∀ (H : Heap) (locs : List Loc), va_P (dC, dI) vwCl [(h_t, .inr (8, fX10 h_t_book h_t_images h_t_kept h_t_aside h_t_far h_t_then h_t_row h_t_mays h_t_firstRow h_t_low h_t_high t_noOlder t_thanThis t_known t_knownAge t_moved h_t_lowOne h_t_highOne h_t_ways t_met h_t_left t_hours t_greatest h_t_text t_typed t_at t_start t_token t_value h_t_verbs h_t_nums t_items)), (h_t_book, .inl (cI, 460, .inl t_book))] H → va_D A [(h_t, .inr (8, fX10 h_t_book h_t_images h_t_kept h_t_aside h_t_far h_t_then h_t_row h_t_mays h_t_firstRow h_t_low h_t_high t_noOlder t_thanThis t_known t_knownAge t_moved h_t_lowOne h_t_highOne h_t_ways t_met h_t_left t_hours t_greatest h_t_text t_typed t_at t_start t_token t_value h_t_verbs h_t_nums t_items)), (h_t_book, .inl (cI, 460, .inl t_book))] → va_S A s.heap H locs → ∀ ls : Array Slot, lv_has ls 7 [(2, .int p2)] → W p l e rmX10_shore s m args below meth c H locs 0 0 Q (F0 m 83 ls [.int x14, .ref h_t]) := by
              intro H locs hP hD hS ls hl
              refine lv_iload_n hx hb dX10_shore_83 rfl (lv_at hl 0 rfl) ?_
              obtain ⟨r16, hg17, hf⟩ := bd1_some hf
              refine CM_callV (C := RX10) (As := [.int x14, .int p2]) (rest := []) (wc := [(h_t, .inr (8, fX10 h_t_book h_t_images h_t_kept h_t_aside h_t_far h_t_then h_t_row h_t_mays h_t_firstRow h_t_low h_t_high t_noOlder t_thanThis t_known t_knownAge t_moved h_t_lowOne h_t_highOne h_t_ways t_met h_t_left t_hours t_greatest h_t_text t_typed t_at t_start t_token t_value h_t_verbs h_t_nums t_items)), (h_t_book, .inl (cI, 460, .inl t_book))]) (w1 := [(h_t, .inr (8, fX10 h_t_book h_t_images h_t_kept h_t_aside h_t_far h_t_then h_t_row h_t_mays h_t_firstRow h_t_low h_t_high t_noOlder t_thanThis t_known t_knownAge t_moved h_t_lowOne h_t_highOne h_t_ways t_met h_t_left t_hours t_greatest h_t_text t_typed t_at t_start t_token t_value h_t_verbs h_t_nums t_items)), (h_t_book, .inl (cI, 460, .inl t_book))]) (wr := []) (wo := [(h_t, .inr (8, fX10 h_t_book h_t_images h_t_kept h_t_aside h_t_far h_t_then h_t_row h_t_mays h_t_firstRow h_t_low h_t_high t_noOlder t_thanThis t_known t_knownAge t_moved h_t_lowOne h_t_highOne h_t_ways t_met h_t_left t_hours t_greatest h_t_text t_typed t_at t_start t_token t_value h_t_verbs h_t_nums t_items)), (h_t_book, .inl (cI, 460, .inl t_book))]) (v := (some (.int r16))) ⟨hx, hb, hml, hown, hts⟩ (c_X10_volume l dC dI cI cZ te h_t h_t_book h_t_images h_t_kept h_t_aside h_t_far h_t_then h_t_row h_t_mays h_t_firstRow h_t_low h_t_high h_t_lowOne h_t_highOne h_t_ways h_t_left h_t_text h_t_verbs h_t_nums t_noOlder t_thanThis t_known t_knownAge t_moved t_met t_hours t_greatest t_typed t_at t_start t_token t_value t_items t_book x14 p2 r16 hg17) (cwV 2 hts (gV kw_301 kw_302 kw_303 kw_159 kw_304) rfl rfl rfl (by decide +kernel) ⟨Nat.le_of_ble_eq_true rfl, Nat.le_of_ble_eq_true rfl⟩) (kS_env te) hK hP hD hS hA hE [0, 1] [] [0, 1] rfl rfl (by decide) (by decide) (by decide) (by decide) rfl 0 8 rfl rfl rfl rfl hl.1 rfl (Nat.le_of_ble_eq_true rfl) dX10_shore_84 ⟨Nat.zero_le _, Nat.zero_le _⟩ (fun H locs hP hD hS => ?_)
              show W p l e rmX10_shore s m args below meth c H locs 0 0 Q (F0 m 87 ls [.int r16])
              obtain rfl := inj1 hf
              subst hQ
              exact CM_iret hx hb hr rfl hlocks hAe hP hD hS dX10_shore_87
            clear hf
            have hf := hg
            refine lv_if_ne (tgt := 81) hx hb dX10_shore_73 (by decide) (fun c18 => ?_) (fun c18 => ?_)
            · replace hf := ifn c18 hf
              refine lv_iload hx hb dX10_shore_81 (lv_at hl 0 rfl) ?_
              obtain rfl := inj1 hf
              exact J15 _ _ hP hD hS _ (lv_sub hl [2] rfl)
            · replace hf := ifp c18 hf
              refine lv_iload hx hb dX10_shore_76 (lv_at hl 4 rfl) ?_
              refine lv_goto (tgt := 83) hx hb dX10_shore_78 (by decide) ?_
              obtain rfl := inj1 hf
              exact J15 _ _ hP hD hS _ (lv_sub hl [2] rfl)
          clear hf
          have hf := hg
          refine lv_icmp_ge (tgt := 66) hx hb dX10_shore_57 (by decide) (fun c19 => ?_) (fun c19 => ?_)
          · replace hf := ifp c19 hf
            refine lv_bipush (v := (20 : Int32)) hx hb dX10_shore_66 (by decide) ?_
            obtain rfl := inj1 hf
            exact J13 _ _ hP hD hS _ (lv_sub hl [1, 3, 5, 0] rfl)
          · replace hf := ifn c19 hf
            refine lv_iload_n hx hb dX10_shore_60 rfl (lv_at hl 2 rfl) ?_
            refine lv_iload_n hx hb dX10_shore_61 rfl (lv_at hl 4 rfl) ?_
            refine lv_iadd hx hb dX10_shore_62 ?_
            refine lv_goto (tgt := 68) hx hb dX10_shore_63 (by decide) ?_
            obtain rfl := inj1 hf
            exact J13 _ _ hP hD hS _ (lv_sub hl [1, 3, 5, 0] rfl)
        clear hf
        have hf := hg
        refine lv_icmp_le (tgt := 47) hx hb dX10_shore_38 (by decide) (fun c20 => ?_) (fun c20 => ?_)
        · replace hf := ifp c20 hf
          refine lv_iload_n hx hb dX10_shore_47 rfl (lv_at hl 2 rfl) ?_
          refine lv_iconst (v := (1 : Int32)) hx hb dX10_shore_48 (by decide) ?_
          refine lv_iadd hx hb dX10_shore_49 ?_
          obtain rfl := inj1 hf
          exact J11 _ _ hP hD hS _ (lv_sub hl [0, 1, 2, 3, 4] rfl)
        · replace hf := ifn c20 hf
          refine lv_iload_n hx hb dX10_shore_41 rfl (lv_at hl 1 rfl) ?_
          refine lv_iload_n hx hb dX10_shore_42 rfl (lv_at hl 3 rfl) ?_
          refine lv_isub hx hb dX10_shore_43 ?_
          refine lv_goto (tgt := 50) hx hb dX10_shore_44 (by decide) ?_
          obtain rfl := inj1 hf
          exact J11 _ _ hP hD hS _ (lv_sub hl [0, 1, 2, 3, 4] rfl)
      · replace hf := ifp c9 hf
        refine lv_bipush (v := (-2 : Int32)) hx hb dX10_shore_31 (by decide) ?_
        obtain rfl := inj1 hf
        subst hQ
        exact CM_iret hx hb hr rfl hlocks hAe hP hD hS dX10_shore_33
def rmX10_zone : Room := { frames := 1, cells := 0, slots := 0, locals := 25 }
abbrev wqX10_zone : List Cond := Cond.code yX10_zone cX10_zone 3 (some .int) :: tG
set_option maxHeartbeats 4000000 in
set_option maxRecDepth 100000 in
theorem c_X10_zone (l : Launch) (dC : Nat → ClassId) (dI : Nat → Nat → Nat) (cI cZ : ClassId) (te : Nat → Nat) (h_t : Nat) (h_t_book : Nat) (h_t_images : Nat) (h_t_kept : Nat) (h_t_aside : Nat) (h_t_far : Nat) (h_t_then : Nat) (h_t_row : Nat) (h_t_mays : Nat) (h_t_firstRow : Nat) (h_t_low : Nat) (h_t_high : Nat) (h_t_lowOne : Nat) (h_t_highOne : Nat) (h_t_ways : Nat) (h_t_left : Nat) (h_t_text : Nat) (h_t_verbs : Nat) (h_t_nums : Nat) (t_noOlder : Int32) (t_thanThis : Int32) (t_known : Int32) (t_knownAge : Int32) (t_moved : Int32) (t_met : Int32) (t_hours : Int32) (t_greatest : Int32) (t_typed : Int32) (t_at : Int32) (t_start : Int32) (t_token : Int32) (t_value : Int32) (t_items : Int32) (t_book : Nat → Int32) (p1 : Int32) (p2 : Int32) (o0 : Int32) (o1 : Nat → Int32) (hf : f_X10_zone t_book p1 p2 = some (o0, o1)) : CM l yX10_zone wqX10_zone rmX10_zone (kS te) dC dI cI cZ [.ref h_t, .int p1, .int p2] [(h_t, .inr (8, fX10 h_t_book h_t_images h_t_kept h_t_aside h_t_far h_t_then h_t_row h_t_mays h_t_firstRow h_t_low h_t_high t_noOlder t_thanThis t_known t_knownAge t_moved h_t_lowOne h_t_highOne h_t_ways t_met h_t_left t_hours t_greatest h_t_text t_typed t_at t_start t_token t_value h_t_verbs h_t_nums t_items)), (h_t_book, .inl (cI, 460, .inl t_book))] [(h_t, .inr (8, fX10 h_t_book h_t_images h_t_kept h_t_aside h_t_far h_t_then h_t_row h_t_mays h_t_firstRow h_t_low h_t_high t_noOlder t_thanThis t_known t_knownAge t_moved h_t_lowOne h_t_highOne h_t_ways t_met h_t_left t_hours t_greatest h_t_text t_typed t_at t_start t_token t_value h_t_verbs h_t_nums t_items)), (h_t_book, .inl (cI, 460, .inl o1))] (some (.int o0)) := by
  refine CM_of (cc := cX10_zone) (maxL := 3) (ret := (some .int)) (by decide +kernel) rfl (Nat.le_of_ble_eq_true rfl) ?_
  intro p e s m args below meth c A Q hx hb hr hml hown hts hlocks hA hK hP hD hS hE hQ hAe ls hl
  have hown : s.vm.findClass RX10 = some m.cls := hown
  have hl : lv_has ls 3 [(0, .ref h_t), (1, .int p1), (2, .int p2)] := hl
  unfold f_X10_zone at hf
  refine lv_iload_n hx hb dX10_zone_0 rfl (lv_at hl 1 rfl) ?_
  refine lv_i2l hx hb dX10_zone_1 rfl ?_
  refine lv_lconst (v := (0 : Int64)) hx hb dX10_zone_2 (by decide) ?_
  refine lv_ldc2 (v := (20 : Int64)) hx hb hown (hts _ (List.mem_cons_of_mem _ kw_216)) dX10_zone_3 ?_
  obtain ⟨r1, hg2, hf⟩ := bd1_some hf
  refine CM_callS (As := [.long p1.toInt64, .long (0 : Int64), .long (20 : Int64)]) (rest := []) (wc := []) (w1 := []) (wr := [(h_t, .inr (8, fX10 h_t_book h_t_images h_t_kept h_t_aside h_t_far h_t_then h_t_row h_t_mays h_t_firstRow h_t_low h_t_high t_noOlder t_thanThis t_known t_knownAge t_moved h_t_lowOne h_t_highOne h_t_ways t_met h_t_left t_hours t_greatest h_t_text t_typed t_at t_start t_token t_value h_t_verbs h_t_nums t_items)), (h_t_book, .inl (cI, 460, .inl t_book))]) (wo := [(h_t, .inr (8, fX10 h_t_book h_t_images h_t_kept h_t_aside h_t_far h_t_then h_t_row h_t_mays h_t_firstRow h_t_low h_t_high t_noOlder t_thanThis t_known t_knownAge t_moved h_t_lowOne h_t_highOne h_t_ways t_met h_t_left t_hours t_greatest h_t_text t_typed t_at t_start t_token t_value h_t_verbs h_t_nums t_items)), (h_t_book, .inl (cI, 460, .inl t_book))]) (v := (some (.int r1))) ⟨hx, hb, hml, hown, hts⟩ (c_X10_in l dC dI cI cZ te (p1.toInt64) (0 : Int64) (20 : Int64) r1 hg2) (va_cwS 3 hts (gS kw_157 kw_158 kw_159 kw_160) rfl rfl rfl (by decide +kernel) ⟨Nat.le_of_ble_eq_true rfl, Nat.le_of_ble_eq_true rfl⟩) (kS_env te) hK hP hD hS hA hE [] [0, 1] [0, 1] rfl rfl (by decide) (by decide) (by decide) (by decide) rfl rfl hl.1 rfl (Nat.le_of_ble_eq_true rfl) dX10_zone_6 ⟨Nat.zero_le _, Nat.zero_le _⟩ (fun H locs hP hD hS => ?_)
  show W p l e rmX10_zone s m args below meth c H locs 0 0 Q (F0 m 9 ls [.int r1])
  refine lv_if_eq (tgt := 37) hx hb dX10_zone_9 (by decide) (fun c3 => ?_) (fun c3 => ?_)
  · replace hf := ifp c3 hf
    refine lv_bipush (v := (-2 : Int32)) hx hb dX10_zone_37 (by decide) ?_
    obtain ⟨rfl, rfl⟩ := inj2 hf
    subst hQ
    exact CM_iret hx hb hr rfl hlocks hAe hP hD hS dX10_zone_39
  · replace hf := ifn c3 hf
    refine lv_iload_n hx hb dX10_zone_12 rfl (lv_at hl 2 rfl) ?_
    refine lv_i2l hx hb dX10_zone_13 rfl ?_
    refine lv_lconst (v := (0 : Int64)) hx hb dX10_zone_14 (by decide) ?_
    refine lv_ldc2 (v := (60 : Int64)) hx hb hown (hts _ (List.mem_cons_of_mem _ kw_314)) dX10_zone_15 ?_
    obtain ⟨r4, hg5, hf⟩ := bd1_some hf
    refine CM_callS (As := [.long p2.toInt64, .long (0 : Int64), .long (60 : Int64)]) (rest := []) (wc := []) (w1 := []) (wr := [(h_t, .inr (8, fX10 h_t_book h_t_images h_t_kept h_t_aside h_t_far h_t_then h_t_row h_t_mays h_t_firstRow h_t_low h_t_high t_noOlder t_thanThis t_known t_knownAge t_moved h_t_lowOne h_t_highOne h_t_ways t_met h_t_left t_hours t_greatest h_t_text t_typed t_at t_start t_token t_value h_t_verbs h_t_nums t_items)), (h_t_book, .inl (cI, 460, .inl t_book))]) (wo := [(h_t, .inr (8, fX10 h_t_book h_t_images h_t_kept h_t_aside h_t_far h_t_then h_t_row h_t_mays h_t_firstRow h_t_low h_t_high t_noOlder t_thanThis t_known t_knownAge t_moved h_t_lowOne h_t_highOne h_t_ways t_met h_t_left t_hours t_greatest h_t_text t_typed t_at t_start t_token t_value h_t_verbs h_t_nums t_items)), (h_t_book, .inl (cI, 460, .inl t_book))]) (v := (some (.int r4))) ⟨hx, hb, hml, hown, hts⟩ (c_X10_in l dC dI cI cZ te (p2.toInt64) (0 : Int64) (60 : Int64) r4 hg5) (va_cwS 3 hts (gS kw_157 kw_158 kw_159 kw_160) rfl rfl rfl (by decide +kernel) ⟨Nat.le_of_ble_eq_true rfl, Nat.le_of_ble_eq_true rfl⟩) (kS_env te) hK hP hD hS hA hE [] [0, 1] [0, 1] rfl rfl (by decide) (by decide) (by decide) (by decide) rfl rfl hl.1 rfl (Nat.le_of_ble_eq_true rfl) dX10_zone_18 ⟨Nat.zero_le _, Nat.zero_le _⟩ (fun H locs hP hD hS => ?_)
    show W p l e rmX10_zone s m args below meth c H locs 0 0 Q (F0 m 21 ls [.int r4])
    refine lv_if_eq (tgt := 37) hx hb dX10_zone_21 (by decide) (fun c6 => ?_) (fun c6 => ?_)
    · replace hf := ifp c6 hf
      refine lv_bipush (v := (-2 : Int32)) hx hb dX10_zone_37 (by decide) ?_
      obtain ⟨rfl, rfl⟩ := inj2 hf
      subst hQ
      exact CM_iret hx hb hr rfl hlocks hAe hP hD hS dX10_zone_39
    · replace hf := ifn c6 hf
      refine lv_aload_n hx hb dX10_zone_24 rfl (lv_at hl 0 rfl) ?_
      refine lv_sipush (v := (430 : Int32)) hx hb dX10_zone_25 (by decide) ?_
      refine lv_iload_n hx hb dX10_zone_28 rfl (lv_at hl 1 rfl) ?_
      refine lv_iadd hx hb dX10_zone_29 ?_
      refine lv_iload_n hx hb dX10_zone_30 rfl (lv_at hl 2 rfl) ?_
      obtain ⟨r7, y8, hg9, hf⟩ := bd2_some hf
      refine CM_callV (C := RX10) (As := [.int ((430 : Int32) + p1), .int p2]) (rest := []) (wc := [(h_t, .inr (8, fX10 h_t_book h_t_images h_t_kept h_t_aside h_t_far h_t_then h_t_row h_t_mays h_t_firstRow h_t_low h_t_high t_noOlder t_thanThis t_known t_knownAge t_moved h_t_lowOne h_t_highOne h_t_ways t_met h_t_left t_hours t_greatest h_t_text t_typed t_at t_start t_token t_value h_t_verbs h_t_nums t_items)), (h_t_book, .inl (cI, 460, .inl t_book))]) (w1 := [(h_t, .inr (8, fX10 h_t_book h_t_images h_t_kept h_t_aside h_t_far h_t_then h_t_row h_t_mays h_t_firstRow h_t_low h_t_high t_noOlder t_thanThis t_known t_knownAge t_moved h_t_lowOne h_t_highOne h_t_ways t_met h_t_left t_hours t_greatest h_t_text t_typed t_at t_start t_token t_value h_t_verbs h_t_nums t_items)), (h_t_book, .inl (cI, 460, .inl y8))]) (wr := []) (wo := [(h_t, .inr (8, fX10 h_t_book h_t_images h_t_kept h_t_aside h_t_far h_t_then h_t_row h_t_mays h_t_firstRow h_t_low h_t_high t_noOlder t_thanThis t_known t_knownAge t_moved h_t_lowOne h_t_highOne h_t_ways t_met h_t_left t_hours t_greatest h_t_text t_typed t_at t_start t_token t_value h_t_verbs h_t_nums t_items)), (h_t_book, .inl (cI, 460, .inl y8))]) (v := (some (.int r7))) ⟨hx, hb, hml, hown, hts⟩ (c_X10_sets l dC dI cI cZ te h_t h_t_book h_t_images h_t_kept h_t_aside h_t_far h_t_then h_t_row h_t_mays h_t_firstRow h_t_low h_t_high h_t_lowOne h_t_highOne h_t_ways h_t_left h_t_text h_t_verbs h_t_nums t_noOlder t_thanThis t_known t_knownAge t_moved t_met t_hours t_greatest t_typed t_at t_start t_token t_value t_items t_book ((430 : Int32) + p1) p2 r7 y8 hg9) (cwV 2 hts (gV kw_169 kw_170 kw_171 kw_159 kw_172) rfl rfl rfl (by decide +kernel) ⟨Nat.le_of_ble_eq_true rfl, Nat.le_of_ble_eq_true rfl⟩) (kS_env te) hK hP hD hS hA hE [0, 1] [] [0, 1] rfl rfl (by decide) (by decide) (by decide) (by decide) rfl 0 8 rfl rfl rfl rfl hl.1 rfl (Nat.le_of_ble_eq_true rfl) dX10_zone_31 ⟨Nat.zero_le _, Nat.zero_le _⟩ (fun H locs hP hD hS => ?_)
      show W p l e rmX10_zone s m args below meth c H locs 0 0 Q (F0 m 34 ls [.int r7])
      refine lv_goto (tgt := 39) hx hb dX10_zone_34 (by decide) ?_
      obtain ⟨rfl, rfl⟩ := inj2 hf
      subst hQ
      exact CM_iret hx hb hr rfl hlocks hAe hP hD hS dX10_zone_39
def rmX10_stands : Room := { frames := 0, cells := 0, slots := 0, locals := 0 }
abbrev wqX10_stands : List Cond := Cond.code yX10_stands cX10_stands 7 (some .int) :: tG
set_option maxHeartbeats 4000000 in
set_option maxRecDepth 100000 in
theorem c_X10_stands (l : Launch) (dC : Nat → ClassId) (dI : Nat → Nat → Nat) (cI cZ : ClassId) (te : Nat → Nat) (h_t : Nat) (h_t_book : Nat) (h_t_images : Nat) (h_t_kept : Nat) (h_t_aside : Nat) (h_t_far : Nat) (h_t_then : Nat) (h_t_row : Nat) (h_t_mays : Nat) (h_t_firstRow : Nat) (h_t_low : Nat) (h_t_high : Nat) (h_t_lowOne : Nat) (h_t_highOne : Nat) (h_t_ways : Nat) (h_t_left : Nat) (h_t_text : Nat) (h_t_verbs : Nat) (h_t_nums : Nat) (t_noOlder : Int32) (t_thanThis : Int32) (t_known : Int32) (t_knownAge : Int32) (t_moved : Int32) (t_met : Int32) (t_hours : Int32) (t_greatest : Int32) (t_typed : Int32) (t_at : Int32) (t_start : Int32) (t_token : Int32) (t_value : Int32) (t_items : Int32) (t_book : Nat → Int32) (p1 : Int32) (p2 : Int32) (o0 : Int32) (hf : f_X10_stands t_book p1 p2 = some o0) : CM l yX10_stands wqX10_stands rmX10_stands (kS te) dC dI cI cZ [.ref h_t, .int p1, .int p2] [(h_t, .inr (8, fX10 h_t_book h_t_images h_t_kept h_t_aside h_t_far h_t_then h_t_row h_t_mays h_t_firstRow h_t_low h_t_high t_noOlder t_thanThis t_known t_knownAge t_moved h_t_lowOne h_t_highOne h_t_ways t_met h_t_left t_hours t_greatest h_t_text t_typed t_at t_start t_token t_value h_t_verbs h_t_nums t_items)), (h_t_book, .inl (cI, 460, .inl t_book))] [(h_t, .inr (8, fX10 h_t_book h_t_images h_t_kept h_t_aside h_t_far h_t_then h_t_row h_t_mays h_t_firstRow h_t_low h_t_high t_noOlder t_thanThis t_known t_knownAge t_moved h_t_lowOne h_t_highOne h_t_ways t_met h_t_left t_hours t_greatest h_t_text t_typed t_at t_start t_token t_value h_t_verbs h_t_nums t_items)), (h_t_book, .inl (cI, 460, .inl t_book))] (some (.int o0)) := by
  refine CM_of (cc := cX10_stands) (maxL := 7) (ret := (some .int)) (by decide +kernel) rfl (Nat.le_of_ble_eq_true rfl) ?_
  intro p e s m args below meth c A Q hx hb hr hml hown hts hlocks hA hK hP hD hS hE hQ hAe ls hl
  have hown : s.vm.findClass RX10 = some m.cls := hown
  have hl : lv_has ls 7 [(0, .ref h_t), (1, .int p1), (2, .int p2)] := hl
  unfold f_X10_stands at hf
  refine lv_iconst (v := (0 : Int32)) hx hb dX10_stands_0 (by decide) ?_
  refine lv_istore_n (lv' := [(3, .int (0 : Int32)), (0, .ref h_t), (1, .int p1), (2, .int p2)]) hx hb dX10_stands_1 rfl hl (by decide) rfl (fun ls hl => ?_)
  refine lv_iconst (v := (-1 : Int32)) hx hb dX10_stands_2 (by decide) ?_
  refine lv_istore (lv' := [(4, .int (-1 : Int32)), (3, .int (0 : Int32)), (0, .ref h_t), (1, .int p1), (2, .int p2)]) hx hb dX10_stands_3 hl (by decide) rfl (fun ls hl => ?_)
  refine lv_iconst (v := (0 : Int32)) hx hb dX10_stands_5 (by decide) ?_
  refine lv_istore (lv' := [(5, .int (0 : Int32)), (4, .int (-1 : Int32)), (3, .int (0 : Int32)), (0, .ref h_t), (1, .int p1), (2, .int p2)]) hx hb dX10_stands_6 hl (by decide) rfl (fun ls hl => ?_)
  have L33 : ∀ (fu20 : Nat) (x16 : Int32) (x17 : Int32) (x18 : Int32) (x15 : Int32), f_X10_stands_L1 p1 t_book p2 fu20 x16 x17 x18 = some x15 → (∀ (H : Heap) (locs : List Loc), va_P (dC, dI) vwCl [(h_t, .inr (8, fX10 h_t_book h_t_images h_t_kept h_t_aside h_t_far h_t_then h_t_row h_t_mays h_t_firstRow h_t_low h_t_high t_noOlder t_thanThis t_known t_knownAge t_moved h_t_lowOne h_t_highOne h_t_ways t_met h_t_left t_hours t_greatest h_t_text t_typed t_at t_start t_token t_value h_t_verbs h_t_nums t_items)), (h_t_book, .inl (cI, 460, .inl t_book))] H → va_D A [(h_t, .inr (8, fX10 h_t_book h_t_images h_t_kept h_t_aside h_t_far h_t_then h_t_row h_t_mays h_t_firstRow h_t_low h_t_high t_noOlder t_thanThis t_known t_knownAge t_moved h_t_lowOne h_t_highOne h_t_ways t_met h_t_left t_hours t_greatest h_t_text t_typed t_at t_start t_token t_value h_t_verbs h_t_nums t_items)), (h_t_book, .inl (cI, 460, .inl t_book))] → va_S A s.heap H locs → ∀ ls : Array Slot, lv_has ls 7 [(4, .int x15)] → W p l e rmX10_stands s m args below meth c H locs 0 0 Q (F0 m 73 ls [])) → ∀ (H : Heap) (locs : List Loc), va_P (dC, dI) vwCl [(h_t, .inr (8, fX10 h_t_book h_t_images h_t_kept h_t_aside h_t_far h_t_then h_t_row h_t_mays h_t_firstRow h_t_low h_t_high t_noOlder t_thanThis t_known t_knownAge t_moved h_t_lowOne h_t_highOne h_t_ways t_met h_t_left t_hours t_greatest h_t_text t_typed t_at t_start t_token t_value h_t_verbs h_t_nums t_items)), (h_t_book, .inl (cI, 460, .inl t_book))] H → va_D A [(h_t, .inr (8, fX10 h_t_book h_t_images h_t_kept h_t_aside h_t_far h_t_then h_t_row h_t_mays h_t_firstRow h_t_low h_t_high t_noOlder t_thanThis t_known t_knownAge t_moved h_t_lowOne h_t_highOne h_t_ways t_met h_t_left t_hours t_greatest h_t_text t_typed t_at t_start t_token t_value h_t_verbs h_t_nums t_items)), (h_t_book, .inl (cI, 460, .inl t_book))] → va_S A s.heap H locs → ∀ ls : Array Slot, lv_has ls 7 [(0, .ref h_t), (1, .int p1), (2, .int p2), (3, .int x16), (4, .int x17), (5, .int x18)] → W p l e rmX10_stands s m args below meth c H locs 0 0 Q (F0 m 8 ls []) := by
    intro fu20
    induction fu20 with
    | zero =>
      intro x16 x17 x18 x15 hf
      unfold f_X10_stands_L1 at hf
      exact none_ne hf
    | succ fu20 ih19 =>
      intro x16 x17 x18 x15 hf hX21 H locs hP hD hS ls hl
      unfold f_X10_stands_L1 at hf
      refine lv_iload hx hb dX10_stands_8 (lv_at hl 5 rfl) ?_
      refine lv_bipush (v := (21 : Int32)) hx hb dX10_stands_10 (by decide) ?_
      refine lv_icmp_ge (tgt := 73) hx hb dX10_stands_12 (by decide) (fun c22 => ?_) (fun c22 => ?_)
      · replace hf := ifp c22 hf
        obtain rfl := inj1 hf
        exact hX21 _ _ hP hD hS _ (lv_sub hl [4] rfl)
      · replace hf := ifn c22 hf
        refine lv_iload_n hx hb dX10_stands_15 rfl (lv_at hl 1 rfl) ?_
        refine lv_aload_n hx hb dX10_stands_16 rfl (lv_at hl 0 rfl) ?_
        refine va_get (D := (dC, dI)) (ci := 8) (v := .ref h_t_book) (C := RX10) (T := TX10) (N := 32) hx hb hts (in1 tw_X10) hown hK hP 0 rfl rfl 0 (by decide) (hts _ (List.mem_cons_of_mem _ kw_116)) (fun _ h9 => h9) rfl dX10_stands_17 ?_
        refine lv_sipush (v := (430 : Int32)) hx hb dX10_stands_20 (by decide) ?_
        refine lv_iload hx hb dX10_stands_23 (lv_at hl 5 rfl) ?_
        refine lv_iadd hx hb dX10_stands_25 ?_
        obtain ⟨g23, hf⟩ := chk_some hf
        refine va_iald hx hb hK hP 1 0 rfl rfl (gin_in g23) dX10_stands_26 ?_
        refine lv_isub hx hb dX10_stands_27 ?_
        obtain ⟨x24, e25, hf⟩ := nm_some hf
        refine lv_tope e25 ?_
        refine lv_istore (lv' := [(6, .int x24), (0, .ref h_t), (1, .int p1), (2, .int p2), (3, .int x16), (4, .int x17), (5, .int x18)]) hx hb dX10_stands_28 hl (by decide) rfl (fun ls hl => ?_)
        refine lv_iload_n hx hb dX10_stands_30 rfl (lv_at hl 4 rfl) ?_
        refine lv_iload_n hx hb dX10_stands_31 rfl (lv_at hl 3 rfl) ?_
        refine lv_iload hx hb dX10_stands_32 (lv_at hl 0 rfl) ?_
        obtain ⟨x26, hg, hf⟩ := bd1_some hf
        have J27 : ∀ (H : Heap) (locs : List Loc), va_P (dC, dI) vwCl [(h_t, .inr (8, fX10 h_t_book h_t_images h_t_kept h_t_aside h_t_far h_t_then h_t_row h_t_mays h_t_firstRow h_t_low h_t_high t_noOlder t_thanThis t_known t_knownAge t_moved h_t_lowOne h_t_highOne h_t_ways t_met h_t_left t_hours t_greatest h_t_text t_typed t_at t_start t_token t_value h_t_verbs h_t_nums t_items)), (h_t_book, .inl (cI, 460, .inl t_book))] H → va_D A [(h_t, .inr (8, fX10 h_t_book h_t_images h_t_kept h_t_aside h_t_far h_t_then h_t_row h_t_mays h_t_firstRow h_t_low h_t_high t_noOlder t_thanThis t_known t_knownAge t_moved h_t_lowOne h_t_highOne h_t_ways t_met h_t_left t_hours t_greatest h_t_text t_typed t_at t_start t_token t_value h_t_verbs h_t_nums t_items)), (h_t_book, .inl (cI, 460, .inl t_book))] → va_S A s.heap H locs → ∀ ls : Array Slot, lv_has ls 7 [(0, .ref h_t), (1, .int p1), (2, .int p2), (4, .int x17), (5, .int x18)] → W p l e rmX10_stands s m args below meth c H locs 0 0 Q (F0 m 51 ls [.int x26, .int p2, .int x16]) := by
          intro H locs hP hD hS ls hl
          refine lv_isub hx hb dX10_stands_51 ?_
          refine lv_iadd hx hb dX10_stands_52 ?_
          obtain ⟨x28, e29, hf⟩ := nm_some hf
          refine lv_tope e29 ?_
          refine lv_istore_n (lv' := [(3, .int x28), (0, .ref h_t), (1, .int p1), (2, .int p2), (4, .int x17), (5, .int x18)]) hx hb dX10_stands_53 rfl hl (by decide) rfl (fun ls hl => ?_)
          refine lv_iload_n hx hb dX10_stands_54 rfl (lv_at hl 0 rfl) ?_
          refine lv_if_lt (tgt := 63) hx hb dX10_stands_55 (by decide) (fun c30 => ?_) (fun c30 => ?_)
          · replace hf := ifp c30 hf
            refine lv_iload hx hb dX10_stands_63 (lv_at hl 4 rfl) ?_
            refine lv_istore (lv' := [(4, .int x17), (3, .int x28), (0, .ref h_t), (1, .int p1), (2, .int p2), (5, .int x18)]) hx hb dX10_stands_65 hl (by decide) rfl (fun ls hl => ?_)
            refine lv_iinc (v := (x18 + (1 : Int32))) (lv' := [(5, .int (x18 + (1 : Int32))), (4, .int x17), (3, .int x28), (0, .ref h_t), (1, .int p1), (2, .int p2)]) hx hb dX10_stands_67 hl (k := 5) rfl rfl (by decide) rfl (fun ls hl => ?_)
            refine lv_goto (tgt := 8) hx hb dX10_stands_70 (by decide) ?_
            exact ih19 _ _ _ _ hf hX21 _ _ hP hD hS _ (lv_sub hl [3, 4, 5, 2, 1, 0] rfl)
          · replace hf := ifn c30 hf
            refine lv_iload hx hb dX10_stands_58 (lv_at hl 5 rfl) ?_
            refine lv_goto (tgt := 65) hx hb dX10_stands_60 (by decide) ?_
            refine lv_istore (lv' := [(4, .int x18), (3, .int x28), (0, .ref h_t), (1, .int p1), (2, .int p2), (5, .int x18)]) hx hb dX10_stands_65 hl (by decide) rfl (fun ls hl => ?_)
            refine lv_iinc (v := (x18 + (1 : Int32))) (lv' := [(5, .int (x18 + (1 : Int32))), (4, .int x18), (3, .int x28), (0, .ref h_t), (1, .int p1), (2, .int p2)]) hx hb dX10_stands_67 hl (k := 5) rfl rfl (by decide) rfl (fun ls hl => ?_)
            refine lv_goto (tgt := 8) hx hb dX10_stands_70 (by decide) ?_
            exact ih19 _ _ _ _ hf hX21 _ _ hP hD hS _ (lv_sub hl [3, 4, 5, 2, 1, 0] rfl)
        clear hf
        have hf := hg
        refine lv_if_le (tgt := 50) hx hb dX10_stands_34 (by decide) (fun c31 => ?_) (fun c31 => ?_)
        · replace hf := ifp c31 hf
          refine lv_iconst (v := (0 : Int32)) hx hb dX10_stands_50 (by decide) ?_
          obtain rfl := inj1 hf
          exact J27 _ _ hP hD hS _ (lv_sub hl [1, 2, 3, 5, 6] rfl)
        · replace hf := ifn c31 hf
          refine lv_aload_n hx hb dX10_stands_37 rfl (lv_at hl 1 rfl) ?_
          refine va_get (D := (dC, dI)) (ci := 8) (v := .ref h_t_book) (C := RX10) (T := TX10) (N := 32) hx hb hts (in1 tw_X10) hown hK hP 0 rfl rfl 0 (by decide) (hts _ (List.mem_cons_of_mem _ kw_116)) (fun _ h9 => h9) rfl dX10_stands_38 ?_
          refine lv_bipush (v := (9 : Int32)) hx hb dX10_stands_41 (by decide) ?_
          obtain ⟨g32, hf⟩ := chk_some hf
          refine va_iald hx hb hK hP 1 0 rfl rfl (gin_in g32) dX10_stands_43 ?_
          refine lv_iload hx hb dX10_stands_44 (lv_at hl 0 rfl) ?_
          refine lv_imul hx hb dX10_stands_46 ?_
          refine lv_goto (tgt := 51) hx hb dX10_stands_47 (by decide) ?_
          obtain rfl := inj1 hf
          exact J27 _ _ hP hD hS _ (lv_sub hl [1, 2, 3, 5, 6] rfl)
  obtain ⟨x15, hg, hf⟩ := bd1_some hf
  refine L33 FU _ _ _ _ hg ?_ _ _ hP hD hS _ (lv_sub hl [3, 4, 5, 2, 1, 0] rfl)
  · intro H locs hP hD hS ls hl
    refine lv_iload hx hb dX10_stands_73 (lv_at hl 0 rfl) ?_
    obtain rfl := inj1 hf
    subst hQ
    exact CM_iret hx hb hr rfl hlocks hAe hP hD hS dX10_stands_75
def rmX10_isWarm : Room := { frames := 1, cells := 0, slots := 0, locals := 25 }
abbrev wqX10_isWarm : List Cond := Cond.code yX10_isWarm cX10_isWarm 1 (some .boolean) :: tG
set_option maxHeartbeats 4000000 in
set_option maxRecDepth 100000 in
theorem c_X10_isWarm (l : Launch) (dC : Nat → ClassId) (dI : Nat → Nat → Nat) (cI cZ : ClassId) (te : Nat → Nat) (p1 : Int32) (o0 : Int32) (hf : f_X10_isWarm p1 = some o0) : CM l yX10_isWarm wqX10_isWarm rmX10_isWarm (kS te) dC dI cI cZ [.int p1] [] [] (some (.int o0)) := by
  refine CM_of (cc := cX10_isWarm) (maxL := 1) (ret := (some .boolean)) (by decide +kernel) rfl (Nat.le_of_ble_eq_true rfl) ?_
  intro p e s m args below meth c A Q hx hb hr hml hown hts hlocks hA hK hP hD hS hE hQ hAe ls hl
  have hown : s.vm.findClass RX10 = some m.cls := hown
  have hl : lv_has ls 1 [(0, .int p1)] := hl
  unfold f_X10_isWarm at hf
  refine lv_iload_n hx hb dX10_isWarm_0 rfl (lv_at hl 0 rfl) ?_
  refine lv_i2l hx hb dX10_isWarm_1 rfl ?_
  refine lv_lconst (v := (0 : Int64)) hx hb dX10_isWarm_2 (by decide) ?_
  refine lv_ldc2 (v := (60 : Int64)) hx hb hown (hts _ (List.mem_cons_of_mem _ kw_314)) dX10_isWarm_3 ?_
  obtain ⟨r1, hg2, hf⟩ := bd1_some hf
  refine CM_callS (As := [.long p1.toInt64, .long (0 : Int64), .long (60 : Int64)]) (rest := []) (wc := []) (w1 := []) (wr := []) (wo := []) (v := (some (.int r1))) ⟨hx, hb, hml, hown, hts⟩ (c_X10_in l dC dI cI cZ te (p1.toInt64) (0 : Int64) (60 : Int64) r1 hg2) (va_cwS 3 hts (gS kw_157 kw_158 kw_159 kw_160) rfl rfl rfl (by decide +kernel) ⟨Nat.le_of_ble_eq_true rfl, Nat.le_of_ble_eq_true rfl⟩) (kS_env te) hK hP hD hS hA hE [] [] [] rfl rfl (by decide) (by decide) (by decide) (by decide) rfl rfl hl.1 rfl (Nat.le_of_ble_eq_true rfl) dX10_isWarm_6 ⟨Nat.zero_le _, Nat.zero_le _⟩ (fun H locs hP hD hS => ?_)
  show W p l e rmX10_isWarm s m args below meth c H locs 0 0 Q (F0 m 9 ls [.int r1])
  obtain ⟨g3, hf⟩ := chk_some hf
  obtain rfl := inj1 hf
  subst hQ
  exact CM_iret hx hb hr (gz_n g3) hlocks hAe hP hD hS dX10_isWarm_9
def rmX10_ice : Room := { frames := 2, cells := 0, slots := 0, locals := 45 }
abbrev wqX10_ice : List Cond := Cond.code yX10_ice cX10_ice 3 (some .int) :: tG
set_option maxHeartbeats 4000000 in
set_option maxRecDepth 100000 in
theorem c_X10_ice (l : Launch) (dC : Nat → ClassId) (dI : Nat → Nat → Nat) (cI cZ : ClassId) (te : Nat → Nat) (h_t : Nat) (h_t_book : Nat) (h_t_images : Nat) (h_t_kept : Nat) (h_t_aside : Nat) (h_t_far : Nat) (h_t_then : Nat) (h_t_row : Nat) (h_t_mays : Nat) (h_t_firstRow : Nat) (h_t_low : Nat) (h_t_high : Nat) (h_t_lowOne : Nat) (h_t_highOne : Nat) (h_t_ways : Nat) (h_t_left : Nat) (h_t_text : Nat) (h_t_verbs : Nat) (h_t_nums : Nat) (t_noOlder : Int32) (t_thanThis : Int32) (t_known : Int32) (t_knownAge : Int32) (t_moved : Int32) (t_met : Int32) (t_hours : Int32) (t_greatest : Int32) (t_typed : Int32) (t_at : Int32) (t_start : Int32) (t_token : Int32) (t_value : Int32) (t_items : Int32) (t_book : Nat → Int32) (p1 : Int32) (p2 : Int32) (o0 : Int32) (hf : f_X10_ice t_book p1 p2 = some o0) : CM l yX10_ice wqX10_ice rmX10_ice (kS te) dC dI cI cZ [.ref h_t, .int p1, .int p2] [(h_t, .inr (8, fX10 h_t_book h_t_images h_t_kept h_t_aside h_t_far h_t_then h_t_row h_t_mays h_t_firstRow h_t_low h_t_high t_noOlder t_thanThis t_known t_knownAge t_moved h_t_lowOne h_t_highOne h_t_ways t_met h_t_left t_hours t_greatest h_t_text t_typed t_at t_start t_token t_value h_t_verbs h_t_nums t_items)), (h_t_book, .inl (cI, 460, .inl t_book))] [(h_t, .inr (8, fX10 h_t_book h_t_images h_t_kept h_t_aside h_t_far h_t_then h_t_row h_t_mays h_t_firstRow h_t_low h_t_high t_noOlder t_thanThis t_known t_knownAge t_moved h_t_lowOne h_t_highOne h_t_ways t_met h_t_left t_hours t_greatest h_t_text t_typed t_at t_start t_token t_value h_t_verbs h_t_nums t_items)), (h_t_book, .inl (cI, 460, .inl t_book))] (some (.int o0)) := by
  refine CM_of (cc := cX10_ice) (maxL := 3) (ret := (some .int)) (by decide +kernel) rfl (Nat.le_of_ble_eq_true rfl) ?_
  intro p e s m args below meth c A Q hx hb hr hml hown hts hlocks hA hK hP hD hS hE hQ hAe ls hl
  have hown : s.vm.findClass RX10 = some m.cls := hown
  have hl : lv_has ls 3 [(0, .ref h_t), (1, .int p1), (2, .int p2)] := hl
  unfold f_X10_ice at hf
  refine lv_iload_n hx hb dX10_ice_0 rfl (lv_at hl 1 rfl) ?_
  obtain ⟨r1, hg2, hf⟩ := bd1_some hf
  refine CM_callS (As := [.int p1]) (rest := []) (wc := []) (w1 := []) (wr := [(h_t, .inr (8, fX10 h_t_book h_t_images h_t_kept h_t_aside h_t_far h_t_then h_t_row h_t_mays h_t_firstRow h_t_low h_t_high t_noOlder t_thanThis t_known t_knownAge t_moved h_t_lowOne h_t_highOne h_t_ways t_met h_t_left t_hours t_greatest h_t_text t_typed t_at t_start t_token t_value h_t_verbs h_t_nums t_items)), (h_t_book, .inl (cI, 460, .inl t_book))]) (wo := [(h_t, .inr (8, fX10 h_t_book h_t_images h_t_kept h_t_aside h_t_far h_t_then h_t_row h_t_mays h_t_firstRow h_t_low h_t_high t_noOlder t_thanThis t_known t_knownAge t_moved h_t_lowOne h_t_highOne h_t_ways t_met h_t_left t_hours t_greatest h_t_text t_typed t_at t_start t_token t_value h_t_verbs h_t_nums t_items)), (h_t_book, .inl (cI, 460, .inl t_book))]) (v := (some (.int r1))) ⟨hx, hb, hml, hown, hts⟩ (c_X10_isWarm l dC dI cI cZ te p1 r1 hg2) (va_cwS 1 hts (gS kw_315 kw_316 kw_159 kw_317) rfl rfl rfl (by decide +kernel) ⟨Nat.le_of_ble_eq_true rfl, Nat.le_of_ble_eq_true rfl⟩) (kS_env te) hK hP hD hS hA hE [] [0, 1] [0, 1] rfl rfl (by decide) (by decide) (by decide) (by decide) rfl rfl hl.1 rfl (Nat.le_of_ble_eq_true rfl) dX10_ice_1 ⟨Nat.zero_le _, Nat.zero_le _⟩ (fun H locs hP hD hS => ?_)
  show W p l e rmX10_ice s m args below meth c H locs 0 0 Q (F0 m 4 ls [.int r1])
  refine lv_if_eq (tgt := 23) hx hb dX10_ice_4 (by decide) (fun c3 => ?_) (fun c3 => ?_)
  · replace hf := ifp c3 hf
    refine lv_bipush (v := (-10 : Int32)) hx hb dX10_ice_23 (by decide) ?_
    obtain rfl := inj1 hf
    subst hQ
    exact CM_iret hx hb hr rfl hlocks hAe hP hD hS dX10_ice_25
  · replace hf := ifn c3 hf
    refine lv_iload_n hx hb dX10_ice_7 rfl (lv_at hl 2 rfl) ?_
    obtain ⟨r4, hg5, hf⟩ := bd1_some hf
    refine CM_callS (As := [.int p2]) (rest := []) (wc := []) (w1 := []) (wr := [(h_t, .inr (8, fX10 h_t_book h_t_images h_t_kept h_t_aside h_t_far h_t_then h_t_row h_t_mays h_t_firstRow h_t_low h_t_high t_noOlder t_thanThis t_known t_knownAge t_moved h_t_lowOne h_t_highOne h_t_ways t_met h_t_left t_hours t_greatest h_t_text t_typed t_at t_start t_token t_value h_t_verbs h_t_nums t_items)), (h_t_book, .inl (cI, 460, .inl t_book))]) (wo := [(h_t, .inr (8, fX10 h_t_book h_t_images h_t_kept h_t_aside h_t_far h_t_then h_t_row h_t_mays h_t_firstRow h_t_low h_t_high t_noOlder t_thanThis t_known t_knownAge t_moved h_t_lowOne h_t_highOne h_t_ways t_met h_t_left t_hours t_greatest h_t_text t_typed t_at t_start t_token t_value h_t_verbs h_t_nums t_items)), (h_t_book, .inl (cI, 460, .inl t_book))]) (v := (some (.int r4))) ⟨hx, hb, hml, hown, hts⟩ (c_X10_isWarm l dC dI cI cZ te p2 r4 hg5) (va_cwS 1 hts (gS kw_315 kw_316 kw_159 kw_317) rfl rfl rfl (by decide +kernel) ⟨Nat.le_of_ble_eq_true rfl, Nat.le_of_ble_eq_true rfl⟩) (kS_env te) hK hP hD hS hA hE [] [0, 1] [0, 1] rfl rfl (by decide) (by decide) (by decide) (by decide) rfl rfl hl.1 rfl (Nat.le_of_ble_eq_true rfl) dX10_ice_8 ⟨Nat.zero_le _, Nat.zero_le _⟩ (fun H locs hP hD hS => ?_)
    show W p l e rmX10_ice s m args below meth c H locs 0 0 Q (F0 m 11 ls [.int r4])
    refine lv_if_eq (tgt := 23) hx hb dX10_ice_11 (by decide) (fun c6 => ?_) (fun c6 => ?_)
    · replace hf := ifp c6 hf
      refine lv_bipush (v := (-10 : Int32)) hx hb dX10_ice_23 (by decide) ?_
      obtain rfl := inj1 hf
      subst hQ
      exact CM_iret hx hb hr rfl hlocks hAe hP hD hS dX10_ice_25
    · replace hf := ifn c6 hf
      refine lv_aload_n hx hb dX10_ice_14 rfl (lv_at hl 0 rfl) ?_
      refine lv_iload_n hx hb dX10_ice_15 rfl (lv_at hl 1 rfl) ?_
      refine lv_iload_n hx hb dX10_ice_16 rfl (lv_at hl 2 rfl) ?_
      obtain ⟨r7, hg8, hf⟩ := bd1_some hf
      refine CM_callV (C := RX10) (As := [.int p1, .int p2]) (rest := []) (wc := [(h_t, .inr (8, fX10 h_t_book h_t_images h_t_kept h_t_aside h_t_far h_t_then h_t_row h_t_mays h_t_firstRow h_t_low h_t_high t_noOlder t_thanThis t_known t_knownAge t_moved h_t_lowOne h_t_highOne h_t_ways t_met h_t_left t_hours t_greatest h_t_text t_typed t_at t_start t_token t_value h_t_verbs h_t_nums t_items)), (h_t_book, .inl (cI, 460, .inl t_book))]) (w1 := [(h_t, .inr (8, fX10 h_t_book h_t_images h_t_kept h_t_aside h_t_far h_t_then h_t_row h_t_mays h_t_firstRow h_t_low h_t_high t_noOlder t_thanThis t_known t_knownAge t_moved h_t_lowOne h_t_highOne h_t_ways t_met h_t_left t_hours t_greatest h_t_text t_typed t_at t_start t_token t_value h_t_verbs h_t_nums t_items)), (h_t_book, .inl (cI, 460, .inl t_book))]) (wr := []) (wo := [(h_t, .inr (8, fX10 h_t_book h_t_images h_t_kept h_t_aside h_t_far h_t_then h_t_row h_t_mays h_t_firstRow h_t_low h_t_high t_noOlder t_thanThis t_known t_knownAge t_moved h_t_lowOne h_t_highOne h_t_ways t_met h_t_left t_hours t_greatest h_t_text t_typed t_at t_start t_token t_value h_t_verbs h_t_nums t_items)), (h_t_book, .inl (cI, 460, .inl t_book))]) (v := (some (.int r7))) ⟨hx, hb, hml, hown, hts⟩ (c_X10_stands l dC dI cI cZ te h_t h_t_book h_t_images h_t_kept h_t_aside h_t_far h_t_then h_t_row h_t_mays h_t_firstRow h_t_low h_t_high h_t_lowOne h_t_highOne h_t_ways h_t_left h_t_text h_t_verbs h_t_nums t_noOlder t_thanThis t_known t_knownAge t_moved t_met t_hours t_greatest t_typed t_at t_start t_token t_value t_items t_book p1 p2 r7 hg8) (cwV 2 hts (gV kw_318 kw_319 kw_320 kw_159 kw_321) rfl rfl rfl (by decide +kernel) ⟨Nat.le_of_ble_eq_true rfl, Nat.le_of_ble_eq_true rfl⟩) (kS_env te) hK hP hD hS hA hE [0, 1] [] [0, 1] rfl rfl (by decide) (by decide) (by decide) (by decide) rfl 0 8 rfl rfl rfl rfl hl.1 rfl (Nat.le_of_ble_eq_true rfl) dX10_ice_17 ⟨Nat.zero_le _, Nat.zero_le _⟩ (fun H locs hP hD hS => ?_)
      show W p l e rmX10_ice s m args below meth c H locs 0 0 Q (F0 m 20 ls [.int r7])
      refine lv_goto (tgt := 25) hx hb dX10_ice_20 (by decide) ?_
      obtain rfl := inj1 hf
      subst hQ
      exact CM_iret hx hb hr rfl hlocks hAe hP hD hS dX10_ice_25
def rmX10_warm : Room := { frames := 2, cells := 0, slots := 0, locals := 45 }
abbrev wqX10_warm : List Cond := Cond.code yX10_warm cX10_warm 6 (some .int) :: tG
set_option maxHeartbeats 4000000 in
set_option maxRecDepth 100000 in
theorem c_X10_warm (l : Launch) (dC : Nat → ClassId) (dI : Nat → Nat → Nat) (cI cZ : ClassId) (te : Nat → Nat) (h_t : Nat) (h_t_book : Nat) (h_t_images : Nat) (h_t_kept : Nat) (h_t_aside : Nat) (h_t_far : Nat) (h_t_then : Nat) (h_t_row : Nat) (h_t_mays : Nat) (h_t_firstRow : Nat) (h_t_low : Nat) (h_t_high : Nat) (h_t_lowOne : Nat) (h_t_highOne : Nat) (h_t_ways : Nat) (h_t_left : Nat) (h_t_text : Nat) (h_t_verbs : Nat) (h_t_nums : Nat) (t_noOlder : Int32) (t_thanThis : Int32) (t_known : Int32) (t_knownAge : Int32) (t_moved : Int32) (t_met : Int32) (t_hours : Int32) (t_greatest : Int32) (t_typed : Int32) (t_at : Int32) (t_start : Int32) (t_token : Int32) (t_value : Int32) (t_items : Int32) (t_book : Nat → Int32) (p1 : Int32) (p2 : Int32) (p3 : Int32) (o0 : Int32) (hf : f_X10_warm t_book p1 p2 p3 = some o0) : CM l yX10_warm wqX10_warm rmX10_warm (kS te) dC dI cI cZ [.ref h_t, .int p1, .int p2, .int p3] [(h_t, .inr (8, fX10 h_t_book h_t_images h_t_kept h_t_aside h_t_far h_t_then h_t_row h_t_mays h_t_firstRow h_t_low h_t_high t_noOlder t_thanThis t_known t_knownAge t_moved h_t_lowOne h_t_highOne h_t_ways t_met h_t_left t_hours t_greatest h_t_text t_typed t_at t_start t_token t_value h_t_verbs h_t_nums t_items)), (h_t_book, .inl (cI, 460, .inl t_book))] [(h_t, .inr (8, fX10 h_t_book h_t_images h_t_kept h_t_aside h_t_far h_t_then h_t_row h_t_mays h_t_firstRow h_t_low h_t_high t_noOlder t_thanThis t_known t_knownAge t_moved h_t_lowOne h_t_highOne h_t_ways t_met h_t_left t_hours t_greatest h_t_text t_typed t_at t_start t_token t_value h_t_verbs h_t_nums t_items)), (h_t_book, .inl (cI, 460, .inl t_book))] (some (.int o0)) := by
  refine CM_of (cc := cX10_warm) (maxL := 6) (ret := (some .int)) (by decide +kernel) rfl (Nat.le_of_ble_eq_true rfl) ?_
  intro p e s m args below meth c A Q hx hb hr hml hown hts hlocks hA hK hP hD hS hE hQ hAe ls hl
  have hown : s.vm.findClass RX10 = some m.cls := hown
  have hl : lv_has ls 6 [(0, .ref h_t), (1, .int p1), (2, .int p2), (3, .int p3)] := hl
  unfold f_X10_warm at hf
  refine lv_iload_n hx hb dX10_warm_0 rfl (lv_at hl 1 rfl) ?_
  refine lv_i2l hx hb dX10_warm_1 rfl ?_
  refine lv_lconst (v := (0 : Int64)) hx hb dX10_warm_2 (by decide) ?_
  refine lv_ldc2 (v := (20 : Int64)) hx hb hown (hts _ (List.mem_cons_of_mem _ kw_216)) dX10_warm_3 ?_
  obtain ⟨r1, hg2, hf⟩ := bd1_some hf
  refine CM_callS (As := [.long p1.toInt64, .long (0 : Int64), .long (20 : Int64)]) (rest := []) (wc := []) (w1 := []) (wr := [(h_t, .inr (8, fX10 h_t_book h_t_images h_t_kept h_t_aside h_t_far h_t_then h_t_row h_t_mays h_t_firstRow h_t_low h_t_high t_noOlder t_thanThis t_known t_knownAge t_moved h_t_lowOne h_t_highOne h_t_ways t_met h_t_left t_hours t_greatest h_t_text t_typed t_at t_start t_token t_value h_t_verbs h_t_nums t_items)), (h_t_book, .inl (cI, 460, .inl t_book))]) (wo := [(h_t, .inr (8, fX10 h_t_book h_t_images h_t_kept h_t_aside h_t_far h_t_then h_t_row h_t_mays h_t_firstRow h_t_low h_t_high t_noOlder t_thanThis t_known t_knownAge t_moved h_t_lowOne h_t_highOne h_t_ways t_met h_t_left t_hours t_greatest h_t_text t_typed t_at t_start t_token t_value h_t_verbs h_t_nums t_items)), (h_t_book, .inl (cI, 460, .inl t_book))]) (v := (some (.int r1))) ⟨hx, hb, hml, hown, hts⟩ (c_X10_in l dC dI cI cZ te (p1.toInt64) (0 : Int64) (20 : Int64) r1 hg2) (va_cwS 3 hts (gS kw_157 kw_158 kw_159 kw_160) rfl rfl rfl (by decide +kernel) ⟨Nat.le_of_ble_eq_true rfl, Nat.le_of_ble_eq_true rfl⟩) (kS_env te) hK hP hD hS hA hE [] [0, 1] [0, 1] rfl rfl (by decide) (by decide) (by decide) (by decide) rfl rfl hl.1 rfl (Nat.le_of_ble_eq_true rfl) dX10_warm_6 ⟨Nat.zero_le _, Nat.zero_le _⟩ (fun H locs hP hD hS => ?_)
  show W p l e rmX10_warm s m args below meth c H locs 0 0 Q (F0 m 9 ls [.int r1])
  refine lv_if_eq (tgt := 29) hx hb dX10_warm_9 (by decide) (fun c3 => ?_) (fun c3 => ?_)
  · replace hf := ifp c3 hf
    refine lv_bipush (v := (-2 : Int32)) hx hb dX10_warm_29 (by decide) ?_
    obtain rfl := inj1 hf
    subst hQ
    exact CM_iret hx hb hr rfl hlocks hAe hP hD hS dX10_warm_31
  · replace hf := ifn c3 hf
    refine lv_iload_n hx hb dX10_warm_12 rfl (lv_at hl 2 rfl) ?_
    obtain ⟨r4, hg5, hf⟩ := bd1_some hf
    refine CM_callS (As := [.int p2]) (rest := []) (wc := []) (w1 := []) (wr := [(h_t, .inr (8, fX10 h_t_book h_t_images h_t_kept h_t_aside h_t_far h_t_then h_t_row h_t_mays h_t_firstRow h_t_low h_t_high t_noOlder t_thanThis t_known t_knownAge t_moved h_t_lowOne h_t_highOne h_t_ways t_met h_t_left t_hours t_greatest h_t_text t_typed t_at t_start t_token t_value h_t_verbs h_t_nums t_items)), (h_t_book, .inl (cI, 460, .inl t_book))]) (wo := [(h_t, .inr (8, fX10 h_t_book h_t_images h_t_kept h_t_aside h_t_far h_t_then h_t_row h_t_mays h_t_firstRow h_t_low h_t_high t_noOlder t_thanThis t_known t_knownAge t_moved h_t_lowOne h_t_highOne h_t_ways t_met h_t_left t_hours t_greatest h_t_text t_typed t_at t_start t_token t_value h_t_verbs h_t_nums t_items)), (h_t_book, .inl (cI, 460, .inl t_book))]) (v := (some (.int r4))) ⟨hx, hb, hml, hown, hts⟩ (c_X10_isWarm l dC dI cI cZ te p2 r4 hg5) (va_cwS 1 hts (gS kw_315 kw_316 kw_159 kw_317) rfl rfl rfl (by decide +kernel) ⟨Nat.le_of_ble_eq_true rfl, Nat.le_of_ble_eq_true rfl⟩) (kS_env te) hK hP hD hS hA hE [] [0, 1] [0, 1] rfl rfl (by decide) (by decide) (by decide) (by decide) rfl rfl hl.1 rfl (Nat.le_of_ble_eq_true rfl) dX10_warm_13 ⟨Nat.zero_le _, Nat.zero_le _⟩ (fun H locs hP hD hS => ?_)
    show W p l e rmX10_warm s m args below meth c H locs 0 0 Q (F0 m 16 ls [.int r4])
    refine lv_if_eq (tgt := 29) hx hb dX10_warm_16 (by decide) (fun c6 => ?_) (fun c6 => ?_)
    · replace hf := ifp c6 hf
      refine lv_bipush (v := (-2 : Int32)) hx hb dX10_warm_29 (by decide) ?_
      obtain rfl := inj1 hf
      subst hQ
      exact CM_iret hx hb hr rfl hlocks hAe hP hD hS dX10_warm_31
    · replace hf := ifn c6 hf
      refine lv_iload_n hx hb dX10_warm_19 rfl (lv_at hl 3 rfl) ?_
      refine lv_i2l hx hb dX10_warm_20 rfl ?_
      refine lv_lconst (v := (0 : Int64)) hx hb dX10_warm_21 (by decide) ?_
      refine lv_lconst (v := (1 : Int64)) hx hb dX10_warm_22 (by decide) ?_
      obtain ⟨r7, hg8, hf⟩ := bd1_some hf
      refine CM_callS (As := [.long p3.toInt64, .long (0 : Int64), .long (1 : Int64)]) (rest := []) (wc := []) (w1 := []) (wr := [(h_t, .inr (8, fX10 h_t_book h_t_images h_t_kept h_t_aside h_t_far h_t_then h_t_row h_t_mays h_t_firstRow h_t_low h_t_high t_noOlder t_thanThis t_known t_knownAge t_moved h_t_lowOne h_t_highOne h_t_ways t_met h_t_left t_hours t_greatest h_t_text t_typed t_at t_start t_token t_value h_t_verbs h_t_nums t_items)), (h_t_book, .inl (cI, 460, .inl t_book))]) (wo := [(h_t, .inr (8, fX10 h_t_book h_t_images h_t_kept h_t_aside h_t_far h_t_then h_t_row h_t_mays h_t_firstRow h_t_low h_t_high t_noOlder t_thanThis t_known t_knownAge t_moved h_t_lowOne h_t_highOne h_t_ways t_met h_t_left t_hours t_greatest h_t_text t_typed t_at t_start t_token t_value h_t_verbs h_t_nums t_items)), (h_t_book, .inl (cI, 460, .inl t_book))]) (v := (some (.int r7))) ⟨hx, hb, hml, hown, hts⟩ (c_X10_in l dC dI cI cZ te (p3.toInt64) (0 : Int64) (1 : Int64) r7 hg8) (va_cwS 3 hts (gS kw_157 kw_158 kw_159 kw_160) rfl rfl rfl (by decide +kernel) ⟨Nat.le_of_ble_eq_true rfl, Nat.le_of_ble_eq_true rfl⟩) (kS_env te) hK hP hD hS hA hE [] [0, 1] [0, 1] rfl rfl (by decide) (by decide) (by decide) (by decide) rfl rfl hl.1 rfl (Nat.le_of_ble_eq_true rfl) dX10_warm_23 ⟨Nat.zero_le _, Nat.zero_le _⟩ (fun H locs hP hD hS => ?_)
      show W p l e rmX10_warm s m args below meth c H locs 0 0 Q (F0 m 26 ls [.int r7])
      refine lv_if_ne (tgt := 32) hx hb dX10_warm_26 (by decide) (fun c9 => ?_) (fun c9 => ?_)
      · replace hf := ifn c9 hf
        refine lv_iconst (v := (-1 : Int32)) hx hb dX10_warm_32 (by decide) ?_
        refine lv_istore (lv' := [(4, .int (-1 : Int32)), (0, .ref h_t), (1, .int p1), (2, .int p2), (3, .int p3)]) hx hb dX10_warm_33 hl (by decide) rfl (fun ls hl => ?_)
        refine lv_iconst (v := (0 : Int32)) hx hb dX10_warm_35 (by decide) ?_
        refine lv_istore (lv' := [(5, .int (0 : Int32)), (4, .int (-1 : Int32)), (0, .ref h_t), (1, .int p1), (2, .int p2), (3, .int p3)]) hx hb dX10_warm_36 hl (by decide) rfl (fun ls hl => ?_)
        have L30 : ∀ (fu22 : Nat) (x19 : Int32) (x20 : Int32) (x18 : Int32), f_X10_warm_L1 t_book p2 p1 p3 fu22 x19 x20 = some x18 → (∀ (H : Heap) (locs : List Loc), va_P (dC, dI) vwCl [(h_t, .inr (8, fX10 h_t_book h_t_images h_t_kept h_t_aside h_t_far h_t_then h_t_row h_t_mays h_t_firstRow h_t_low h_t_high t_noOlder t_thanThis t_known t_knownAge t_moved h_t_lowOne h_t_highOne h_t_ways t_met h_t_left t_hours t_greatest h_t_text t_typed t_at t_start t_token t_value h_t_verbs h_t_nums t_items)), (h_t_book, .inl (cI, 460, .inl t_book))] H → va_D A [(h_t, .inr (8, fX10 h_t_book h_t_images h_t_kept h_t_aside h_t_far h_t_then h_t_row h_t_mays h_t_firstRow h_t_low h_t_high t_noOlder t_thanThis t_known t_knownAge t_moved h_t_lowOne h_t_highOne h_t_ways t_met h_t_left t_hours t_greatest h_t_text t_typed t_at t_start t_token t_value h_t_verbs h_t_nums t_items)), (h_t_book, .inl (cI, 460, .inl t_book))] → va_S A s.heap H locs → ∀ ls : Array Slot, lv_has ls 6 [(4, .int x18)] → W p l e rmX10_warm s m args below meth c H locs 0 0 Q (F0 m 82 ls [])) → ∀ (H : Heap) (locs : List Loc), va_P (dC, dI) vwCl [(h_t, .inr (8, fX10 h_t_book h_t_images h_t_kept h_t_aside h_t_far h_t_then h_t_row h_t_mays h_t_firstRow h_t_low h_t_high t_noOlder t_thanThis t_known t_knownAge t_moved h_t_lowOne h_t_highOne h_t_ways t_met h_t_left t_hours t_greatest h_t_text t_typed t_at t_start t_token t_value h_t_verbs h_t_nums t_items)), (h_t_book, .inl (cI, 460, .inl t_book))] H → va_D A [(h_t, .inr (8, fX10 h_t_book h_t_images h_t_kept h_t_aside h_t_far h_t_then h_t_row h_t_mays h_t_firstRow h_t_low h_t_high t_noOlder t_thanThis t_known t_knownAge t_moved h_t_lowOne h_t_highOne h_t_ways t_met h_t_left t_hours t_greatest h_t_text t_typed t_at t_start t_token t_value h_t_verbs h_t_nums t_items)), (h_t_book, .inl (cI, 460, .inl t_book))] → va_S A s.heap H locs → ∀ ls : Array Slot, lv_has ls 6 [(0, .ref h_t), (1, .int p1), (2, .int p2), (3, .int p3), (4, .int x19), (5, .int x20)] → W p l e rmX10_warm s m args below meth c H locs 0 0 Q (F0 m 38 ls []) := by
          intro fu22
          induction fu22 with
          | zero =>
            intro x19 x20 x18 hf
            unfold f_X10_warm_L1 at hf
            exact none_ne hf
          | succ fu22 ih21 =>
            intro x19 x20 x18 hf hX23 H locs hP hD hS ls hl
            unfold f_X10_warm_L1 at hf
            refine lv_iload hx hb dX10_warm_38 (lv_at hl 5 rfl) ?_
            refine lv_bipush (v := (61 : Int32)) hx hb dX10_warm_40 (by decide) ?_
            refine lv_icmp_ge (tgt := 82) hx hb dX10_warm_42 (by decide) (fun c24 => ?_) (fun c24 => ?_)
            · replace hf := ifp c24 hf
              obtain rfl := inj1 hf
              exact hX23 _ _ hP hD hS _ (lv_sub hl [4] rfl)
            · replace hf := ifn c24 hf
              refine lv_aload_n hx hb dX10_warm_45 rfl (lv_at hl 0 rfl) ?_
              refine lv_iload hx hb dX10_warm_46 (lv_at hl 5 rfl) ?_
              refine lv_iload_n hx hb dX10_warm_48 rfl (lv_at hl 2 rfl) ?_
              obtain ⟨r25, hg26, hf⟩ := bd1_some hf
              refine CM_callV (C := RX10) (As := [.int x20, .int p2]) (rest := []) (wc := [(h_t, .inr (8, fX10 h_t_book h_t_images h_t_kept h_t_aside h_t_far h_t_then h_t_row h_t_mays h_t_firstRow h_t_low h_t_high t_noOlder t_thanThis t_known t_knownAge t_moved h_t_lowOne h_t_highOne h_t_ways t_met h_t_left t_hours t_greatest h_t_text t_typed t_at t_start t_token t_value h_t_verbs h_t_nums t_items)), (h_t_book, .inl (cI, 460, .inl t_book))]) (w1 := [(h_t, .inr (8, fX10 h_t_book h_t_images h_t_kept h_t_aside h_t_far h_t_then h_t_row h_t_mays h_t_firstRow h_t_low h_t_high t_noOlder t_thanThis t_known t_knownAge t_moved h_t_lowOne h_t_highOne h_t_ways t_met h_t_left t_hours t_greatest h_t_text t_typed t_at t_start t_token t_value h_t_verbs h_t_nums t_items)), (h_t_book, .inl (cI, 460, .inl t_book))]) (wr := []) (wo := [(h_t, .inr (8, fX10 h_t_book h_t_images h_t_kept h_t_aside h_t_far h_t_then h_t_row h_t_mays h_t_firstRow h_t_low h_t_high t_noOlder t_thanThis t_known t_knownAge t_moved h_t_lowOne h_t_highOne h_t_ways t_met h_t_left t_hours t_greatest h_t_text t_typed t_at t_start t_token t_value h_t_verbs h_t_nums t_items)), (h_t_book, .inl (cI, 460, .inl t_book))]) (v := (some (.int r25))) ⟨hx, hb, hml, hown, hts⟩ (c_X10_stands l dC dI cI cZ te h_t h_t_book h_t_images h_t_kept h_t_aside h_t_far h_t_then h_t_row h_t_mays h_t_firstRow h_t_low h_t_high h_t_lowOne h_t_highOne h_t_ways h_t_left h_t_text h_t_verbs h_t_nums t_noOlder t_thanThis t_known t_knownAge t_moved t_met t_hours t_greatest t_typed t_at t_start t_token t_value t_items t_book x20 p2 r25 hg26) (cwV 2 hts (gV kw_318 kw_319 kw_320 kw_159 kw_321) rfl rfl rfl (by decide +kernel) ⟨Nat.le_of_ble_eq_true rfl, Nat.le_of_ble_eq_true rfl⟩) (kS_env te) hK hP hD hS hA hE [0, 1] [] [0, 1] rfl rfl (by decide) (by decide) (by decide) (by decide) rfl 0 8 rfl rfl rfl rfl hl.1 rfl (Nat.le_of_ble_eq_true rfl) dX10_warm_49 ⟨Nat.zero_le _, Nat.zero_le _⟩ (fun H locs hP hD hS => ?_)
              show W p l e rmX10_warm s m args below meth c H locs 0 0 Q (F0 m 52 ls [.int r25])
              refine lv_iload_n hx hb dX10_warm_52 rfl (lv_at hl 1 rfl) ?_
              refine lv_icmp_ne (tgt := 72) hx hb dX10_warm_53 (by decide) (fun c27 => ?_) (fun c27 => ?_)
              · replace hf := ifn c27 hf
                refine lv_iload hx hb dX10_warm_72 (lv_at hl 4 rfl) ?_
                refine lv_istore (lv' := [(4, .int x19), (0, .ref h_t), (1, .int p1), (2, .int p2), (3, .int p3), (5, .int x20)]) hx hb dX10_warm_74 hl (by decide) rfl (fun ls hl => ?_)
                refine lv_iinc (v := (x20 + (1 : Int32))) (lv' := [(5, .int (x20 + (1 : Int32))), (4, .int x19), (0, .ref h_t), (1, .int p1), (2, .int p2), (3, .int p3)]) hx hb dX10_warm_76 hl (k := 5) rfl rfl (by decide) rfl (fun ls hl => ?_)
                refine lv_goto (tgt := 38) hx hb dX10_warm_79 (by decide) ?_
                exact ih21 _ _ _ hf hX23 _ _ hP hD hS _ (lv_sub hl [2, 3, 4, 5, 1, 0] rfl)
              · replace hf := ifp c27 hf
                refine lv_iload_n hx hb dX10_warm_56 rfl (lv_at hl 3 rfl) ?_
                refine lv_iconst (v := (1 : Int32)) hx hb dX10_warm_57 (by decide) ?_
                refine lv_icmp_eq (tgt := 67) hx hb dX10_warm_58 (by decide) (fun c28 => ?_) (fun c28 => ?_)
                · replace hf := ifp c28 hf
                  refine lv_iload hx hb dX10_warm_67 (lv_at hl 5 rfl) ?_
                  refine lv_goto (tgt := 74) hx hb dX10_warm_69 (by decide) ?_
                  refine lv_istore (lv' := [(4, .int x20), (0, .ref h_t), (1, .int p1), (2, .int p2), (3, .int p3), (5, .int x20)]) hx hb dX10_warm_74 hl (by decide) rfl (fun ls hl => ?_)
                  refine lv_iinc (v := (x20 + (1 : Int32))) (lv' := [(5, .int (x20 + (1 : Int32))), (4, .int x20), (0, .ref h_t), (1, .int p1), (2, .int p2), (3, .int p3)]) hx hb dX10_warm_76 hl (k := 5) rfl rfl (by decide) rfl (fun ls hl => ?_)
                  refine lv_goto (tgt := 38) hx hb dX10_warm_79 (by decide) ?_
                  exact ih21 _ _ _ hf hX23 _ _ hP hD hS _ (lv_sub hl [2, 3, 4, 5, 1, 0] rfl)
                · replace hf := ifn c28 hf
                  refine lv_iload hx hb dX10_warm_61 (lv_at hl 4 rfl) ?_
                  refine lv_iconst (v := (-1 : Int32)) hx hb dX10_warm_63 (by decide) ?_
                  refine lv_icmp_ne (tgt := 72) hx hb dX10_warm_64 (by decide) (fun c29 => ?_) (fun c29 => ?_)
                  · replace hf := ifn c29 hf
                    refine lv_iload hx hb dX10_warm_72 (lv_at hl 4 rfl) ?_
                    refine lv_istore (lv' := [(4, .int x19), (0, .ref h_t), (1, .int p1), (2, .int p2), (3, .int p3), (5, .int x20)]) hx hb dX10_warm_74 hl (by decide) rfl (fun ls hl => ?_)
                    refine lv_iinc (v := (x20 + (1 : Int32))) (lv' := [(5, .int (x20 + (1 : Int32))), (4, .int x19), (0, .ref h_t), (1, .int p1), (2, .int p2), (3, .int p3)]) hx hb dX10_warm_76 hl (k := 5) rfl rfl (by decide) rfl (fun ls hl => ?_)
                    refine lv_goto (tgt := 38) hx hb dX10_warm_79 (by decide) ?_
                    exact ih21 _ _ _ hf hX23 _ _ hP hD hS _ (lv_sub hl [2, 3, 4, 5, 1, 0] rfl)
                  · replace hf := ifp c29 hf
                    refine lv_iload hx hb dX10_warm_67 (lv_at hl 5 rfl) ?_
                    refine lv_goto (tgt := 74) hx hb dX10_warm_69 (by decide) ?_
                    refine lv_istore (lv' := [(4, .int x20), (0, .ref h_t), (1, .int p1), (2, .int p2), (3, .int p3), (5, .int x20)]) hx hb dX10_warm_74 hl (by decide) rfl (fun ls hl => ?_)
                    refine lv_iinc (v := (x20 + (1 : Int32))) (lv' := [(5, .int (x20 + (1 : Int32))), (4, .int x20), (0, .ref h_t), (1, .int p1), (2, .int p2), (3, .int p3)]) hx hb dX10_warm_76 hl (k := 5) rfl rfl (by decide) rfl (fun ls hl => ?_)
                    refine lv_goto (tgt := 38) hx hb dX10_warm_79 (by decide) ?_
                    exact ih21 _ _ _ hf hX23 _ _ hP hD hS _ (lv_sub hl [2, 3, 4, 5, 1, 0] rfl)
        obtain ⟨x18, hg, hf⟩ := bd1_some hf
        refine L30 FU _ _ _ hg ?_ _ _ hP hD hS _ (lv_sub hl [2, 3, 4, 5, 1, 0] rfl)
        · intro H locs hP hD hS ls hl
          refine lv_iload hx hb dX10_warm_82 (lv_at hl 0 rfl) ?_
          obtain rfl := inj1 hf
          subst hQ
          exact CM_iret hx hb hr rfl hlocks hAe hP hD hS dX10_warm_84
      · replace hf := ifp c9 hf
        refine lv_bipush (v := (-2 : Int32)) hx hb dX10_warm_29 (by decide) ?_
        obtain rfl := inj1 hf
        subst hQ
        exact CM_iret hx hb hr rfl hlocks hAe hP hD hS dX10_warm_31
def rmX10_type : Room := { frames := 1, cells := 0, slots := 0, locals := 25 }
abbrev wqX10_type : List Cond := Cond.code yX10_type cX10_type 5 (some .int) :: tG
set_option maxHeartbeats 4000000 in
set_option maxRecDepth 100000 in
theorem c_X10_type (l : Launch) (dC : Nat → ClassId) (dI : Nat → Nat → Nat) (cI cZ : ClassId) (te : Nat → Nat) (h_t : Nat) (h_t_book : Nat) (h_t_images : Nat) (h_t_kept : Nat) (h_t_aside : Nat) (h_t_far : Nat) (h_t_then : Nat) (h_t_row : Nat) (h_t_mays : Nat) (h_t_firstRow : Nat) (h_t_low : Nat) (h_t_high : Nat) (h_t_lowOne : Nat) (h_t_highOne : Nat) (h_t_ways : Nat) (h_t_left : Nat) (h_t_text : Nat) (h_t_verbs : Nat) (h_t_nums : Nat) (t_noOlder : Int32) (t_thanThis : Int32) (t_known : Int32) (t_knownAge : Int32) (t_moved : Int32) (t_met : Int32) (t_hours : Int32) (t_greatest : Int32) (t_typed : Int32) (t_at : Int32) (t_start : Int32) (t_token : Int32) (t_value : Int32) (t_items : Int32) (t_text : Nat → Int32) (p1 : Int64) (p2 : Int32) (o0 : Int32) (o1 : Int32) (o2 : Nat → Int32) (hf : f_X10_type t_typed t_text p1 p2 = some (o0, o1, o2)) : CM l yX10_type wqX10_type rmX10_type (kS te) dC dI cI cZ [.ref h_t, .long p1, .int p2] [(h_t, .inr (8, fX10 h_t_book h_t_images h_t_kept h_t_aside h_t_far h_t_then h_t_row h_t_mays h_t_firstRow h_t_low h_t_high t_noOlder t_thanThis t_known t_knownAge t_moved h_t_lowOne h_t_highOne h_t_ways t_met h_t_left t_hours t_greatest h_t_text t_typed t_at t_start t_token t_value h_t_verbs h_t_nums t_items)), (h_t_text, .inl (cI, 240, .inl t_text))] [(h_t, .inr (8, fX10 h_t_book h_t_images h_t_kept h_t_aside h_t_far h_t_then h_t_row h_t_mays h_t_firstRow h_t_low h_t_high t_noOlder t_thanThis t_known t_knownAge t_moved h_t_lowOne h_t_highOne h_t_ways t_met h_t_left t_hours t_greatest h_t_text o1 t_at t_start t_token t_value h_t_verbs h_t_nums t_items)), (h_t_text, .inl (cI, 240, .inl o2))] (some (.int o0)) := by
  refine CM_of (cc := cX10_type) (maxL := 5) (ret := (some .int)) (by decide +kernel) rfl (Nat.le_of_ble_eq_true rfl) ?_
  intro p e s m args below meth c A Q hx hb hr hml hown hts hlocks hA hK hP hD hS hE hQ hAe ls hl
  have hown : s.vm.findClass RX10 = some m.cls := hown
  have hl : lv_has ls 5 [(0, .ref h_t), (1, .long p1), (3, .int p2)] := hl
  unfold f_X10_type at hf
  refine lv_iload_n hx hb dX10_type_0 rfl (lv_at hl 2 rfl) ?_
  refine lv_i2l hx hb dX10_type_1 rfl ?_
  refine lv_lconst (v := (1 : Int64)) hx hb dX10_type_2 (by decide) ?_
  refine lv_ldc2 (v := (8 : Int64)) hx hb hown (hts _ (List.mem_cons_of_mem _ kw_322)) dX10_type_3 ?_
  obtain ⟨r1, hg2, hf⟩ := bd1_some hf
  refine CM_callS (As := [.long p2.toInt64, .long (1 : Int64), .long (8 : Int64)]) (rest := []) (wc := []) (w1 := []) (wr := [(h_t, .inr (8, fX10 h_t_book h_t_images h_t_kept h_t_aside h_t_far h_t_then h_t_row h_t_mays h_t_firstRow h_t_low h_t_high t_noOlder t_thanThis t_known t_knownAge t_moved h_t_lowOne h_t_highOne h_t_ways t_met h_t_left t_hours t_greatest h_t_text t_typed t_at t_start t_token t_value h_t_verbs h_t_nums t_items)), (h_t_text, .inl (cI, 240, .inl t_text))]) (wo := [(h_t, .inr (8, fX10 h_t_book h_t_images h_t_kept h_t_aside h_t_far h_t_then h_t_row h_t_mays h_t_firstRow h_t_low h_t_high t_noOlder t_thanThis t_known t_knownAge t_moved h_t_lowOne h_t_highOne h_t_ways t_met h_t_left t_hours t_greatest h_t_text t_typed t_at t_start t_token t_value h_t_verbs h_t_nums t_items)), (h_t_text, .inl (cI, 240, .inl t_text))]) (v := (some (.int r1))) ⟨hx, hb, hml, hown, hts⟩ (c_X10_in l dC dI cI cZ te (p2.toInt64) (1 : Int64) (8 : Int64) r1 hg2) (va_cwS 3 hts (gS kw_157 kw_158 kw_159 kw_160) rfl rfl rfl (by decide +kernel) ⟨Nat.le_of_ble_eq_true rfl, Nat.le_of_ble_eq_true rfl⟩) (kS_env te) hK hP hD hS hA hE [] [0, 1] [0, 1] rfl rfl (by decide) (by decide) (by decide) (by decide) rfl rfl hl.1 rfl (Nat.le_of_ble_eq_true rfl) dX10_type_6 ⟨Nat.zero_le _, Nat.zero_le _⟩ (fun H locs hP hD hS => ?_)
  show W p l e rmX10_type s m args below meth c H locs 0 0 Q (F0 m 9 ls [.int r1])
  refine lv_if_ne (tgt := 15) hx hb dX10_type_9 (by decide) (fun c3 => ?_) (fun c3 => ?_)
  · replace hf := ifn c3 hf
    refine lv_aload_n hx hb dX10_type_15 rfl (lv_at hl 0 rfl) ?_
    refine va_get (D := (dC, dI)) (ci := 8) (v := .int t_typed) (C := RX10) (T := TX10) (N := 32) hx hb hts (in1 tw_X10) hown hK hP 0 rfl rfl 24 (by decide) (hts _ (List.mem_cons_of_mem _ kw_323)) (fun _ h9 => h9) rfl dX10_type_16 ?_
    refine lv_iload_n hx hb dX10_type_19 rfl (lv_at hl 2 rfl) ?_
    refine lv_iadd hx hb dX10_type_20 ?_
    refine lv_sipush (v := (240 : Int32)) hx hb dX10_type_21 (by decide) ?_
    refine lv_icmp_le (tgt := 30) hx hb dX10_type_24 (by decide) (fun c4 => ?_) (fun c4 => ?_)
    · replace hf := ifp c4 hf
      refine lv_iload_n hx hb dX10_type_30 rfl (lv_at hl 2 rfl) ?_
      refine lv_iconst (v := (1 : Int32)) hx hb dX10_type_31 (by decide) ?_
      refine lv_isub hx hb dX10_type_32 ?_
      obtain ⟨x5, e6, hf⟩ := nm_some hf
      refine lv_tope e6 ?_
      refine lv_istore (lv' := [(4, .int x5), (0, .ref h_t), (1, .long p1), (3, .int p2)]) hx hb dX10_type_33 hl (by decide) rfl (fun ls hl => ?_)
      have L34 : ∀ (fu24 : Nat) (y20 : Nat → Int32) (x21 : Int32) (x22 : Int32) (y18 : Nat → Int32) (x19 : Int32), f_X10_type_L1 p1 fu24 y20 x21 x22 = some (y18, x19) → (∀ (H : Heap) (locs : List Loc), va_P (dC, dI) vwCl [(h_t, .inr (8, fX10 h_t_book h_t_images h_t_kept h_t_aside h_t_far h_t_then h_t_row h_t_mays h_t_firstRow h_t_low h_t_high t_noOlder t_thanThis t_known t_knownAge t_moved h_t_lowOne h_t_highOne h_t_ways t_met h_t_left t_hours t_greatest h_t_text x19 t_at t_start t_token t_value h_t_verbs h_t_nums t_items)), (h_t_text, .inl (cI, 240, .inl y18))] H → va_D A [(h_t, .inr (8, fX10 h_t_book h_t_images h_t_kept h_t_aside h_t_far h_t_then h_t_row h_t_mays h_t_firstRow h_t_low h_t_high t_noOlder t_thanThis t_known t_knownAge t_moved h_t_lowOne h_t_highOne h_t_ways t_met h_t_left t_hours t_greatest h_t_text x19 t_at t_start t_token t_value h_t_verbs h_t_nums t_items)), (h_t_text, .inl (cI, 240, .inl y18))] → va_S A s.heap H locs → ∀ ls : Array Slot, lv_has ls 5 [(0, .ref h_t)] → W p l e rmX10_type s m args below meth c H locs 0 0 Q (F0 m 77 ls [])) → ∀ (H : Heap) (locs : List Loc), va_P (dC, dI) vwCl [(h_t, .inr (8, fX10 h_t_book h_t_images h_t_kept h_t_aside h_t_far h_t_then h_t_row h_t_mays h_t_firstRow h_t_low h_t_high t_noOlder t_thanThis t_known t_knownAge t_moved h_t_lowOne h_t_highOne h_t_ways t_met h_t_left t_hours t_greatest h_t_text x21 t_at t_start t_token t_value h_t_verbs h_t_nums t_items)), (h_t_text, .inl (cI, 240, .inl y20))] H → va_D A [(h_t, .inr (8, fX10 h_t_book h_t_images h_t_kept h_t_aside h_t_far h_t_then h_t_row h_t_mays h_t_firstRow h_t_low h_t_high t_noOlder t_thanThis t_known t_knownAge t_moved h_t_lowOne h_t_highOne h_t_ways t_met h_t_left t_hours t_greatest h_t_text x21 t_at t_start t_token t_value h_t_verbs h_t_nums t_items)), (h_t_text, .inl (cI, 240, .inl y20))] → va_S A s.heap H locs → ∀ ls : Array Slot, lv_has ls 5 [(0, .ref h_t), (1, .long p1), (4, .int x22)] → W p l e rmX10_type s m args below meth c H locs 0 0 Q (F0 m 35 ls []) := by
        intro fu24
        induction fu24 with
        | zero =>
          intro y20 x21 x22 y18 x19 hf
          unfold f_X10_type_L1 at hf
          exact none_ne hf
        | succ fu24 ih23 =>
          intro y20 x21 x22 y18 x19 hf hX25 H locs hP hD hS ls hl
          unfold f_X10_type_L1 at hf
          refine lv_iload hx hb dX10_type_35 (lv_at hl 2 rfl) ?_
          refine lv_if_lt (tgt := 77) hx hb dX10_type_37 (by decide) (fun c26 => ?_) (fun c26 => ?_)
          · replace hf := ifp c26 hf
            obtain ⟨rfl, rfl⟩ := inj2 hf
            exact hX25 _ _ hP hD hS _ (lv_sub hl [0] rfl)
          · replace hf := ifn c26 hf
            refine lv_aload_n hx hb dX10_type_40 rfl (lv_at hl 0 rfl) ?_
            refine va_get (D := (dC, dI)) (ci := 8) (v := .ref h_t_text) (C := RX10) (T := TX10) (N := 32) hx hb hts (in1 tw_X10) hown hK hP 0 rfl rfl 23 (by decide) (hts _ (List.mem_cons_of_mem _ kw_132)) (fun _ h9 => h9) rfl dX10_type_41 ?_
            refine lv_aload_n hx hb dX10_type_44 rfl (lv_at hl 0 rfl) ?_
            refine va_get (D := (dC, dI)) (ci := 8) (v := .int x21) (C := RX10) (T := TX10) (N := 32) hx hb hts (in1 tw_X10) hown hK hP 0 rfl rfl 24 (by decide) (hts _ (List.mem_cons_of_mem _ kw_323)) (fun _ h9 => h9) rfl dX10_type_45 ?_
            refine lv_lload_n hx hb dX10_type_48 rfl (lv_at hl 1 rfl) ?_
            refine lv_bipush (v := (8 : Int32)) hx hb dX10_type_49 (by decide) ?_
            refine lv_iload hx hb dX10_type_51 (lv_at hl 2 rfl) ?_
            refine lv_imul hx hb dX10_type_53 ?_
            refine lv_lshr hx hb dX10_type_54 rfl ?_
            refine lv_ldc2 (v := (255 : Int64)) hx hb hown (hts _ (List.mem_cons_of_mem _ kw_324)) dX10_type_55 ?_
            refine lv_land hx hb dX10_type_58 ?_
            refine lv_l2i hx hb dX10_type_59 rfl ?_
            obtain ⟨x27, e28, hf⟩ := nm_some hf
            refine lv_tope e28 ?_
            obtain ⟨g29, hf⟩ := chk_some hf
            obtain ⟨y30, e31, hf⟩ := nm_some hf
            refine va_iast hx hb hK hP hD hS 1 0 rfl rfl (gin_in g29) dX10_type_60 (fun H locs hP hD hS => ?_)
            have hP : va_P (dC, dI) vwCl [(h_t, .inr (8, fX10 h_t_book h_t_images h_t_kept h_t_aside h_t_far h_t_then h_t_row h_t_mays h_t_firstRow h_t_low h_t_high t_noOlder t_thanThis t_known t_knownAge t_moved h_t_lowOne h_t_highOne h_t_ways t_met h_t_left t_hours t_greatest h_t_text x21 t_at t_start t_token t_value h_t_verbs h_t_nums t_items)), (h_t_text, .inl (cI, 240, .inl y30))] H := by rw [e31]; exact hP
            have hD : va_D A [(h_t, .inr (8, fX10 h_t_book h_t_images h_t_kept h_t_aside h_t_far h_t_then h_t_row h_t_mays h_t_firstRow h_t_low h_t_high t_noOlder t_thanThis t_known t_knownAge t_moved h_t_lowOne h_t_highOne h_t_ways t_met h_t_left t_hours t_greatest h_t_text x21 t_at t_start t_token t_value h_t_verbs h_t_nums t_items)), (h_t_text, .inl (cI, 240, .inl y30))] := by rw [e31]; exact hD
            refine lv_aload_n hx hb dX10_type_61 rfl (lv_at hl 0 rfl) ?_
            refine lv_dup hx hb dX10_type_62 rfl ?_
            refine va_get (D := (dC, dI)) (ci := 8) (v := .int x21) (C := RX10) (T := TX10) (N := 32) hx hb hts (in1 tw_X10) hown hK hP 0 rfl rfl 24 (by decide) (hts _ (List.mem_cons_of_mem _ kw_323)) (fun _ h9 => h9) rfl dX10_type_63 ?_
            refine lv_iconst (v := (1 : Int32)) hx hb dX10_type_66 (by decide) ?_
            refine lv_iadd hx hb dX10_type_67 ?_
            obtain ⟨x32, e33, hf⟩ := nm_some hf
            refine lv_tope e33 ?_
            refine va_put (D := (dC, dI)) (ci := 8) (v := .int x32) (ty := tyX10 24) (C := RX10) (T := TX10) (N := 32) hx hb hts (in1 tw_X10) tyX10 tyX10_ok nmX10 hown hK hP hD hS 0 rfl rfl 24 (by decide) (hts _ (List.mem_cons_of_mem _ kw_323)) (fun _ h9 => h9) rfl (tyX10_ok 24 (by decide)) rfl rfl (Nat.le_of_ble_eq_true rfl) dX10_type_68 (fun H locs hP hD hS => ?_)
            have hP : va_P (dC, dI) vwCl [(h_t, .inr (8, fX10 h_t_book h_t_images h_t_kept h_t_aside h_t_far h_t_then h_t_row h_t_mays h_t_firstRow h_t_low h_t_high t_noOlder t_thanThis t_known t_knownAge t_moved h_t_lowOne h_t_highOne h_t_ways t_met h_t_left t_hours t_greatest h_t_text x32 t_at t_start t_token t_value h_t_verbs h_t_nums t_items)), (h_t_text, .inl (cI, 240, .inl y30))] H := hP
            have hD : va_D A [(h_t, .inr (8, fX10 h_t_book h_t_images h_t_kept h_t_aside h_t_far h_t_then h_t_row h_t_mays h_t_firstRow h_t_low h_t_high t_noOlder t_thanThis t_known t_knownAge t_moved h_t_lowOne h_t_highOne h_t_ways t_met h_t_left t_hours t_greatest h_t_text x32 t_at t_start t_token t_value h_t_verbs h_t_nums t_items)), (h_t_text, .inl (cI, 240, .inl y30))] := hD
            refine lv_iinc (v := (x22 + (-1 : Int32))) (lv' := [(4, .int (x22 + (-1 : Int32))), (0, .ref h_t), (1, .long p1)]) hx hb dX10_type_71 hl (k := 2) rfl rfl (by decide) rfl (fun ls hl => ?_)
            refine lv_goto (tgt := 35) hx hb dX10_type_74 (by decide) ?_
            exact ih23 _ _ _ _ _ hf hX25 _ _ hP hD hS _ (lv_sub hl [1, 2, 0] rfl)
      obtain ⟨y18, x19, hg, hf⟩ := bd2_some hf
      refine L34 FU _ _ _ _ _ hg ?_ _ _ hP hD hS _ (lv_sub hl [1, 2, 0] rfl)
      · intro H locs hP hD hS ls hl
        refine lv_aload_n hx hb dX10_type_77 rfl (lv_at hl 0 rfl) ?_
        refine va_get (D := (dC, dI)) (ci := 8) (v := .int x19) (C := RX10) (T := TX10) (N := 32) hx hb hts (in1 tw_X10) hown hK hP 0 rfl rfl 24 (by decide) (hts _ (List.mem_cons_of_mem _ kw_323)) (fun _ h9 => h9) rfl dX10_type_78 ?_
        obtain ⟨rfl, rfl, rfl⟩ := inj3 hf
        subst hQ
        exact CM_iret hx hb hr rfl hlocks hAe hP hD hS dX10_type_81
    · replace hf := ifn c4 hf
      refine lv_bipush (v := (-4 : Int32)) hx hb dX10_type_27 (by decide) ?_
      obtain ⟨rfl, rfl, rfl⟩ := inj3 hf
      subst hQ
      exact CM_iret hx hb hr rfl hlocks hAe hP hD hS dX10_type_29
  · replace hf := ifp c3 hf
    refine lv_bipush (v := (-2 : Int32)) hx hb dX10_type_12 (by decide) ?_
    obtain ⟨rfl, rfl, rfl⟩ := inj3 hf
    subst hQ
    exact CM_iret hx hb hr rfl hlocks hAe hP hD hS dX10_type_14
def rmX10_clear : Room := { frames := 0, cells := 0, slots := 0, locals := 0 }
abbrev wqX10_clear : List Cond := Cond.code yX10_clear cX10_clear 2 (some .int) :: tG
set_option maxHeartbeats 4000000 in
set_option maxRecDepth 100000 in
theorem c_X10_clear (l : Launch) (dC : Nat → ClassId) (dI : Nat → Nat → Nat) (cI cZ : ClassId) (te : Nat → Nat) (h_t : Nat) (h_t_book : Nat) (h_t_images : Nat) (h_t_kept : Nat) (h_t_aside : Nat) (h_t_far : Nat) (h_t_then : Nat) (h_t_row : Nat) (h_t_mays : Nat) (h_t_firstRow : Nat) (h_t_low : Nat) (h_t_high : Nat) (h_t_lowOne : Nat) (h_t_highOne : Nat) (h_t_ways : Nat) (h_t_left : Nat) (h_t_text : Nat) (h_t_verbs : Nat) (h_t_nums : Nat) (t_noOlder : Int32) (t_thanThis : Int32) (t_known : Int32) (t_knownAge : Int32) (t_moved : Int32) (t_met : Int32) (t_hours : Int32) (t_greatest : Int32) (t_typed : Int32) (t_at : Int32) (t_start : Int32) (t_token : Int32) (t_value : Int32) (t_items : Int32) (o0 : Int32) (o1 : Int32) (hf : f_X10_clear t_typed = some (o0, o1)) : CM l yX10_clear wqX10_clear rmX10_clear (kS te) dC dI cI cZ [.ref h_t] [(h_t, .inr (8, fX10 h_t_book h_t_images h_t_kept h_t_aside h_t_far h_t_then h_t_row h_t_mays h_t_firstRow h_t_low h_t_high t_noOlder t_thanThis t_known t_knownAge t_moved h_t_lowOne h_t_highOne h_t_ways t_met h_t_left t_hours t_greatest h_t_text t_typed t_at t_start t_token t_value h_t_verbs h_t_nums t_items))] [(h_t, .inr (8, fX10 h_t_book h_t_images h_t_kept h_t_aside h_t_far h_t_then h_t_row h_t_mays h_t_firstRow h_t_low h_t_high t_noOlder t_thanThis t_known t_knownAge t_moved h_t_lowOne h_t_highOne h_t_ways t_met h_t_left t_hours t_greatest h_t_text o1 t_at t_start t_token t_value h_t_verbs h_t_nums t_items))] (some (.int o0)) := by
  refine CM_of (cc := cX10_clear) (maxL := 2) (ret := (some .int)) (by decide +kernel) rfl (Nat.le_of_ble_eq_true rfl) ?_
  intro p e s m args below meth c A Q hx hb hr hml hown hts hlocks hA hK hP hD hS hE hQ hAe ls hl
  have hown : s.vm.findClass RX10 = some m.cls := hown
  have hl : lv_has ls 2 [(0, .ref h_t)] := hl
  unfold f_X10_clear at hf
  refine lv_aload_n hx hb dX10_clear_0 rfl (lv_at hl 0 rfl) ?_
  refine va_get (D := (dC, dI)) (ci := 8) (v := .int t_typed) (C := RX10) (T := TX10) (N := 32) hx hb hts (in1 tw_X10) hown hK hP 0 rfl rfl 24 (by decide) (hts _ (List.mem_cons_of_mem _ kw_323)) (fun _ h9 => h9) rfl dX10_clear_1 ?_
  refine lv_istore_n (lv' := [(1, .int t_typed), (0, .ref h_t)]) hx hb dX10_clear_4 rfl hl (by decide) rfl (fun ls hl => ?_)
  refine lv_aload_n hx hb dX10_clear_5 rfl (lv_at hl 1 rfl) ?_
  refine lv_iconst (v := (0 : Int32)) hx hb dX10_clear_6 (by decide) ?_
  refine va_put (D := (dC, dI)) (ci := 8) (v := .int (0 : Int32)) (ty := tyX10 24) (C := RX10) (T := TX10) (N := 32) hx hb hts (in1 tw_X10) tyX10 tyX10_ok nmX10 hown hK hP hD hS 0 rfl rfl 24 (by decide) (hts _ (List.mem_cons_of_mem _ kw_323)) (fun _ h9 => h9) rfl (tyX10_ok 24 (by decide)) rfl rfl (Nat.le_of_ble_eq_true rfl) dX10_clear_7 (fun H locs hP hD hS => ?_)
  have hP : va_P (dC, dI) vwCl [(h_t, .inr (8, fX10 h_t_book h_t_images h_t_kept h_t_aside h_t_far h_t_then h_t_row h_t_mays h_t_firstRow h_t_low h_t_high t_noOlder t_thanThis t_known t_knownAge t_moved h_t_lowOne h_t_highOne h_t_ways t_met h_t_left t_hours t_greatest h_t_text (0 : Int32) t_at t_start t_token t_value h_t_verbs h_t_nums t_items))] H := hP
  have hD : va_D A [(h_t, .inr (8, fX10 h_t_book h_t_images h_t_kept h_t_aside h_t_far h_t_then h_t_row h_t_mays h_t_firstRow h_t_low h_t_high t_noOlder t_thanThis t_known t_knownAge t_moved h_t_lowOne h_t_highOne h_t_ways t_met h_t_left t_hours t_greatest h_t_text (0 : Int32) t_at t_start t_token t_value h_t_verbs h_t_nums t_items))] := hD
  refine lv_iload_n hx hb dX10_clear_10 rfl (lv_at hl 0 rfl) ?_
  obtain ⟨rfl, rfl⟩ := inj2 hf
  subst hQ
  exact CM_iret hx hb hr rfl hlocks hAe hP hD hS dX10_clear_11
