def rmX10_bearsYear : Room := { frames := 0, cells := 0, slots := 0, locals := 0 }
abbrev wqX10_bearsYear : List Cond := Cond.code yX10_bearsYear cX10_bearsYear 9 (some .boolean) :: tG
set_option maxHeartbeats 4000000 in
set_option maxRecDepth 100000 in
theorem c_X10_bearsYear (l : Launch) (dC : Nat → ClassId) (dI : Nat → Nat → Nat) (cI cZ : ClassId) (te : Nat → Nat) (h_t : Nat) (h_t_book : Nat) (h_t_images : Nat) (h_t_kept : Nat) (h_t_aside : Nat) (h_t_far : Nat) (h_t_then : Nat) (h_t_row : Nat) (h_t_mays : Nat) (h_t_firstRow : Nat) (h_t_low : Nat) (h_t_high : Nat) (h_t_lowOne : Nat) (h_t_highOne : Nat) (h_t_ways : Nat) (h_t_left : Nat) (h_t_text : Nat) (h_t_verbs : Nat) (h_t_nums : Nat) (t_noOlder : Int32) (t_thanThis : Int32) (t_known : Int32) (t_knownAge : Int32) (t_moved : Int32) (t_met : Int32) (t_hours : Int32) (t_greatest : Int32) (t_typed : Int32) (t_at : Int32) (t_start : Int32) (t_token : Int32) (t_value : Int32) (t_items : Int32) (t_book : Nat → Int32) (p1 : Int32) (p2 : Int32) (o0 : Int32) (o1 : Int32) (hf : f_X10_bearsYear t_book p1 p2 = some (o0, o1)) : CM l yX10_bearsYear wqX10_bearsYear rmX10_bearsYear (kS te) dC dI cI cZ [.ref h_t, .int p1, .int p2] [(h_t, .inr (8, fX10 h_t_book h_t_images h_t_kept h_t_aside h_t_far h_t_then h_t_row h_t_mays h_t_firstRow h_t_low h_t_high t_noOlder t_thanThis t_known t_knownAge t_moved h_t_lowOne h_t_highOne h_t_ways t_met h_t_left t_hours t_greatest h_t_text t_typed t_at t_start t_token t_value h_t_verbs h_t_nums t_items)), (h_t_book, .inl (cI, 460, .inl t_book))] [(h_t, .inr (8, fX10 h_t_book h_t_images h_t_kept h_t_aside h_t_far h_t_then h_t_row h_t_mays h_t_firstRow h_t_low h_t_high t_noOlder t_thanThis t_known t_knownAge t_moved h_t_lowOne h_t_highOne h_t_ways o1 h_t_left t_hours t_greatest h_t_text t_typed t_at t_start t_token t_value h_t_verbs h_t_nums t_items)), (h_t_book, .inl (cI, 460, .inl t_book))] (some (.int o0)) := by
  refine CM_of (cc := cX10_bearsYear) (maxL := 9) (ret := (some .boolean)) (by decide +kernel) rfl (Nat.le_of_ble_eq_true rfl) ?_
  intro p e s m args below meth c A Q hx hb hr hml hown hts hlocks hA hK hP hD hS hE hQ hAe ls hl
  have hown : s.vm.findClass RX10 = some m.cls := hown
  have hl : lv_has ls 9 [(0, .ref h_t), (1, .int p1), (2, .int p2)] := hl
  unfold f_X10_bearsYear at hf
  refine lv_iconst (v := (1 : Int32)) hx hb dX10_bearsYear_0 (by decide) ?_
  refine lv_istore_n (lv' := [(3, .int (1 : Int32)), (0, .ref h_t), (1, .int p1), (2, .int p2)]) hx hb dX10_bearsYear_1 rfl hl (by decide) rfl (fun ls hl => ?_)
  refine lv_iconst (v := (1 : Int32)) hx hb dX10_bearsYear_2 (by decide) ?_
  refine lv_istore (lv' := [(4, .int (1 : Int32)), (3, .int (1 : Int32)), (0, .ref h_t), (1, .int p1), (2, .int p2)]) hx hb dX10_bearsYear_3 hl (by decide) rfl (fun ls hl => ?_)
  refine lv_aload_n hx hb dX10_bearsYear_5 rfl (lv_at hl 2 rfl) ?_
  refine lv_iconst (v := (0 : Int32)) hx hb dX10_bearsYear_6 (by decide) ?_
  refine va_put (D := (dC, dI)) (ci := 8) (v := .int (0 : Int32)) (ty := tyX10 19) (C := RX10) (T := TX10) (N := 32) hx hb hts (in1 tw_X10) tyX10 tyX10_ok nmX10 hown hK hP hD hS 0 rfl rfl 19 (by decide) (hts _ (List.mem_cons_of_mem _ kw_283)) (fun _ h9 => h9) rfl (tyX10_ok 19 (by decide)) rfl rfl (Nat.le_of_ble_eq_true rfl) dX10_bearsYear_7 (fun H locs hP hD hS => ?_)
  have hP : va_P (dC, dI) vwCl [(h_t, .inr (8, fX10 h_t_book h_t_images h_t_kept h_t_aside h_t_far h_t_then h_t_row h_t_mays h_t_firstRow h_t_low h_t_high t_noOlder t_thanThis t_known t_knownAge t_moved h_t_lowOne h_t_highOne h_t_ways (0 : Int32) h_t_left t_hours t_greatest h_t_text t_typed t_at t_start t_token t_value h_t_verbs h_t_nums t_items)), (h_t_book, .inl (cI, 460, .inl t_book))] H := hP
  have hD : va_D A [(h_t, .inr (8, fX10 h_t_book h_t_images h_t_kept h_t_aside h_t_far h_t_then h_t_row h_t_mays h_t_firstRow h_t_low h_t_high t_noOlder t_thanThis t_known t_knownAge t_moved h_t_lowOne h_t_highOne h_t_ways (0 : Int32) h_t_left t_hours t_greatest h_t_text t_typed t_at t_start t_token t_value h_t_verbs h_t_nums t_items)), (h_t_book, .inl (cI, 460, .inl t_book))] := hD
  refine lv_iconst (v := (0 : Int32)) hx hb dX10_bearsYear_10 (by decide) ?_
  refine lv_istore (lv' := [(5, .int (0 : Int32)), (4, .int (1 : Int32)), (3, .int (1 : Int32)), (0, .ref h_t), (1, .int p1), (2, .int p2)]) hx hb dX10_bearsYear_11 hl (by decide) rfl (fun ls hl => ?_)
  have L80 : ∀ (fu45 : Nat) (x40 : Int32) (x41 : Int32) (x42 : Int32) (x43 : Int32) (x38 : Int32) (x39 : Int32), f_X10_bearsYear_L1 t_book p1 p2 fu45 x40 x41 x42 x43 = some (x38, x39) → (∀ (H : Heap) (locs : List Loc), va_P (dC, dI) vwCl [(h_t, .inr (8, fX10 h_t_book h_t_images h_t_kept h_t_aside h_t_far h_t_then h_t_row h_t_mays h_t_firstRow h_t_low h_t_high t_noOlder t_thanThis t_known t_knownAge t_moved h_t_lowOne h_t_highOne h_t_ways x38 h_t_left t_hours t_greatest h_t_text t_typed t_at t_start t_token t_value h_t_verbs h_t_nums t_items)), (h_t_book, .inl (cI, 460, .inl t_book))] H → va_D A [(h_t, .inr (8, fX10 h_t_book h_t_images h_t_kept h_t_aside h_t_far h_t_then h_t_row h_t_mays h_t_firstRow h_t_low h_t_high t_noOlder t_thanThis t_known t_knownAge t_moved h_t_lowOne h_t_highOne h_t_ways x38 h_t_left t_hours t_greatest h_t_text t_typed t_at t_start t_token t_value h_t_verbs h_t_nums t_items)), (h_t_book, .inl (cI, 460, .inl t_book))] → va_S A s.heap H locs → ∀ ls : Array Slot, lv_has ls 9 [(3, .int x39)] → W p l e rmX10_bearsYear s m args below meth c H locs 0 0 Q (F0 m 181 ls [])) → ∀ (H : Heap) (locs : List Loc), va_P (dC, dI) vwCl [(h_t, .inr (8, fX10 h_t_book h_t_images h_t_kept h_t_aside h_t_far h_t_then h_t_row h_t_mays h_t_firstRow h_t_low h_t_high t_noOlder t_thanThis t_known t_knownAge t_moved h_t_lowOne h_t_highOne h_t_ways x40 h_t_left t_hours t_greatest h_t_text t_typed t_at t_start t_token t_value h_t_verbs h_t_nums t_items)), (h_t_book, .inl (cI, 460, .inl t_book))] H → va_D A [(h_t, .inr (8, fX10 h_t_book h_t_images h_t_kept h_t_aside h_t_far h_t_then h_t_row h_t_mays h_t_firstRow h_t_low h_t_high t_noOlder t_thanThis t_known t_knownAge t_moved h_t_lowOne h_t_highOne h_t_ways x40 h_t_left t_hours t_greatest h_t_text t_typed t_at t_start t_token t_value h_t_verbs h_t_nums t_items)), (h_t_book, .inl (cI, 460, .inl t_book))] → va_S A s.heap H locs → ∀ ls : Array Slot, lv_has ls 9 [(0, .ref h_t), (1, .int p1), (2, .int p2), (3, .int x41), (4, .int x42), (5, .int x43)] → W p l e rmX10_bearsYear s m args below meth c H locs 0 0 Q (F0 m 13 ls []) := by
    intro fu45
    induction fu45 with
    | zero =>
      intro x40 x41 x42 x43 x38 x39 hf
      unfold f_X10_bearsYear_L1 at hf
      exact none_ne hf
    | succ fu45 ih44 =>
      intro x40 x41 x42 x43 x38 x39 hf hX46 H locs hP hD hS ls hl
      unfold f_X10_bearsYear_L1 at hf
      refine lv_iload hx hb dX10_bearsYear_13 (lv_at hl 5 rfl) ?_
      refine lv_aload_n hx hb dX10_bearsYear_15 rfl (lv_at hl 0 rfl) ?_
      refine va_get (D := (dC, dI)) (ci := 8) (v := .ref h_t_book) (C := RX10) (T := TX10) (N := 32) hx hb hts (in1 tw_X10) hown hK hP 0 rfl rfl 0 (by decide) (hts _ (List.mem_cons_of_mem _ kw_116)) (fun _ h9 => h9) rfl dX10_bearsYear_16 ?_
      refine lv_iconst (v := (5 : Int32)) hx hb dX10_bearsYear_19 (by decide) ?_
      obtain ⟨g47, hf⟩ := chk_some hf
      refine va_iald hx hb hK hP 1 0 rfl rfl (gin_in g47) dX10_bearsYear_20 ?_
      refine lv_icmp_ge (tgt := 181) hx hb dX10_bearsYear_21 (by decide) (fun c48 => ?_) (fun c48 => ?_)
      · replace hf := ifp c48 hf
        obtain ⟨rfl, rfl⟩ := inj2 hf
        exact hX46 _ _ hP hD hS _ (lv_sub hl [3] rfl)
      · replace hf := ifn c48 hf
        refine lv_sipush (v := (370 : Int32)) hx hb dX10_bearsYear_24 (by decide) ?_
        refine lv_iconst (v := (4 : Int32)) hx hb dX10_bearsYear_27 (by decide) ?_
        refine lv_iload hx hb dX10_bearsYear_28 (lv_at hl 5 rfl) ?_
        refine lv_imul hx hb dX10_bearsYear_30 ?_
        refine lv_iadd hx hb dX10_bearsYear_31 ?_
        obtain ⟨x49, e50, hf⟩ := nm_some hf
        refine lv_tope e50 ?_
        refine lv_istore (lv' := [(6, .int x49), (0, .ref h_t), (1, .int p1), (2, .int p2), (3, .int x41), (4, .int x42), (5, .int x43)]) hx hb dX10_bearsYear_32 hl (by decide) rfl (fun ls hl => ?_)
        refine lv_iload_n hx hb dX10_bearsYear_34 rfl (lv_at hl 2 rfl) ?_
        refine lv_aload_n hx hb dX10_bearsYear_35 rfl (lv_at hl 1 rfl) ?_
        refine va_get (D := (dC, dI)) (ci := 8) (v := .ref h_t_book) (C := RX10) (T := TX10) (N := 32) hx hb hts (in1 tw_X10) hown hK hP 0 rfl rfl 0 (by decide) (hts _ (List.mem_cons_of_mem _ kw_116)) (fun _ h9 => h9) rfl dX10_bearsYear_36 ?_
        refine lv_iload hx hb dX10_bearsYear_39 (lv_at hl 0 rfl) ?_
        refine lv_iconst (v := (2 : Int32)) hx hb dX10_bearsYear_41 (by decide) ?_
        refine lv_iadd hx hb dX10_bearsYear_42 ?_
        obtain ⟨g51, hf⟩ := chk_some hf
        refine va_iald hx hb hK hP 1 0 rfl rfl (gin_in g51) dX10_bearsYear_43 ?_
        obtain ⟨x52, hg, hf⟩ := bd1_some hf
        have J53 : ∀ (H : Heap) (locs : List Loc), va_P (dC, dI) vwCl [(h_t, .inr (8, fX10 h_t_book h_t_images h_t_kept h_t_aside h_t_far h_t_then h_t_row h_t_mays h_t_firstRow h_t_low h_t_high t_noOlder t_thanThis t_known t_knownAge t_moved h_t_lowOne h_t_highOne h_t_ways x40 h_t_left t_hours t_greatest h_t_text t_typed t_at t_start t_token t_value h_t_verbs h_t_nums t_items)), (h_t_book, .inl (cI, 460, .inl t_book))] H → va_D A [(h_t, .inr (8, fX10 h_t_book h_t_images h_t_kept h_t_aside h_t_far h_t_then h_t_row h_t_mays h_t_firstRow h_t_low h_t_high t_noOlder t_thanThis t_known t_knownAge t_moved h_t_lowOne h_t_highOne h_t_ways x40 h_t_left t_hours t_greatest h_t_text t_typed t_at t_start t_token t_value h_t_verbs h_t_nums t_items)), (h_t_book, .inl (cI, 460, .inl t_book))] → va_S A s.heap H locs → ∀ ls : Array Slot, lv_has ls 9 [(0, .ref h_t), (1, .int p1), (2, .int p2), (3, .int x41), (4, .int x42), (5, .int x43), (6, .int x49)] → W p l e rmX10_bearsYear s m args below meth c H locs 0 0 Q (F0 m 65 ls [.int x52]) := by
          intro H locs hP hD hS ls hl
          refine lv_istore (lv' := [(7, .int x52), (0, .ref h_t), (1, .int p1), (2, .int p2), (3, .int x41), (4, .int x42), (5, .int x43), (6, .int x49)]) hx hb dX10_bearsYear_65 hl (by decide) rfl (fun ls hl => ?_)
          refine lv_aload_n hx hb dX10_bearsYear_67 rfl (lv_at hl 1 rfl) ?_
          refine va_get (D := (dC, dI)) (ci := 8) (v := .ref h_t_book) (C := RX10) (T := TX10) (N := 32) hx hb hts (in1 tw_X10) hown hK hP 0 rfl rfl 0 (by decide) (hts _ (List.mem_cons_of_mem _ kw_116)) (fun _ h9 => h9) rfl dX10_bearsYear_68 ?_
          refine lv_iload hx hb dX10_bearsYear_71 (lv_at hl 7 rfl) ?_
          obtain ⟨g54, hf⟩ := chk_some hf
          refine va_iald hx hb hK hP 1 0 rfl rfl (gin_in g54) dX10_bearsYear_73 ?_
          obtain ⟨x55, e56, hf⟩ := nm_some hf
          refine lv_tope e56 ?_
          refine lv_istore (lv' := [(8, .int x55), (7, .int x52), (0, .ref h_t), (1, .int p1), (2, .int p2), (3, .int x41), (4, .int x42), (5, .int x43), (6, .int x49)]) hx hb dX10_bearsYear_74 hl (by decide) rfl (fun ls hl => ?_)
          refine lv_iload_n hx hb dX10_bearsYear_76 rfl (lv_at hl 5 rfl) ?_
          obtain ⟨x57, hg, hf⟩ := bd1_some hf
          have J58 : ∀ (H : Heap) (locs : List Loc), va_P (dC, dI) vwCl [(h_t, .inr (8, fX10 h_t_book h_t_images h_t_kept h_t_aside h_t_far h_t_then h_t_row h_t_mays h_t_firstRow h_t_low h_t_high t_noOlder t_thanThis t_known t_knownAge t_moved h_t_lowOne h_t_highOne h_t_ways x40 h_t_left t_hours t_greatest h_t_text t_typed t_at t_start t_token t_value h_t_verbs h_t_nums t_items)), (h_t_book, .inl (cI, 460, .inl t_book))] H → va_D A [(h_t, .inr (8, fX10 h_t_book h_t_images h_t_kept h_t_aside h_t_far h_t_then h_t_row h_t_mays h_t_firstRow h_t_low h_t_high t_noOlder t_thanThis t_known t_knownAge t_moved h_t_lowOne h_t_highOne h_t_ways x40 h_t_left t_hours t_greatest h_t_text t_typed t_at t_start t_token t_value h_t_verbs h_t_nums t_items)), (h_t_book, .inl (cI, 460, .inl t_book))] → va_S A s.heap H locs → ∀ ls : Array Slot, lv_has ls 9 [(0, .ref h_t), (1, .int p1), (2, .int p2), (4, .int x42), (5, .int x43), (6, .int x49), (7, .int x52), (8, .int x55)] → W p l e rmX10_bearsYear s m args below meth c H locs 0 0 Q (F0 m 130 ls [.int x57]) := by
            intro H locs hP hD hS ls hl
            refine lv_istore_n (lv' := [(3, .int x57), (0, .ref h_t), (1, .int p1), (2, .int p2), (4, .int x42), (5, .int x43), (6, .int x49), (7, .int x52), (8, .int x55)]) hx hb dX10_bearsYear_130 rfl hl (by decide) rfl (fun ls hl => ?_)
            refine lv_iload hx hb dX10_bearsYear_131 (lv_at hl 8 rfl) ?_
            refine lv_if_ne (tgt := 175) hx hb dX10_bearsYear_133 (by decide) (fun c59 => ?_) (fun c59 => ?_)
            · replace hf := ifn c59 hf
              refine lv_iinc (v := (x43 + (1 : Int32))) (lv' := [(5, .int (x43 + (1 : Int32))), (3, .int x57), (0, .ref h_t), (1, .int p1), (2, .int p2), (4, .int x42), (6, .int x49), (7, .int x52), (8, .int x55)]) hx hb dX10_bearsYear_175 hl (k := 5) rfl rfl (by decide) rfl (fun ls hl => ?_)
              refine lv_goto (tgt := 13) hx hb dX10_bearsYear_178 (by decide) ?_
              exact ih44 _ _ _ _ _ _ hf hX46 _ _ hP hD hS _ (lv_sub hl [2, 3, 4, 1, 5, 0] rfl)
            · replace hf := ifp c59 hf
              refine lv_aload_n hx hb dX10_bearsYear_136 rfl (lv_at hl 1 rfl) ?_
              refine lv_dup hx hb dX10_bearsYear_137 rfl ?_
              refine va_get (D := (dC, dI)) (ci := 8) (v := .int x40) (C := RX10) (T := TX10) (N := 32) hx hb hts (in1 tw_X10) hown hK hP 0 rfl rfl 19 (by decide) (hts _ (List.mem_cons_of_mem _ kw_283)) (fun _ h9 => h9) rfl dX10_bearsYear_138 ?_
              refine lv_iload hx hb dX10_bearsYear_141 (lv_at hl 7 rfl) ?_
              obtain ⟨x60, hg, hf⟩ := bd1_some hf
              have J61 : ∀ (H : Heap) (locs : List Loc), va_P (dC, dI) vwCl [(h_t, .inr (8, fX10 h_t_book h_t_images h_t_kept h_t_aside h_t_far h_t_then h_t_row h_t_mays h_t_firstRow h_t_low h_t_high t_noOlder t_thanThis t_known t_knownAge t_moved h_t_lowOne h_t_highOne h_t_ways x40 h_t_left t_hours t_greatest h_t_text t_typed t_at t_start t_token t_value h_t_verbs h_t_nums t_items)), (h_t_book, .inl (cI, 460, .inl t_book))] H → va_D A [(h_t, .inr (8, fX10 h_t_book h_t_images h_t_kept h_t_aside h_t_far h_t_then h_t_row h_t_mays h_t_firstRow h_t_low h_t_high t_noOlder t_thanThis t_known t_knownAge t_moved h_t_lowOne h_t_highOne h_t_ways x40 h_t_left t_hours t_greatest h_t_text t_typed t_at t_start t_token t_value h_t_verbs h_t_nums t_items)), (h_t_book, .inl (cI, 460, .inl t_book))] → va_S A s.heap H locs → ∀ ls : Array Slot, lv_has ls 9 [(0, .ref h_t), (1, .int p1), (2, .int p2), (3, .int x57), (4, .int x42), (5, .int x43)] → W p l e rmX10_bearsYear s m args below meth c H locs 0 0 Q (F0 m 165 ls [.int x60, .int x40, .ref h_t]) := by
                intro H locs hP hD hS ls hl
                refine lv_ior hx hb dX10_bearsYear_165 ?_
                obtain ⟨x62, e63, hf⟩ := nm_some hf
                refine lv_tope e63 ?_
                refine va_put (D := (dC, dI)) (ci := 8) (v := .int x62) (ty := tyX10 19) (C := RX10) (T := TX10) (N := 32) hx hb hts (in1 tw_X10) tyX10 tyX10_ok nmX10 hown hK hP hD hS 0 rfl rfl 19 (by decide) (hts _ (List.mem_cons_of_mem _ kw_283)) (fun _ h9 => h9) rfl (tyX10_ok 19 (by decide)) rfl rfl (Nat.le_of_ble_eq_true rfl) dX10_bearsYear_166 (fun H locs hP hD hS => ?_)
                have hP : va_P (dC, dI) vwCl [(h_t, .inr (8, fX10 h_t_book h_t_images h_t_kept h_t_aside h_t_far h_t_then h_t_row h_t_mays h_t_firstRow h_t_low h_t_high t_noOlder t_thanThis t_known t_knownAge t_moved h_t_lowOne h_t_highOne h_t_ways x62 h_t_left t_hours t_greatest h_t_text t_typed t_at t_start t_token t_value h_t_verbs h_t_nums t_items)), (h_t_book, .inl (cI, 460, .inl t_book))] H := hP
                have hD : va_D A [(h_t, .inr (8, fX10 h_t_book h_t_images h_t_kept h_t_aside h_t_far h_t_then h_t_row h_t_mays h_t_firstRow h_t_low h_t_high t_noOlder t_thanThis t_known t_knownAge t_moved h_t_lowOne h_t_highOne h_t_ways x62 h_t_left t_hours t_greatest h_t_text t_typed t_at t_start t_token t_value h_t_verbs h_t_nums t_items)), (h_t_book, .inl (cI, 460, .inl t_book))] := hD
                refine lv_iload hx hb dX10_bearsYear_169 (lv_at hl 4 rfl) ?_
                refine lv_iconst (v := (2 : Int32)) hx hb dX10_bearsYear_171 (by decide) ?_
                refine lv_imul hx hb dX10_bearsYear_172 ?_
                obtain ⟨x64, e65, hf⟩ := nm_some hf
                refine lv_tope e65 ?_
                refine lv_istore (lv' := [(4, .int x64), (0, .ref h_t), (1, .int p1), (2, .int p2), (3, .int x57), (5, .int x43)]) hx hb dX10_bearsYear_173 hl (by decide) rfl (fun ls hl => ?_)
                refine lv_iinc (v := (x43 + (1 : Int32))) (lv' := [(5, .int (x43 + (1 : Int32))), (4, .int x64), (0, .ref h_t), (1, .int p1), (2, .int p2), (3, .int x57)]) hx hb dX10_bearsYear_175 hl (k := 5) rfl rfl (by decide) rfl (fun ls hl => ?_)
                refine lv_goto (tgt := 13) hx hb dX10_bearsYear_178 (by decide) ?_
                exact ih44 _ _ _ _ _ _ hf hX46 _ _ hP hD hS _ (lv_sub hl [2, 3, 4, 5, 1, 0] rfl)
              clear hf
              have hf := hg
              refine lv_if_eq (tgt := 164) hx hb dX10_bearsYear_143 (by decide) (fun c66 => ?_) (fun c66 => ?_)
              · replace hf := ifp c66 hf
                refine lv_iconst (v := (0 : Int32)) hx hb dX10_bearsYear_164 (by decide) ?_
                obtain rfl := inj1 hf
                exact J61 _ _ hP hD hS _ (lv_sub hl [1, 2, 3, 0, 4, 5] rfl)
              · replace hf := ifn c66 hf
                refine lv_iload_n hx hb dX10_bearsYear_146 rfl (lv_at hl 3 rfl) ?_
                refine lv_aload_n hx hb dX10_bearsYear_147 rfl (lv_at hl 1 rfl) ?_
                refine va_get (D := (dC, dI)) (ci := 8) (v := .ref h_t_book) (C := RX10) (T := TX10) (N := 32) hx hb hts (in1 tw_X10) hown hK hP 0 rfl rfl 0 (by decide) (hts _ (List.mem_cons_of_mem _ kw_116)) (fun _ h9 => h9) rfl dX10_bearsYear_148 ?_
                refine lv_iload hx hb dX10_bearsYear_151 (lv_at hl 6 rfl) ?_
                refine lv_iconst (v := (1 : Int32)) hx hb dX10_bearsYear_153 (by decide) ?_
                refine lv_iadd hx hb dX10_bearsYear_154 ?_
                obtain ⟨g67, hf⟩ := chk_some hf
                refine va_iald hx hb hK hP 1 0 rfl rfl (gin_in g67) dX10_bearsYear_155 ?_
                refine lv_icmp_ne (tgt := 164) hx hb dX10_bearsYear_156 (by decide) (fun c68 => ?_) (fun c68 => ?_)
                · replace hf := ifn c68 hf
                  refine lv_iconst (v := (0 : Int32)) hx hb dX10_bearsYear_164 (by decide) ?_
                  obtain rfl := inj1 hf
                  exact J61 _ _ hP hD hS _ (lv_sub hl [1, 2, 3, 0, 4, 5] rfl)
                · replace hf := ifp c68 hf
                  refine lv_iload hx hb dX10_bearsYear_159 (lv_at hl 4 rfl) ?_
                  refine lv_goto (tgt := 165) hx hb dX10_bearsYear_161 (by decide) ?_
                  obtain rfl := inj1 hf
                  exact J61 _ _ hP hD hS _ (lv_sub hl [1, 2, 3, 0, 4, 5] rfl)
          clear hf
          have hf := hg
          refine lv_if_eq (tgt := 129) hx hb dX10_bearsYear_77 (by decide) (fun c69 => ?_) (fun c69 => ?_)
          · replace hf := ifp c69 hf
            refine lv_iconst (v := (0 : Int32)) hx hb dX10_bearsYear_129 (by decide) ?_
            obtain rfl := inj1 hf
            exact J58 _ _ hP hD hS _ (lv_sub hl [2, 3, 4, 6, 7, 8, 1, 0] rfl)
          · replace hf := ifn c69 hf
            refine lv_iload hx hb dX10_bearsYear_80 (lv_at hl 1 rfl) ?_
            refine lv_if_eq (tgt := 125) hx hb dX10_bearsYear_82 (by decide) (fun c70 => ?_) (fun c70 => ?_)
            · replace hf := ifp c70 hf
              refine lv_iconst (v := (1 : Int32)) hx hb dX10_bearsYear_125 (by decide) ?_
              refine lv_goto (tgt := 130) hx hb dX10_bearsYear_126 (by decide) ?_
              obtain rfl := inj1 hf
              exact J58 _ _ hP hD hS _ (lv_sub hl [2, 3, 4, 6, 7, 8, 1, 0] rfl)
            · replace hf := ifn c70 hf
              refine lv_iload hx hb dX10_bearsYear_85 (lv_at hl 0 rfl) ?_
              refine lv_if_eq (tgt := 125) hx hb dX10_bearsYear_87 (by decide) (fun c71 => ?_) (fun c71 => ?_)
              · replace hf := ifp c71 hf
                refine lv_iconst (v := (1 : Int32)) hx hb dX10_bearsYear_125 (by decide) ?_
                refine lv_goto (tgt := 130) hx hb dX10_bearsYear_126 (by decide) ?_
                obtain rfl := inj1 hf
                exact J58 _ _ hP hD hS _ (lv_sub hl [2, 3, 4, 6, 7, 8, 1, 0] rfl)
              · replace hf := ifn c71 hf
                refine lv_iload hx hb dX10_bearsYear_90 (lv_at hl 0 rfl) ?_
                refine lv_iconst (v := (1 : Int32)) hx hb dX10_bearsYear_92 (by decide) ?_
                refine lv_icmp_ne (tgt := 112) hx hb dX10_bearsYear_93 (by decide) (fun c72 => ?_) (fun c72 => ?_)
                · replace hf := ifn c72 hf
                  refine lv_iload_n hx hb dX10_bearsYear_112 rfl (lv_at hl 4 rfl) ?_
                  refine lv_aload_n hx hb dX10_bearsYear_113 rfl (lv_at hl 2 rfl) ?_
                  refine va_get (D := (dC, dI)) (ci := 8) (v := .ref h_t_book) (C := RX10) (T := TX10) (N := 32) hx hb hts (in1 tw_X10) hown hK hP 0 rfl rfl 0 (by decide) (hts _ (List.mem_cons_of_mem _ kw_116)) (fun _ h9 => h9) rfl dX10_bearsYear_114 ?_
                  refine lv_iload hx hb dX10_bearsYear_117 (lv_at hl 8 rfl) ?_
                  refine lv_iconst (v := (1 : Int32)) hx hb dX10_bearsYear_119 (by decide) ?_
                  refine lv_iadd hx hb dX10_bearsYear_120 ?_
                  obtain ⟨g73, hf⟩ := chk_some hf
                  refine va_iald hx hb hK hP 1 0 rfl rfl (gin_in g73) dX10_bearsYear_121 ?_
                  refine lv_icmp_lt (tgt := 129) hx hb dX10_bearsYear_122 (by decide) (fun c74 => ?_) (fun c74 => ?_)
                  · replace hf := ifp c74 hf
                    refine lv_iconst (v := (0 : Int32)) hx hb dX10_bearsYear_129 (by decide) ?_
                    obtain rfl := inj1 hf
                    exact J58 _ _ hP hD hS _ (lv_sub hl [2, 3, 4, 6, 7, 8, 1, 0] rfl)
                  · replace hf := ifn c74 hf
                    refine lv_iconst (v := (1 : Int32)) hx hb dX10_bearsYear_125 (by decide) ?_
                    refine lv_goto (tgt := 130) hx hb dX10_bearsYear_126 (by decide) ?_
                    obtain rfl := inj1 hf
                    exact J58 _ _ hP hD hS _ (lv_sub hl [2, 3, 4, 6, 7, 8, 1, 0] rfl)
                · replace hf := ifp c72 hf
                  refine lv_iload_n hx hb dX10_bearsYear_96 rfl (lv_at hl 4 rfl) ?_
                  refine lv_aload_n hx hb dX10_bearsYear_97 rfl (lv_at hl 2 rfl) ?_
                  refine va_get (D := (dC, dI)) (ci := 8) (v := .ref h_t_book) (C := RX10) (T := TX10) (N := 32) hx hb hts (in1 tw_X10) hown hK hP 0 rfl rfl 0 (by decide) (hts _ (List.mem_cons_of_mem _ kw_116)) (fun _ h9 => h9) rfl dX10_bearsYear_98 ?_
                  refine lv_iload hx hb dX10_bearsYear_101 (lv_at hl 8 rfl) ?_
                  refine lv_iconst (v := (1 : Int32)) hx hb dX10_bearsYear_103 (by decide) ?_
                  refine lv_iadd hx hb dX10_bearsYear_104 ?_
                  obtain ⟨g75, hf⟩ := chk_some hf
                  refine va_iald hx hb hK hP 1 0 rfl rfl (gin_in g75) dX10_bearsYear_105 ?_
                  refine lv_icmp_gt (tgt := 129) hx hb dX10_bearsYear_106 (by decide) (fun c76 => ?_) (fun c76 => ?_)
                  · replace hf := ifp c76 hf
                    refine lv_iconst (v := (0 : Int32)) hx hb dX10_bearsYear_129 (by decide) ?_
                    obtain rfl := inj1 hf
                    exact J58 _ _ hP hD hS _ (lv_sub hl [2, 3, 4, 6, 7, 8, 1, 0] rfl)
                  · replace hf := ifn c76 hf
                    refine lv_goto (tgt := 125) hx hb dX10_bearsYear_109 (by decide) ?_
                    refine lv_iconst (v := (1 : Int32)) hx hb dX10_bearsYear_125 (by decide) ?_
                    refine lv_goto (tgt := 130) hx hb dX10_bearsYear_126 (by decide) ?_
                    obtain rfl := inj1 hf
                    exact J58 _ _ hP hD hS _ (lv_sub hl [2, 3, 4, 6, 7, 8, 1, 0] rfl)
        clear hf
        have hf := hg
        refine lv_icmp_lt (tgt := 64) hx hb dX10_bearsYear_44 (by decide) (fun c77 => ?_) (fun c77 => ?_)
        · replace hf := ifp c77 hf
          refine lv_iconst (v := (0 : Int32)) hx hb dX10_bearsYear_64 (by decide) ?_
          obtain rfl := inj1 hf
          exact J53 _ _ hP hD hS _ (lv_sub hl [1, 2, 3, 4, 5, 6, 0] rfl)
        · replace hf := ifn c77 hf
          refine lv_iload_n hx hb dX10_bearsYear_47 rfl (lv_at hl 2 rfl) ?_
          refine lv_aload_n hx hb dX10_bearsYear_48 rfl (lv_at hl 1 rfl) ?_
          refine va_get (D := (dC, dI)) (ci := 8) (v := .ref h_t_book) (C := RX10) (T := TX10) (N := 32) hx hb hts (in1 tw_X10) hown hK hP 0 rfl rfl 0 (by decide) (hts _ (List.mem_cons_of_mem _ kw_116)) (fun _ h9 => h9) rfl dX10_bearsYear_49 ?_
          refine lv_iload hx hb dX10_bearsYear_52 (lv_at hl 0 rfl) ?_
          refine lv_iconst (v := (3 : Int32)) hx hb dX10_bearsYear_54 (by decide) ?_
          refine lv_iadd hx hb dX10_bearsYear_55 ?_
          obtain ⟨g78, hf⟩ := chk_some hf
          refine va_iald hx hb hK hP 1 0 rfl rfl (gin_in g78) dX10_bearsYear_56 ?_
          refine lv_icmp_gt (tgt := 64) hx hb dX10_bearsYear_57 (by decide) (fun c79 => ?_) (fun c79 => ?_)
          · replace hf := ifp c79 hf
            refine lv_iconst (v := (0 : Int32)) hx hb dX10_bearsYear_64 (by decide) ?_
            obtain rfl := inj1 hf
            exact J53 _ _ hP hD hS _ (lv_sub hl [1, 2, 3, 4, 5, 6, 0] rfl)
          · replace hf := ifn c79 hf
            refine lv_iconst (v := (1 : Int32)) hx hb dX10_bearsYear_60 (by decide) ?_
            refine lv_goto (tgt := 65) hx hb dX10_bearsYear_61 (by decide) ?_
            obtain rfl := inj1 hf
            exact J53 _ _ hP hD hS _ (lv_sub hl [1, 2, 3, 4, 5, 6, 0] rfl)
  obtain ⟨x38, x39, hg, hf⟩ := bd2_some hf
  refine L80 FU _ _ _ _ _ _ hg ?_ _ _ hP hD hS _ (lv_sub hl [3, 4, 5, 2, 1, 0] rfl)
  · intro H locs hP hD hS ls hl
    refine lv_iload_n hx hb dX10_bearsYear_181 rfl (lv_at hl 0 rfl) ?_
    obtain ⟨g81, hf⟩ := chk_some hf
    obtain ⟨rfl, rfl⟩ := inj2 hf
    subst hQ
    exact CM_iret hx hb hr (gz_n g81) hlocks hAe hP hD hS dX10_bearsYear_182
def rmX10_wayAt : Room := { frames := 0, cells := 0, slots := 0, locals := 0 }
abbrev wqX10_wayAt : List Cond := Cond.code yX10_wayAt cX10_wayAt 4 (some .int) :: tG
set_option maxHeartbeats 4000000 in
set_option maxRecDepth 100000 in
theorem c_X10_wayAt (l : Launch) (dC : Nat → ClassId) (dI : Nat → Nat → Nat) (cI cZ : ClassId) (te : Nat → Nat) (h_t : Nat) (p1 : Int32) (p2 : Int32) (p3 : Int32) (o0 : Int32) (hf : f_X10_wayAt p1 p2 p3 = some o0) : CM l yX10_wayAt wqX10_wayAt rmX10_wayAt (kS te) dC dI cI cZ [.ref h_t, .int p1, .int p2, .int p3] [] [] (some (.int o0)) := by
  refine CM_of (cc := cX10_wayAt) (maxL := 4) (ret := (some .int)) (by decide +kernel) rfl (Nat.le_of_ble_eq_true rfl) ?_
  intro p e s m args below meth c A Q hx hb hr hml hown hts hlocks hA hK hP hD hS hE hQ hAe ls hl
  have hown : s.vm.findClass RX10 = some m.cls := hown
  have hl : lv_has ls 4 [(0, .ref h_t), (1, .int p1), (2, .int p2), (3, .int p3)] := hl
  unfold f_X10_wayAt at hf
  refine lv_bipush (v := (21 : Int32)) hx hb dX10_wayAt_0 (by decide) ?_
  refine lv_iload_n hx hb dX10_wayAt_2 rfl (lv_at hl 1 rfl) ?_
  refine lv_imul hx hb dX10_wayAt_3 ?_
  refine lv_iload_n hx hb dX10_wayAt_4 rfl (lv_at hl 2 rfl) ?_
  refine lv_iadd hx hb dX10_wayAt_5 ?_
  refine lv_bipush (v := (32 : Int32)) hx hb dX10_wayAt_6 (by decide) ?_
  refine lv_imul hx hb dX10_wayAt_8 ?_
  refine lv_iload_n hx hb dX10_wayAt_9 rfl (lv_at hl 3 rfl) ?_
  refine lv_iadd hx hb dX10_wayAt_10 ?_
  obtain rfl := inj1 hf
  subst hQ
  exact CM_iret hx hb hr rfl hlocks hAe hP hD hS dX10_wayAt_11
def rmX10_onFrom : Room := { frames := 1, cells := 0, slots := 0, locals := 23 }
abbrev wqX10_onFrom : List Cond := Cond.code yX10_onFrom cX10_onFrom 9 (some .int) :: tG
set_option maxHeartbeats 4000000 in
set_option maxRecDepth 100000 in
theorem c_X10_onFrom (l : Launch) (dC : Nat → ClassId) (dI : Nat → Nat → Nat) (cI cZ : ClassId) (te : Nat → Nat) (h_t : Nat) (h_t_book : Nat) (h_t_images : Nat) (h_t_kept : Nat) (h_t_aside : Nat) (h_t_far : Nat) (h_t_then : Nat) (h_t_row : Nat) (h_t_mays : Nat) (h_t_firstRow : Nat) (h_t_low : Nat) (h_t_high : Nat) (h_t_lowOne : Nat) (h_t_highOne : Nat) (h_t_ways : Nat) (h_t_left : Nat) (h_t_text : Nat) (h_t_verbs : Nat) (h_t_nums : Nat) (t_noOlder : Int32) (t_thanThis : Int32) (t_known : Int32) (t_knownAge : Int32) (t_moved : Int32) (t_met : Int32) (t_hours : Int32) (t_greatest : Int32) (t_typed : Int32) (t_at : Int32) (t_start : Int32) (t_token : Int32) (t_value : Int32) (t_items : Int32) (t_book : Nat → Int32) (t_ways : Nat → Int32) (p1 : Int32) (p2 : Int32) (p3 : Int32) (p4 : Int32) (o0 : Int32) (hf : f_X10_onFrom t_book t_ways p1 p2 p3 p4 = some o0) : CM l yX10_onFrom wqX10_onFrom rmX10_onFrom (kS te) dC dI cI cZ [.ref h_t, .int p1, .int p2, .int p3, .int p4] [(h_t, .inr (8, fX10 h_t_book h_t_images h_t_kept h_t_aside h_t_far h_t_then h_t_row h_t_mays h_t_firstRow h_t_low h_t_high t_noOlder t_thanThis t_known t_knownAge t_moved h_t_lowOne h_t_highOne h_t_ways t_met h_t_left t_hours t_greatest h_t_text t_typed t_at t_start t_token t_value h_t_verbs h_t_nums t_items)), (h_t_book, .inl (cI, 460, .inl t_book)), (h_t_ways, .inl (cI, 26880, .inl t_ways))] [(h_t, .inr (8, fX10 h_t_book h_t_images h_t_kept h_t_aside h_t_far h_t_then h_t_row h_t_mays h_t_firstRow h_t_low h_t_high t_noOlder t_thanThis t_known t_knownAge t_moved h_t_lowOne h_t_highOne h_t_ways t_met h_t_left t_hours t_greatest h_t_text t_typed t_at t_start t_token t_value h_t_verbs h_t_nums t_items)), (h_t_book, .inl (cI, 460, .inl t_book)), (h_t_ways, .inl (cI, 26880, .inl t_ways))] (some (.int o0)) := by
  refine CM_of (cc := cX10_onFrom) (maxL := 9) (ret := (some .int)) (by decide +kernel) rfl (Nat.le_of_ble_eq_true rfl) ?_
  intro p e s m args below meth c A Q hx hb hr hml hown hts hlocks hA hK hP hD hS hE hQ hAe ls hl
  have hown : s.vm.findClass RX10 = some m.cls := hown
  have hl : lv_has ls 9 [(0, .ref h_t), (1, .int p1), (2, .int p2), (3, .int p3), (4, .int p4)] := hl
  unfold f_X10_onFrom at hf
  refine lv_iload_n hx hb dX10_onFrom_0 rfl (lv_at hl 1 rfl) ?_
  refine lv_bipush (v := (39 : Int32)) hx hb dX10_onFrom_1 (by decide) ?_
  refine lv_icmp_ne (tgt := 19) hx hb dX10_onFrom_3 (by decide) (fun c1 => ?_) (fun c1 => ?_)
  · replace hf := ifn c1 hf
    refine lv_ldc (v := (1000000 : Int32)) hx hb hown (hts _ (List.mem_cons_of_mem _ kw_192)) dX10_onFrom_19 ?_
    refine lv_istore (lv' := [(5, .int (1000000 : Int32)), (0, .ref h_t), (1, .int p1), (2, .int p2), (3, .int p3), (4, .int p4)]) hx hb dX10_onFrom_21 hl (by decide) rfl (fun ls hl => ?_)
    refine lv_iconst (v := (0 : Int32)) hx hb dX10_onFrom_23 (by decide) ?_
    refine lv_istore (lv' := [(6, .int (0 : Int32)), (5, .int (1000000 : Int32)), (0, .ref h_t), (1, .int p1), (2, .int p2), (3, .int p3), (4, .int p4)]) hx hb dX10_onFrom_24 hl (by decide) rfl (fun ls hl => ?_)
    have L34 : ∀ (fu20 : Nat) (x17 : Int32) (x18 : Int32) (x16 : Int32), f_X10_onFrom_L1 p2 t_book p1 p3 t_ways fu20 x17 x18 = some x16 → (∀ (H : Heap) (locs : List Loc), va_P (dC, dI) vwCl [(h_t, .inr (8, fX10 h_t_book h_t_images h_t_kept h_t_aside h_t_far h_t_then h_t_row h_t_mays h_t_firstRow h_t_low h_t_high t_noOlder t_thanThis t_known t_knownAge t_moved h_t_lowOne h_t_highOne h_t_ways t_met h_t_left t_hours t_greatest h_t_text t_typed t_at t_start t_token t_value h_t_verbs h_t_nums t_items)), (h_t_book, .inl (cI, 460, .inl t_book)), (h_t_ways, .inl (cI, 26880, .inl t_ways))] H → va_D A [(h_t, .inr (8, fX10 h_t_book h_t_images h_t_kept h_t_aside h_t_far h_t_then h_t_row h_t_mays h_t_firstRow h_t_low h_t_high t_noOlder t_thanThis t_known t_knownAge t_moved h_t_lowOne h_t_highOne h_t_ways t_met h_t_left t_hours t_greatest h_t_text t_typed t_at t_start t_token t_value h_t_verbs h_t_nums t_items)), (h_t_book, .inl (cI, 460, .inl t_book)), (h_t_ways, .inl (cI, 26880, .inl t_ways))] → va_S A s.heap H locs → ∀ ls : Array Slot, lv_has ls 9 [(5, .int x16)] → W p l e rmX10_onFrom s m args below meth c H locs 0 0 Q (F0 m 111 ls [])) → ∀ (H : Heap) (locs : List Loc), va_P (dC, dI) vwCl [(h_t, .inr (8, fX10 h_t_book h_t_images h_t_kept h_t_aside h_t_far h_t_then h_t_row h_t_mays h_t_firstRow h_t_low h_t_high t_noOlder t_thanThis t_known t_knownAge t_moved h_t_lowOne h_t_highOne h_t_ways t_met h_t_left t_hours t_greatest h_t_text t_typed t_at t_start t_token t_value h_t_verbs h_t_nums t_items)), (h_t_book, .inl (cI, 460, .inl t_book)), (h_t_ways, .inl (cI, 26880, .inl t_ways))] H → va_D A [(h_t, .inr (8, fX10 h_t_book h_t_images h_t_kept h_t_aside h_t_far h_t_then h_t_row h_t_mays h_t_firstRow h_t_low h_t_high t_noOlder t_thanThis t_known t_knownAge t_moved h_t_lowOne h_t_highOne h_t_ways t_met h_t_left t_hours t_greatest h_t_text t_typed t_at t_start t_token t_value h_t_verbs h_t_nums t_items)), (h_t_book, .inl (cI, 460, .inl t_book)), (h_t_ways, .inl (cI, 26880, .inl t_ways))] → va_S A s.heap H locs → ∀ ls : Array Slot, lv_has ls 9 [(0, .ref h_t), (1, .int p1), (2, .int p2), (3, .int p3), (5, .int x17), (6, .int x18)] → W p l e rmX10_onFrom s m args below meth c H locs 0 0 Q (F0 m 26 ls []) := by
      intro fu20
      induction fu20 with
      | zero =>
        intro x17 x18 x16 hf
        unfold f_X10_onFrom_L1 at hf
        exact none_ne hf
      | succ fu20 ih19 =>
        intro x17 x18 x16 hf hX21 H locs hP hD hS ls hl
        unfold f_X10_onFrom_L1 at hf
        refine lv_iload hx hb dX10_onFrom_26 (lv_at hl 5 rfl) ?_
        refine lv_bipush (v := (21 : Int32)) hx hb dX10_onFrom_28 (by decide) ?_
        refine lv_icmp_ge (tgt := 111) hx hb dX10_onFrom_30 (by decide) (fun c22 => ?_) (fun c22 => ?_)
        · replace hf := ifp c22 hf
          obtain rfl := inj1 hf
          exact hX21 _ _ hP hD hS _ (lv_sub hl [4] rfl)
        · replace hf := ifn c22 hf
          refine lv_iload hx hb dX10_onFrom_33 (lv_at hl 5 rfl) ?_
          refine lv_iload_n hx hb dX10_onFrom_35 rfl (lv_at hl 2 rfl) ?_
          obtain ⟨x23, hg, hf⟩ := bd1_some hf
          have J24 : ∀ (H : Heap) (locs : List Loc), va_P (dC, dI) vwCl [(h_t, .inr (8, fX10 h_t_book h_t_images h_t_kept h_t_aside h_t_far h_t_then h_t_row h_t_mays h_t_firstRow h_t_low h_t_high t_noOlder t_thanThis t_known t_knownAge t_moved h_t_lowOne h_t_highOne h_t_ways t_met h_t_left t_hours t_greatest h_t_text t_typed t_at t_start t_token t_value h_t_verbs h_t_nums t_items)), (h_t_book, .inl (cI, 460, .inl t_book)), (h_t_ways, .inl (cI, 26880, .inl t_ways))] H → va_D A [(h_t, .inr (8, fX10 h_t_book h_t_images h_t_kept h_t_aside h_t_far h_t_then h_t_row h_t_mays h_t_firstRow h_t_low h_t_high t_noOlder t_thanThis t_known t_knownAge t_moved h_t_lowOne h_t_highOne h_t_ways t_met h_t_left t_hours t_greatest h_t_text t_typed t_at t_start t_token t_value h_t_verbs h_t_nums t_items)), (h_t_book, .inl (cI, 460, .inl t_book)), (h_t_ways, .inl (cI, 26880, .inl t_ways))] → va_S A s.heap H locs → ∀ ls : Array Slot, lv_has ls 9 [(0, .ref h_t), (1, .int p1), (2, .int p2), (3, .int p3), (5, .int x17), (6, .int x18)] → W p l e rmX10_onFrom s m args below meth c H locs 0 0 Q (F0 m 50 ls [.int x23]) := by
            intro H locs hP hD hS ls hl
            refine lv_istore (lv' := [(7, .int x23), (0, .ref h_t), (1, .int p1), (2, .int p2), (3, .int p3), (5, .int x17), (6, .int x18)]) hx hb dX10_onFrom_50 hl (by decide) rfl (fun ls hl => ?_)
            refine lv_iload hx hb dX10_onFrom_52 (lv_at hl 0 rfl) ?_
            refine lv_aload_n hx hb dX10_onFrom_54 rfl (lv_at hl 1 rfl) ?_
            refine va_get (D := (dC, dI)) (ci := 8) (v := .ref h_t_book) (C := RX10) (T := TX10) (N := 32) hx hb hts (in1 tw_X10) hown hK hP 0 rfl rfl 0 (by decide) (hts _ (List.mem_cons_of_mem _ kw_116)) (fun _ h9 => h9) rfl dX10_onFrom_55 ?_
            refine lv_bipush (v := (7 : Int32)) hx hb dX10_onFrom_58 (by decide) ?_
            obtain ⟨g25, hf⟩ := chk_some hf
            refine va_iald hx hb hK hP 1 0 rfl rfl (gin_in g25) dX10_onFrom_60 ?_
            obtain ⟨x26, hg, hf⟩ := bd1_some hf
            have J27 : ∀ (H : Heap) (locs : List Loc), va_P (dC, dI) vwCl [(h_t, .inr (8, fX10 h_t_book h_t_images h_t_kept h_t_aside h_t_far h_t_then h_t_row h_t_mays h_t_firstRow h_t_low h_t_high t_noOlder t_thanThis t_known t_knownAge t_moved h_t_lowOne h_t_highOne h_t_ways t_met h_t_left t_hours t_greatest h_t_text t_typed t_at t_start t_token t_value h_t_verbs h_t_nums t_items)), (h_t_book, .inl (cI, 460, .inl t_book)), (h_t_ways, .inl (cI, 26880, .inl t_ways))] H → va_D A [(h_t, .inr (8, fX10 h_t_book h_t_images h_t_kept h_t_aside h_t_far h_t_then h_t_row h_t_mays h_t_firstRow h_t_low h_t_high t_noOlder t_thanThis t_known t_knownAge t_moved h_t_lowOne h_t_highOne h_t_ways t_met h_t_left t_hours t_greatest h_t_text t_typed t_at t_start t_token t_value h_t_verbs h_t_nums t_items)), (h_t_book, .inl (cI, 460, .inl t_book)), (h_t_ways, .inl (cI, 26880, .inl t_ways))] → va_S A s.heap H locs → ∀ ls : Array Slot, lv_has ls 9 [(0, .ref h_t), (1, .int p1), (2, .int p2), (3, .int p3), (5, .int x17), (6, .int x18)] → W p l e rmX10_onFrom s m args below meth c H locs 0 0 Q (F0 m 87 ls [.int x26]) := by
              intro H locs hP hD hS ls hl
              refine lv_istore (lv' := [(8, .int x26), (0, .ref h_t), (1, .int p1), (2, .int p2), (3, .int p3), (5, .int x17), (6, .int x18)]) hx hb dX10_onFrom_87 hl (by decide) rfl (fun ls hl => ?_)
              refine lv_iload hx hb dX10_onFrom_89 (lv_at hl 0 rfl) ?_
              refine lv_iload hx hb dX10_onFrom_91 (lv_at hl 5 rfl) ?_
              refine lv_icmp_ge (tgt := 101) hx hb dX10_onFrom_93 (by decide) (fun c28 => ?_) (fun c28 => ?_)
              · replace hf := ifp c28 hf
                refine lv_iload hx hb dX10_onFrom_101 (lv_at hl 5 rfl) ?_
                refine lv_istore (lv' := [(5, .int x17), (8, .int x26), (0, .ref h_t), (1, .int p1), (2, .int p2), (3, .int p3), (6, .int x18)]) hx hb dX10_onFrom_103 hl (by decide) rfl (fun ls hl => ?_)
                refine lv_iinc (v := (x18 + (1 : Int32))) (lv' := [(6, .int (x18 + (1 : Int32))), (5, .int x17), (8, .int x26), (0, .ref h_t), (1, .int p1), (2, .int p2), (3, .int p3)]) hx hb dX10_onFrom_105 hl (k := 6) rfl rfl (by decide) rfl (fun ls hl => ?_)
                refine lv_goto (tgt := 26) hx hb dX10_onFrom_108 (by decide) ?_
                exact ih19 _ _ _ hf hX21 _ _ hP hD hS _ (lv_sub hl [3, 4, 5, 6, 1, 0] rfl)
              · replace hf := ifn c28 hf
                refine lv_iload hx hb dX10_onFrom_96 (lv_at hl 0 rfl) ?_
                refine lv_goto (tgt := 103) hx hb dX10_onFrom_98 (by decide) ?_
                refine lv_istore (lv' := [(5, .int x26), (8, .int x26), (0, .ref h_t), (1, .int p1), (2, .int p2), (3, .int p3), (6, .int x18)]) hx hb dX10_onFrom_103 hl (by decide) rfl (fun ls hl => ?_)
                refine lv_iinc (v := (x18 + (1 : Int32))) (lv' := [(6, .int (x18 + (1 : Int32))), (5, .int x26), (8, .int x26), (0, .ref h_t), (1, .int p1), (2, .int p2), (3, .int p3)]) hx hb dX10_onFrom_105 hl (k := 6) rfl rfl (by decide) rfl (fun ls hl => ?_)
                refine lv_goto (tgt := 26) hx hb dX10_onFrom_108 (by decide) ?_
                exact ih19 _ _ _ hf hX21 _ _ hP hD hS _ (lv_sub hl [3, 4, 5, 6, 1, 0] rfl)
            clear hf
            have hf := hg
            refine lv_icmp_gt (tgt := 85) hx hb dX10_onFrom_61 (by decide) (fun c29 => ?_) (fun c29 => ?_)
            · replace hf := ifp c29 hf
              refine lv_ldc (v := (1000000 : Int32)) hx hb hown (hts _ (List.mem_cons_of_mem _ kw_192)) dX10_onFrom_85 ?_
              obtain rfl := inj1 hf
              exact J27 _ _ hP hD hS _ (lv_sub hl [1, 2, 3, 4, 5, 6] rfl)
            · replace hf := ifn c29 hf
              refine lv_iload hx hb dX10_onFrom_64 (lv_at hl 0 rfl) ?_
              refine lv_aload_n hx hb dX10_onFrom_66 rfl (lv_at hl 1 rfl) ?_
              refine va_get (D := (dC, dI)) (ci := 8) (v := .ref h_t_ways) (C := RX10) (T := TX10) (N := 32) hx hb hts (in1 tw_X10) hown hK hP 0 rfl rfl 18 (by decide) (hts _ (List.mem_cons_of_mem _ kw_130)) (fun _ h9 => h9) rfl dX10_onFrom_67 ?_
              refine lv_aload_n hx hb dX10_onFrom_70 rfl (lv_at hl 1 rfl) ?_
              refine lv_iload_n hx hb dX10_onFrom_71 rfl (lv_at hl 2 rfl) ?_
              refine lv_iconst (v := (1 : Int32)) hx hb dX10_onFrom_72 (by decide) ?_
              refine lv_iadd hx hb dX10_onFrom_73 ?_
              refine lv_iload hx hb dX10_onFrom_74 (lv_at hl 6 rfl) ?_
              refine lv_iload_n hx hb dX10_onFrom_76 rfl (lv_at hl 4 rfl) ?_
              obtain ⟨r30, hg31, hf⟩ := bd1_some hf
              refine CM_callV (C := RX10) (As := [.int (p1 + (1 : Int32)), .int x18, .int p3]) (rest := [.ref h_t_ways, .int x23]) (wc := []) (w1 := []) (wr := [(h_t, .inr (8, fX10 h_t_book h_t_images h_t_kept h_t_aside h_t_far h_t_then h_t_row h_t_mays h_t_firstRow h_t_low h_t_high t_noOlder t_thanThis t_known t_knownAge t_moved h_t_lowOne h_t_highOne h_t_ways t_met h_t_left t_hours t_greatest h_t_text t_typed t_at t_start t_token t_value h_t_verbs h_t_nums t_items)), (h_t_book, .inl (cI, 460, .inl t_book)), (h_t_ways, .inl (cI, 26880, .inl t_ways))]) (wo := [(h_t, .inr (8, fX10 h_t_book h_t_images h_t_kept h_t_aside h_t_far h_t_then h_t_row h_t_mays h_t_firstRow h_t_low h_t_high t_noOlder t_thanThis t_known t_knownAge t_moved h_t_lowOne h_t_highOne h_t_ways t_met h_t_left t_hours t_greatest h_t_text t_typed t_at t_start t_token t_value h_t_verbs h_t_nums t_items)), (h_t_book, .inl (cI, 460, .inl t_book)), (h_t_ways, .inl (cI, 26880, .inl t_ways))]) (v := (some (.int r30))) ⟨hx, hb, hml, hown, hts⟩ (c_X10_wayAt l dC dI cI cZ te h_t (p1 + (1 : Int32)) x18 p3 r30 hg31) (cwV 3 hts (gV kw_284 kw_285 kw_286 kw_159 kw_287) rfl rfl rfl (by decide +kernel) ⟨Nat.le_of_ble_eq_true rfl, Nat.le_of_ble_eq_true rfl⟩) (kS_env te) hK hP hD hS hA hE [] [0, 1, 2] [0, 1, 2] rfl rfl (by decide) (by decide) (by decide) (by decide) rfl 0 8 rfl rfl rfl rfl hl.1 rfl (Nat.le_of_ble_eq_true rfl) dX10_onFrom_77 ⟨Nat.zero_le _, Nat.zero_le _⟩ (fun H locs hP hD hS => ?_)
              show W p l e rmX10_onFrom s m args below meth c H locs 0 0 Q (F0 m 80 ls [.int r30, .ref h_t_ways, .int x23])
              obtain ⟨g32, hf⟩ := chk_some hf
              refine va_iald hx hb hK hP 2 0 rfl rfl (gin_in g32) dX10_onFrom_80 ?_
              refine lv_iadd hx hb dX10_onFrom_81 ?_
              refine lv_goto (tgt := 87) hx hb dX10_onFrom_82 (by decide) ?_
              obtain rfl := inj1 hf
              exact J27 _ _ hP hD hS _ (lv_sub hl [1, 2, 3, 4, 5, 6] rfl)
          clear hf
          have hf := hg
          refine lv_icmp_le (tgt := 46) hx hb dX10_onFrom_36 (by decide) (fun c33 => ?_) (fun c33 => ?_)
          · replace hf := ifp c33 hf
            refine lv_iload_n hx hb dX10_onFrom_46 rfl (lv_at hl 2 rfl) ?_
            refine lv_iload hx hb dX10_onFrom_47 (lv_at hl 5 rfl) ?_
            refine lv_isub hx hb dX10_onFrom_49 ?_
            obtain rfl := inj1 hf
            exact J24 _ _ hP hD hS _ (lv_sub hl [0, 1, 2, 3, 4, 5] rfl)
          · replace hf := ifn c33 hf
            refine lv_iload hx hb dX10_onFrom_39 (lv_at hl 5 rfl) ?_
            refine lv_iload_n hx hb dX10_onFrom_41 rfl (lv_at hl 2 rfl) ?_
            refine lv_isub hx hb dX10_onFrom_42 ?_
            refine lv_goto (tgt := 50) hx hb dX10_onFrom_43 (by decide) ?_
            obtain rfl := inj1 hf
            exact J24 _ _ hP hD hS _ (lv_sub hl [0, 1, 2, 3, 4, 5] rfl)
    obtain ⟨x16, hg, hf⟩ := bd1_some hf
    refine L34 FU _ _ _ hg ?_ _ _ hP hD hS _ (lv_sub hl [2, 3, 4, 5, 1, 0] rfl)
    · intro H locs hP hD hS ls hl
      refine lv_iload hx hb dX10_onFrom_111 (lv_at hl 0 rfl) ?_
      obtain rfl := inj1 hf
      subst hQ
      exact CM_iret hx hb hr rfl hlocks hAe hP hD hS dX10_onFrom_113
  · replace hf := ifp c1 hf
    refine lv_iload_n hx hb dX10_onFrom_6 rfl (lv_at hl 3 rfl) ?_
    refine lv_iload hx hb dX10_onFrom_7 (lv_at hl 4 rfl) ?_
    refine lv_icmp_ne (tgt := 16) hx hb dX10_onFrom_9 (by decide) (fun c35 => ?_) (fun c35 => ?_)
    · replace hf := ifn c35 hf
      refine lv_ldc (v := (1000000 : Int32)) hx hb hown (hts _ (List.mem_cons_of_mem _ kw_192)) dX10_onFrom_16 ?_
      obtain rfl := inj1 hf
      subst hQ
      exact CM_iret hx hb hr rfl hlocks hAe hP hD hS dX10_onFrom_18
    · replace hf := ifp c35 hf
      refine lv_iconst (v := (0 : Int32)) hx hb dX10_onFrom_12 (by decide) ?_
      refine lv_goto (tgt := 18) hx hb dX10_onFrom_13 (by decide) ?_
      obtain rfl := inj1 hf
      subst hQ
      exact CM_iret hx hb hr rfl hlocks hAe hP hD hS dX10_onFrom_18
def rmX10_travels : Room := { frames := 2, cells := 0, slots := 0, locals := 51 }
abbrev wqX10_travels : List Cond := Cond.code yX10_travels cX10_travels 7 (some .int) :: tG
set_option maxHeartbeats 4000000 in
set_option maxRecDepth 100000 in
theorem c_X10_travels (l : Launch) (dC : Nat → ClassId) (dI : Nat → Nat → Nat) (cI cZ : ClassId) (te : Nat → Nat) (h_t : Nat) (h_t_book : Nat) (h_t_images : Nat) (h_t_kept : Nat) (h_t_aside : Nat) (h_t_far : Nat) (h_t_then : Nat) (h_t_row : Nat) (h_t_mays : Nat) (h_t_firstRow : Nat) (h_t_low : Nat) (h_t_high : Nat) (h_t_lowOne : Nat) (h_t_highOne : Nat) (h_t_ways : Nat) (h_t_left : Nat) (h_t_text : Nat) (h_t_verbs : Nat) (h_t_nums : Nat) (t_noOlder : Int32) (t_thanThis : Int32) (t_known : Int32) (t_knownAge : Int32) (t_moved : Int32) (t_met : Int32) (t_hours : Int32) (t_greatest : Int32) (t_typed : Int32) (t_at : Int32) (t_start : Int32) (t_token : Int32) (t_value : Int32) (t_items : Int32) (t_book : Nat → Int32) (t_ways : Nat → Int32) (o0 : Int32) (o1 : Int32) (o2 : Nat → Int32) (hf : f_X10_travels t_met t_book t_ways = some (o0, o1, o2)) : CM l yX10_travels wqX10_travels rmX10_travels (kS te) dC dI cI cZ [.ref h_t] [(h_t, .inr (8, fX10 h_t_book h_t_images h_t_kept h_t_aside h_t_far h_t_then h_t_row h_t_mays h_t_firstRow h_t_low h_t_high t_noOlder t_thanThis t_known t_knownAge t_moved h_t_lowOne h_t_highOne h_t_ways t_met h_t_left t_hours t_greatest h_t_text t_typed t_at t_start t_token t_value h_t_verbs h_t_nums t_items)), (h_t_book, .inl (cI, 460, .inl t_book)), (h_t_ways, .inl (cI, 26880, .inl t_ways))] [(h_t, .inr (8, fX10 h_t_book h_t_images h_t_kept h_t_aside h_t_far h_t_then h_t_row h_t_mays h_t_firstRow h_t_low h_t_high t_noOlder t_thanThis t_known t_knownAge t_moved h_t_lowOne h_t_highOne h_t_ways o1 h_t_left t_hours t_greatest h_t_text t_typed t_at t_start t_token t_value h_t_verbs h_t_nums t_items)), (h_t_book, .inl (cI, 460, .inl t_book)), (h_t_ways, .inl (cI, 26880, .inl o2))] (some (.int o0)) := by
  refine CM_of (cc := cX10_travels) (maxL := 7) (ret := (some .int)) (by decide +kernel) rfl (Nat.le_of_ble_eq_true rfl) ?_
  intro p e s m args below meth c A Q hx hb hr hml hown hts hlocks hA hK hP hD hS hE hQ hAe ls hl
  have hown : s.vm.findClass RX10 = some m.cls := hown
  have hl : lv_has ls 7 [(0, .ref h_t)] := hl
  unfold f_X10_travels at hf
  refine lv_iconst (v := (1 : Int32)) hx hb dX10_travels_0 (by decide) ?_
  refine lv_aload_n hx hb dX10_travels_1 rfl (lv_at hl 0 rfl) ?_
  obtain ⟨r1, hg2, hf⟩ := bd1_some hf
  refine CM_callV (C := RX10) (As := []) (rest := [.int (1 : Int32)]) (wc := [(h_t, .inr (8, fX10 h_t_book h_t_images h_t_kept h_t_aside h_t_far h_t_then h_t_row h_t_mays h_t_firstRow h_t_low h_t_high t_noOlder t_thanThis t_known t_knownAge t_moved h_t_lowOne h_t_highOne h_t_ways t_met h_t_left t_hours t_greatest h_t_text t_typed t_at t_start t_token t_value h_t_verbs h_t_nums t_items)), (h_t_book, .inl (cI, 460, .inl t_book))]) (w1 := [(h_t, .inr (8, fX10 h_t_book h_t_images h_t_kept h_t_aside h_t_far h_t_then h_t_row h_t_mays h_t_firstRow h_t_low h_t_high t_noOlder t_thanThis t_known t_knownAge t_moved h_t_lowOne h_t_highOne h_t_ways t_met h_t_left t_hours t_greatest h_t_text t_typed t_at t_start t_token t_value h_t_verbs h_t_nums t_items)), (h_t_book, .inl (cI, 460, .inl t_book))]) (wr := [(h_t_ways, .inl (cI, 26880, .inl t_ways))]) (wo := [(h_t, .inr (8, fX10 h_t_book h_t_images h_t_kept h_t_aside h_t_far h_t_then h_t_row h_t_mays h_t_firstRow h_t_low h_t_high t_noOlder t_thanThis t_known t_knownAge t_moved h_t_lowOne h_t_highOne h_t_ways t_met h_t_left t_hours t_greatest h_t_text t_typed t_at t_start t_token t_value h_t_verbs h_t_nums t_items)), (h_t_book, .inl (cI, 460, .inl t_book)), (h_t_ways, .inl (cI, 26880, .inl t_ways))]) (v := (some (.int r1))) ⟨hx, hb, hml, hown, hts⟩ (c_X10_places l dC dI cI cZ te h_t h_t_book h_t_images h_t_kept h_t_aside h_t_far h_t_then h_t_row h_t_mays h_t_firstRow h_t_low h_t_high h_t_lowOne h_t_highOne h_t_ways h_t_left h_t_text h_t_verbs h_t_nums t_noOlder t_thanThis t_known t_knownAge t_moved t_met t_hours t_greatest t_typed t_at t_start t_token t_value t_items t_book r1 hg2) (cwV 0 hts (gV kw_279 kw_280 kw_281 kw_159 kw_282) rfl rfl rfl (by decide +kernel) ⟨Nat.le_of_ble_eq_true rfl, Nat.le_of_ble_eq_true rfl⟩) (kS_env te) hK hP hD hS hA hE [0, 1] [2] [1, 2, 0] rfl rfl (by decide) (by decide) (by decide) (by decide) rfl 0 8 rfl rfl rfl rfl hl.1 rfl (Nat.le_of_ble_eq_true rfl) dX10_travels_2 ⟨Nat.zero_le _, Nat.zero_le _⟩ (fun H locs hP hD hS => ?_)
  show W p l e rmX10_travels s m args below meth c H locs 0 0 Q (F0 m 5 ls [.int r1, .int (1 : Int32)])
  refine lv_ishl hx hb dX10_travels_5 ?_
  refine lv_iconst (v := (1 : Int32)) hx hb dX10_travels_6 (by decide) ?_
  refine lv_isub hx hb dX10_travels_7 ?_
  obtain ⟨x3, e4, hf⟩ := nm_some hf
  refine lv_tope e4 ?_
  refine lv_istore_n (lv' := [(1, .int x3), (0, .ref h_t)]) hx hb dX10_travels_8 rfl hl (by decide) rfl (fun ls hl => ?_)
  refine lv_bipush (v := (39 : Int32)) hx hb dX10_travels_9 (by decide) ?_
  refine lv_istore_n (lv' := [(2, .int (39 : Int32)), (1, .int x3), (0, .ref h_t)]) hx hb dX10_travels_11 rfl hl (by decide) rfl (fun ls hl => ?_)
  have L182 : ∀ (fu97 : Nat) (y93 : Nat → Int32) (x94 : Int32) (x95 : Int32) (y91 : Nat → Int32) (x92 : Int32), f_X10_travels_L9 t_book x3 fu97 y93 x94 x95 = some (y91, x92) → (∀ (H : Heap) (locs : List Loc), va_P (dC, dI) vwCl [(h_t, .inr (8, fX10 h_t_book h_t_images h_t_kept h_t_aside h_t_far h_t_then h_t_row h_t_mays h_t_firstRow h_t_low h_t_high t_noOlder t_thanThis t_known t_knownAge t_moved h_t_lowOne h_t_highOne h_t_ways x92 h_t_left t_hours t_greatest h_t_text t_typed t_at t_start t_token t_value h_t_verbs h_t_nums t_items)), (h_t_book, .inl (cI, 460, .inl t_book)), (h_t_ways, .inl (cI, 26880, .inl y91))] H → va_D A [(h_t, .inr (8, fX10 h_t_book h_t_images h_t_kept h_t_aside h_t_far h_t_then h_t_row h_t_mays h_t_firstRow h_t_low h_t_high t_noOlder t_thanThis t_known t_knownAge t_moved h_t_lowOne h_t_highOne h_t_ways x92 h_t_left t_hours t_greatest h_t_text t_typed t_at t_start t_token t_value h_t_verbs h_t_nums t_items)), (h_t_book, .inl (cI, 460, .inl t_book)), (h_t_ways, .inl (cI, 26880, .inl y91))] → va_S A s.heap H locs → ∀ ls : Array Slot, lv_has ls 7 [(0, .ref h_t)] → W p l e rmX10_travels s m args below meth c H locs 0 0 Q (F0 m 100 ls [])) → ∀ (H : Heap) (locs : List Loc), va_P (dC, dI) vwCl [(h_t, .inr (8, fX10 h_t_book h_t_images h_t_kept h_t_aside h_t_far h_t_then h_t_row h_t_mays h_t_firstRow h_t_low h_t_high t_noOlder t_thanThis t_known t_knownAge t_moved h_t_lowOne h_t_highOne h_t_ways x94 h_t_left t_hours t_greatest h_t_text t_typed t_at t_start t_token t_value h_t_verbs h_t_nums t_items)), (h_t_book, .inl (cI, 460, .inl t_book)), (h_t_ways, .inl (cI, 26880, .inl y93))] H → va_D A [(h_t, .inr (8, fX10 h_t_book h_t_images h_t_kept h_t_aside h_t_far h_t_then h_t_row h_t_mays h_t_firstRow h_t_low h_t_high t_noOlder t_thanThis t_known t_knownAge t_moved h_t_lowOne h_t_highOne h_t_ways x94 h_t_left t_hours t_greatest h_t_text t_typed t_at t_start t_token t_value h_t_verbs h_t_nums t_items)), (h_t_book, .inl (cI, 460, .inl t_book)), (h_t_ways, .inl (cI, 26880, .inl y93))] → va_S A s.heap H locs → ∀ ls : Array Slot, lv_has ls 7 [(0, .ref h_t), (1, .int x3), (2, .int x95)] → W p l e rmX10_travels s m args below meth c H locs 0 0 Q (F0 m 12 ls []) := by
    intro fu97
    induction fu97 with
    | zero =>
      intro y93 x94 x95 y91 x92 hf
      unfold f_X10_travels_L9 at hf
      exact none_ne hf
    | succ fu97 ih96 =>
      intro y93 x94 x95 y91 x92 hf hX98 H locs hP hD hS ls hl
      unfold f_X10_travels_L9 at hf
      refine lv_iload_n hx hb dX10_travels_12 rfl (lv_at hl 2 rfl) ?_
      refine lv_if_lt (tgt := 100) hx hb dX10_travels_13 (by decide) (fun c99 => ?_) (fun c99 => ?_)
      · replace hf := ifp c99 hf
        obtain ⟨rfl, rfl⟩ := inj2 hf
        exact hX98 _ _ hP hD hS _ (lv_sub hl [0] rfl)
      · replace hf := ifn c99 hf
        refine lv_iconst (v := (0 : Int32)) hx hb dX10_travels_16 (by decide) ?_
        refine lv_istore_n (lv' := [(3, .int (0 : Int32)), (0, .ref h_t), (1, .int x3), (2, .int x95)]) hx hb dX10_travels_17 rfl hl (by decide) rfl (fun ls hl => ?_)
        have L181 : ∀ (fu144 : Nat) (y140 : Nat → Int32) (x141 : Int32) (x142 : Int32) (y138 : Nat → Int32) (x139 : Int32), f_X10_travels_L12 t_book x95 x3 fu144 y140 x141 x142 = some (y138, x139) → (∀ (H : Heap) (locs : List Loc), va_P (dC, dI) vwCl [(h_t, .inr (8, fX10 h_t_book h_t_images h_t_kept h_t_aside h_t_far h_t_then h_t_row h_t_mays h_t_firstRow h_t_low h_t_high t_noOlder t_thanThis t_known t_knownAge t_moved h_t_lowOne h_t_highOne h_t_ways x139 h_t_left t_hours t_greatest h_t_text t_typed t_at t_start t_token t_value h_t_verbs h_t_nums t_items)), (h_t_book, .inl (cI, 460, .inl t_book)), (h_t_ways, .inl (cI, 26880, .inl y138))] H → va_D A [(h_t, .inr (8, fX10 h_t_book h_t_images h_t_kept h_t_aside h_t_far h_t_then h_t_row h_t_mays h_t_firstRow h_t_low h_t_high t_noOlder t_thanThis t_known t_knownAge t_moved h_t_lowOne h_t_highOne h_t_ways x139 h_t_left t_hours t_greatest h_t_text t_typed t_at t_start t_token t_value h_t_verbs h_t_nums t_items)), (h_t_book, .inl (cI, 460, .inl t_book)), (h_t_ways, .inl (cI, 26880, .inl y138))] → va_S A s.heap H locs → ∀ ls : Array Slot, lv_has ls 7 [(0, .ref h_t), (1, .int x3), (2, .int x95)] → W p l e rmX10_travels s m args below meth c H locs 0 0 Q (F0 m 94 ls [])) → ∀ (H : Heap) (locs : List Loc), va_P (dC, dI) vwCl [(h_t, .inr (8, fX10 h_t_book h_t_images h_t_kept h_t_aside h_t_far h_t_then h_t_row h_t_mays h_t_firstRow h_t_low h_t_high t_noOlder t_thanThis t_known t_knownAge t_moved h_t_lowOne h_t_highOne h_t_ways x141 h_t_left t_hours t_greatest h_t_text t_typed t_at t_start t_token t_value h_t_verbs h_t_nums t_items)), (h_t_book, .inl (cI, 460, .inl t_book)), (h_t_ways, .inl (cI, 26880, .inl y140))] H → va_D A [(h_t, .inr (8, fX10 h_t_book h_t_images h_t_kept h_t_aside h_t_far h_t_then h_t_row h_t_mays h_t_firstRow h_t_low h_t_high t_noOlder t_thanThis t_known t_knownAge t_moved h_t_lowOne h_t_highOne h_t_ways x141 h_t_left t_hours t_greatest h_t_text t_typed t_at t_start t_token t_value h_t_verbs h_t_nums t_items)), (h_t_book, .inl (cI, 460, .inl t_book)), (h_t_ways, .inl (cI, 26880, .inl y140))] → va_S A s.heap H locs → ∀ ls : Array Slot, lv_has ls 7 [(0, .ref h_t), (1, .int x3), (2, .int x95), (3, .int x142)] → W p l e rmX10_travels s m args below meth c H locs 0 0 Q (F0 m 18 ls []) := by
          intro fu144
          induction fu144 with
          | zero =>
            intro y140 x141 x142 y138 x139 hf
            unfold f_X10_travels_L12 at hf
            exact none_ne hf
          | succ fu144 ih143 =>
            intro y140 x141 x142 y138 x139 hf hX145 H locs hP hD hS ls hl
            unfold f_X10_travels_L12 at hf
            refine lv_iload_n hx hb dX10_travels_18 rfl (lv_at hl 3 rfl) ?_
            refine lv_bipush (v := (21 : Int32)) hx hb dX10_travels_19 (by decide) ?_
            refine lv_icmp_ge (tgt := 94) hx hb dX10_travels_21 (by decide) (fun c146 => ?_) (fun c146 => ?_)
            · replace hf := ifp c146 hf
              obtain ⟨rfl, rfl⟩ := inj2 hf
              exact hX145 _ _ hP hD hS _ (lv_sub hl [0, 1, 2] rfl)
            · replace hf := ifn c146 hf
              refine lv_aload_n hx hb dX10_travels_24 rfl (lv_at hl 0 rfl) ?_
              refine lv_iload_n hx hb dX10_travels_25 rfl (lv_at hl 2 rfl) ?_
              refine lv_iload_n hx hb dX10_travels_26 rfl (lv_at hl 3 rfl) ?_
              obtain ⟨r147, x148, hg149, hf⟩ := bd2_some hf
              refine CM_callV (C := RX10) (As := [.int x95, .int x142]) (rest := []) (wc := [(h_t, .inr (8, fX10 h_t_book h_t_images h_t_kept h_t_aside h_t_far h_t_then h_t_row h_t_mays h_t_firstRow h_t_low h_t_high t_noOlder t_thanThis t_known t_knownAge t_moved h_t_lowOne h_t_highOne h_t_ways x141 h_t_left t_hours t_greatest h_t_text t_typed t_at t_start t_token t_value h_t_verbs h_t_nums t_items)), (h_t_book, .inl (cI, 460, .inl t_book))]) (w1 := [(h_t, .inr (8, fX10 h_t_book h_t_images h_t_kept h_t_aside h_t_far h_t_then h_t_row h_t_mays h_t_firstRow h_t_low h_t_high t_noOlder t_thanThis t_known t_knownAge t_moved h_t_lowOne h_t_highOne h_t_ways x148 h_t_left t_hours t_greatest h_t_text t_typed t_at t_start t_token t_value h_t_verbs h_t_nums t_items)), (h_t_book, .inl (cI, 460, .inl t_book))]) (wr := [(h_t_ways, .inl (cI, 26880, .inl y140))]) (wo := [(h_t, .inr (8, fX10 h_t_book h_t_images h_t_kept h_t_aside h_t_far h_t_then h_t_row h_t_mays h_t_firstRow h_t_low h_t_high t_noOlder t_thanThis t_known t_knownAge t_moved h_t_lowOne h_t_highOne h_t_ways x148 h_t_left t_hours t_greatest h_t_text t_typed t_at t_start t_token t_value h_t_verbs h_t_nums t_items)), (h_t_book, .inl (cI, 460, .inl t_book)), (h_t_ways, .inl (cI, 26880, .inl y140))]) (v := (some (.int r147))) ⟨hx, hb, hml, hown, hts⟩ (c_X10_bearsYear l dC dI cI cZ te h_t h_t_book h_t_images h_t_kept h_t_aside h_t_far h_t_then h_t_row h_t_mays h_t_firstRow h_t_low h_t_high h_t_lowOne h_t_highOne h_t_ways h_t_left h_t_text h_t_verbs h_t_nums t_noOlder t_thanThis t_known t_knownAge t_moved x141 t_hours t_greatest t_typed t_at t_start t_token t_value t_items t_book x95 x142 r147 x148 hg149) (cwV 2 hts (gV kw_288 kw_289 kw_290 kw_159 kw_291) rfl rfl rfl (by decide +kernel) ⟨Nat.le_of_ble_eq_true rfl, Nat.le_of_ble_eq_true rfl⟩) (kS_env te) hK hP hD hS hA hE [0, 1] [2] [1, 2, 0] rfl rfl (by decide) (by decide) (by decide) (by decide) rfl 0 8 rfl rfl rfl rfl hl.1 rfl (Nat.le_of_ble_eq_true rfl) dX10_travels_27 ⟨Nat.zero_le _, Nat.zero_le _⟩ (fun H locs hP hD hS => ?_)
              show W p l e rmX10_travels s m args below meth c H locs 0 0 Q (F0 m 30 ls [.int r147])
              refine lv_istore (lv' := [(4, .int r147), (0, .ref h_t), (1, .int x3), (2, .int x95), (3, .int x142)]) hx hb dX10_travels_30 hl (by decide) rfl (fun ls hl => ?_)
              refine lv_aload_n hx hb dX10_travels_32 rfl (lv_at hl 1 rfl) ?_
              refine va_get (D := (dC, dI)) (ci := 8) (v := .int x148) (C := RX10) (T := TX10) (N := 32) hx hb hts (in1 tw_X10) hown hK hP 0 rfl rfl 19 (by decide) (hts _ (List.mem_cons_of_mem _ kw_283)) (fun _ h9 => h9) rfl dX10_travels_33 ?_
              refine lv_istore (lv' := [(5, .int x148), (4, .int r147), (0, .ref h_t), (1, .int x3), (2, .int x95), (3, .int x142)]) hx hb dX10_travels_36 hl (by decide) rfl (fun ls hl => ?_)
              refine lv_iconst (v := (0 : Int32)) hx hb dX10_travels_38 (by decide) ?_
              refine lv_istore (lv' := [(6, .int (0 : Int32)), (5, .int x148), (4, .int r147), (0, .ref h_t), (1, .int x3), (2, .int x95), (3, .int x142)]) hx hb dX10_travels_39 hl (by decide) rfl (fun ls hl => ?_)
              have L180 : ∀ (fu167 : Nat) (y164 : Nat → Int32) (x165 : Int32) (y163 : Nat → Int32), f_X10_travels_L13 x3 x95 x142 r147 t_book x148 fu167 y164 x165 = some y163 → (∀ (H : Heap) (locs : List Loc), va_P (dC, dI) vwCl [(h_t, .inr (8, fX10 h_t_book h_t_images h_t_kept h_t_aside h_t_far h_t_then h_t_row h_t_mays h_t_firstRow h_t_low h_t_high t_noOlder t_thanThis t_known t_knownAge t_moved h_t_lowOne h_t_highOne h_t_ways x148 h_t_left t_hours t_greatest h_t_text t_typed t_at t_start t_token t_value h_t_verbs h_t_nums t_items)), (h_t_book, .inl (cI, 460, .inl t_book)), (h_t_ways, .inl (cI, 26880, .inl y163))] H → va_D A [(h_t, .inr (8, fX10 h_t_book h_t_images h_t_kept h_t_aside h_t_far h_t_then h_t_row h_t_mays h_t_firstRow h_t_low h_t_high t_noOlder t_thanThis t_known t_knownAge t_moved h_t_lowOne h_t_highOne h_t_ways x148 h_t_left t_hours t_greatest h_t_text t_typed t_at t_start t_token t_value h_t_verbs h_t_nums t_items)), (h_t_book, .inl (cI, 460, .inl t_book)), (h_t_ways, .inl (cI, 26880, .inl y163))] → va_S A s.heap H locs → ∀ ls : Array Slot, lv_has ls 7 [(0, .ref h_t), (1, .int x3), (2, .int x95), (3, .int x142)] → W p l e rmX10_travels s m args below meth c H locs 0 0 Q (F0 m 88 ls [])) → ∀ (H : Heap) (locs : List Loc), va_P (dC, dI) vwCl [(h_t, .inr (8, fX10 h_t_book h_t_images h_t_kept h_t_aside h_t_far h_t_then h_t_row h_t_mays h_t_firstRow h_t_low h_t_high t_noOlder t_thanThis t_known t_knownAge t_moved h_t_lowOne h_t_highOne h_t_ways x148 h_t_left t_hours t_greatest h_t_text t_typed t_at t_start t_token t_value h_t_verbs h_t_nums t_items)), (h_t_book, .inl (cI, 460, .inl t_book)), (h_t_ways, .inl (cI, 26880, .inl y164))] H → va_D A [(h_t, .inr (8, fX10 h_t_book h_t_images h_t_kept h_t_aside h_t_far h_t_then h_t_row h_t_mays h_t_firstRow h_t_low h_t_high t_noOlder t_thanThis t_known t_knownAge t_moved h_t_lowOne h_t_highOne h_t_ways x148 h_t_left t_hours t_greatest h_t_text t_typed t_at t_start t_token t_value h_t_verbs h_t_nums t_items)), (h_t_book, .inl (cI, 460, .inl t_book)), (h_t_ways, .inl (cI, 26880, .inl y164))] → va_S A s.heap H locs → ∀ ls : Array Slot, lv_has ls 7 [(0, .ref h_t), (1, .int x3), (2, .int x95), (3, .int x142), (4, .int r147), (5, .int x148), (6, .int x165)] → W p l e rmX10_travels s m args below meth c H locs 0 0 Q (F0 m 41 ls []) := by
                intro fu167
                induction fu167 with
                | zero =>
                  intro y164 x165 y163 hf
                  unfold f_X10_travels_L13 at hf
                  exact none_ne hf
                | succ fu167 ih166 =>
                  intro y164 x165 y163 hf hX168 H locs hP hD hS ls hl
                  unfold f_X10_travels_L13 at hf
                  refine lv_iload hx hb dX10_travels_41 (lv_at hl 6 rfl) ?_
                  refine lv_iload_n hx hb dX10_travels_43 rfl (lv_at hl 1 rfl) ?_
                  refine lv_icmp_gt (tgt := 88) hx hb dX10_travels_44 (by decide) (fun c169 => ?_) (fun c169 => ?_)
                  · replace hf := ifp c169 hf
                    obtain rfl := inj1 hf
                    exact hX168 _ _ hP hD hS _ (lv_sub hl [0, 1, 2, 3] rfl)
                  · replace hf := ifn c169 hf
                    refine lv_aload_n hx hb dX10_travels_47 rfl (lv_at hl 0 rfl) ?_
                    refine va_get (D := (dC, dI)) (ci := 8) (v := .ref h_t_ways) (C := RX10) (T := TX10) (N := 32) hx hb hts (in1 tw_X10) hown hK hP 0 rfl rfl 18 (by decide) (hts _ (List.mem_cons_of_mem _ kw_130)) (fun _ h9 => h9) rfl dX10_travels_48 ?_
                    refine lv_aload_n hx hb dX10_travels_51 rfl (lv_at hl 0 rfl) ?_
                    refine lv_iload_n hx hb dX10_travels_52 rfl (lv_at hl 2 rfl) ?_
                    refine lv_iload_n hx hb dX10_travels_53 rfl (lv_at hl 3 rfl) ?_
                    refine lv_iload hx hb dX10_travels_54 (lv_at hl 6 rfl) ?_
                    obtain ⟨r170, hg171, hf⟩ := bd1_some hf
                    refine CM_callV (C := RX10) (As := [.int x95, .int x142, .int x165]) (rest := [.ref h_t_ways]) (wc := []) (w1 := []) (wr := [(h_t, .inr (8, fX10 h_t_book h_t_images h_t_kept h_t_aside h_t_far h_t_then h_t_row h_t_mays h_t_firstRow h_t_low h_t_high t_noOlder t_thanThis t_known t_knownAge t_moved h_t_lowOne h_t_highOne h_t_ways x148 h_t_left t_hours t_greatest h_t_text t_typed t_at t_start t_token t_value h_t_verbs h_t_nums t_items)), (h_t_book, .inl (cI, 460, .inl t_book)), (h_t_ways, .inl (cI, 26880, .inl y164))]) (wo := [(h_t, .inr (8, fX10 h_t_book h_t_images h_t_kept h_t_aside h_t_far h_t_then h_t_row h_t_mays h_t_firstRow h_t_low h_t_high t_noOlder t_thanThis t_known t_knownAge t_moved h_t_lowOne h_t_highOne h_t_ways x148 h_t_left t_hours t_greatest h_t_text t_typed t_at t_start t_token t_value h_t_verbs h_t_nums t_items)), (h_t_book, .inl (cI, 460, .inl t_book)), (h_t_ways, .inl (cI, 26880, .inl y164))]) (v := (some (.int r170))) ⟨hx, hb, hml, hown, hts⟩ (c_X10_wayAt l dC dI cI cZ te h_t x95 x142 x165 r170 hg171) (cwV 3 hts (gV kw_284 kw_285 kw_286 kw_159 kw_287) rfl rfl rfl (by decide +kernel) ⟨Nat.le_of_ble_eq_true rfl, Nat.le_of_ble_eq_true rfl⟩) (kS_env te) hK hP hD hS hA hE [] [0, 1, 2] [0, 1, 2] rfl rfl (by decide) (by decide) (by decide) (by decide) rfl 0 8 rfl rfl rfl rfl hl.1 rfl (Nat.le_of_ble_eq_true rfl) dX10_travels_56 ⟨Nat.zero_le _, Nat.zero_le _⟩ (fun H locs hP hD hS => ?_)
                    show W p l e rmX10_travels s m args below meth c H locs 0 0 Q (F0 m 59 ls [.int r170, .ref h_t_ways])
                    refine lv_iload hx hb dX10_travels_59 (lv_at hl 4 rfl) ?_
                    obtain ⟨x172, hg, hf⟩ := bd1_some hf
                    have J173 : ∀ (H : Heap) (locs : List Loc), va_P (dC, dI) vwCl [(h_t, .inr (8, fX10 h_t_book h_t_images h_t_kept h_t_aside h_t_far h_t_then h_t_row h_t_mays h_t_firstRow h_t_low h_t_high t_noOlder t_thanThis t_known t_knownAge t_moved h_t_lowOne h_t_highOne h_t_ways x148 h_t_left t_hours t_greatest h_t_text t_typed t_at t_start t_token t_value h_t_verbs h_t_nums t_items)), (h_t_book, .inl (cI, 460, .inl t_book)), (h_t_ways, .inl (cI, 26880, .inl y164))] H → va_D A [(h_t, .inr (8, fX10 h_t_book h_t_images h_t_kept h_t_aside h_t_far h_t_then h_t_row h_t_mays h_t_firstRow h_t_low h_t_high t_noOlder t_thanThis t_known t_knownAge t_moved h_t_lowOne h_t_highOne h_t_ways x148 h_t_left t_hours t_greatest h_t_text t_typed t_at t_start t_token t_value h_t_verbs h_t_nums t_items)), (h_t_book, .inl (cI, 460, .inl t_book)), (h_t_ways, .inl (cI, 26880, .inl y164))] → va_S A s.heap H locs → ∀ ls : Array Slot, lv_has ls 7 [(0, .ref h_t), (1, .int x3), (2, .int x95), (3, .int x142), (4, .int r147), (5, .int x148), (6, .int x165)] → W p l e rmX10_travels s m args below meth c H locs 0 0 Q (F0 m 81 ls [.int x172, .int r170, .ref h_t_ways]) := by
                      intro H locs hP hD hS ls hl
                      obtain ⟨g174, hf⟩ := chk_some hf
                      obtain ⟨y175, e176, hf⟩ := nm_some hf
                      refine va_iast hx hb hK hP hD hS 2 0 rfl rfl (gin_in g174) dX10_travels_81 (fun H locs hP hD hS => ?_)
                      have hP : va_P (dC, dI) vwCl [(h_t, .inr (8, fX10 h_t_book h_t_images h_t_kept h_t_aside h_t_far h_t_then h_t_row h_t_mays h_t_firstRow h_t_low h_t_high t_noOlder t_thanThis t_known t_knownAge t_moved h_t_lowOne h_t_highOne h_t_ways x148 h_t_left t_hours t_greatest h_t_text t_typed t_at t_start t_token t_value h_t_verbs h_t_nums t_items)), (h_t_book, .inl (cI, 460, .inl t_book)), (h_t_ways, .inl (cI, 26880, .inl y175))] H := by rw [e176]; exact hP
                      have hD : va_D A [(h_t, .inr (8, fX10 h_t_book h_t_images h_t_kept h_t_aside h_t_far h_t_then h_t_row h_t_mays h_t_firstRow h_t_low h_t_high t_noOlder t_thanThis t_known t_knownAge t_moved h_t_lowOne h_t_highOne h_t_ways x148 h_t_left t_hours t_greatest h_t_text t_typed t_at t_start t_token t_value h_t_verbs h_t_nums t_items)), (h_t_book, .inl (cI, 460, .inl t_book)), (h_t_ways, .inl (cI, 26880, .inl y175))] := by rw [e176]; exact hD
                      refine lv_iinc (v := (x165 + (1 : Int32))) (lv' := [(6, .int (x165 + (1 : Int32))), (0, .ref h_t), (1, .int x3), (2, .int x95), (3, .int x142), (4, .int r147), (5, .int x148)]) hx hb dX10_travels_82 hl (k := 6) rfl rfl (by decide) rfl (fun ls hl => ?_)
                      refine lv_goto (tgt := 41) hx hb dX10_travels_85 (by decide) ?_
                      exact ih166 _ _ _ hf hX168 _ _ hP hD hS _ (lv_sub hl [1, 2, 3, 4, 5, 6, 0] rfl)
                    clear hf
                    have hf := hg
                    refine lv_if_eq (tgt := 79) hx hb dX10_travels_61 (by decide) (fun c177 => ?_) (fun c177 => ?_)
                    · replace hf := ifp c177 hf
                      refine lv_ldc (v := (1000000 : Int32)) hx hb hown (hts _ (List.mem_cons_of_mem _ kw_192)) dX10_travels_79 ?_
                      obtain rfl := inj1 hf
                      exact J173 _ _ hP hD hS _ (lv_sub hl [0, 1, 2, 3, 4, 5, 6] rfl)
                    · replace hf := ifn c177 hf
                      refine lv_aload_n hx hb dX10_travels_64 rfl (lv_at hl 0 rfl) ?_
                      refine lv_iload_n hx hb dX10_travels_65 rfl (lv_at hl 2 rfl) ?_
                      refine lv_iload_n hx hb dX10_travels_66 rfl (lv_at hl 3 rfl) ?_
                      refine lv_iload hx hb dX10_travels_67 (lv_at hl 6 rfl) ?_
                      refine lv_iload hx hb dX10_travels_69 (lv_at hl 5 rfl) ?_
                      refine lv_ior hx hb dX10_travels_71 ?_
                      refine lv_iload_n hx hb dX10_travels_72 rfl (lv_at hl 1 rfl) ?_
                      obtain ⟨r178, hg179, hf⟩ := bd1_some hf
                      refine CM_callV (C := RX10) (As := [.int x95, .int x142, .int (x165 ||| x148), .int x3]) (rest := [.int r170, .ref h_t_ways]) (wc := [(h_t, .inr (8, fX10 h_t_book h_t_images h_t_kept h_t_aside h_t_far h_t_then h_t_row h_t_mays h_t_firstRow h_t_low h_t_high t_noOlder t_thanThis t_known t_knownAge t_moved h_t_lowOne h_t_highOne h_t_ways x148 h_t_left t_hours t_greatest h_t_text t_typed t_at t_start t_token t_value h_t_verbs h_t_nums t_items)), (h_t_book, .inl (cI, 460, .inl t_book)), (h_t_ways, .inl (cI, 26880, .inl y164))]) (w1 := [(h_t, .inr (8, fX10 h_t_book h_t_images h_t_kept h_t_aside h_t_far h_t_then h_t_row h_t_mays h_t_firstRow h_t_low h_t_high t_noOlder t_thanThis t_known t_knownAge t_moved h_t_lowOne h_t_highOne h_t_ways x148 h_t_left t_hours t_greatest h_t_text t_typed t_at t_start t_token t_value h_t_verbs h_t_nums t_items)), (h_t_book, .inl (cI, 460, .inl t_book)), (h_t_ways, .inl (cI, 26880, .inl y164))]) (wr := []) (wo := [(h_t, .inr (8, fX10 h_t_book h_t_images h_t_kept h_t_aside h_t_far h_t_then h_t_row h_t_mays h_t_firstRow h_t_low h_t_high t_noOlder t_thanThis t_known t_knownAge t_moved h_t_lowOne h_t_highOne h_t_ways x148 h_t_left t_hours t_greatest h_t_text t_typed t_at t_start t_token t_value h_t_verbs h_t_nums t_items)), (h_t_book, .inl (cI, 460, .inl t_book)), (h_t_ways, .inl (cI, 26880, .inl y164))]) (v := (some (.int r178))) ⟨hx, hb, hml, hown, hts⟩ (c_X10_onFrom l dC dI cI cZ te h_t h_t_book h_t_images h_t_kept h_t_aside h_t_far h_t_then h_t_row h_t_mays h_t_firstRow h_t_low h_t_high h_t_lowOne h_t_highOne h_t_ways h_t_left h_t_text h_t_verbs h_t_nums t_noOlder t_thanThis t_known t_knownAge t_moved x148 t_hours t_greatest t_typed t_at t_start t_token t_value t_items t_book y164 x95 x142 (x165 ||| x148) x3 r178 hg179) (cwV 4 hts (gV kw_292 kw_293 kw_294 kw_159 kw_295) rfl rfl rfl (by decide +kernel) ⟨Nat.le_of_ble_eq_true rfl, Nat.le_of_ble_eq_true rfl⟩) (kS_env te) hK hP hD hS hA hE [0, 1, 2] [] [0, 1, 2] rfl rfl (by decide) (by decide) (by decide) (by decide) rfl 0 8 rfl rfl rfl rfl hl.1 rfl (Nat.le_of_ble_eq_true rfl) dX10_travels_73 ⟨Nat.zero_le _, Nat.zero_le _⟩ (fun H locs hP hD hS => ?_)
                      show W p l e rmX10_travels s m args below meth c H locs 0 0 Q (F0 m 76 ls [.int r178, .int r170, .ref h_t_ways])
                      refine lv_goto (tgt := 81) hx hb dX10_travels_76 (by decide) ?_
                      obtain rfl := inj1 hf
                      exact J173 _ _ hP hD hS _ (lv_sub hl [0, 1, 2, 3, 4, 5, 6] rfl)
              obtain ⟨y163, hg, hf⟩ := bd1_some hf
              refine L180 FU _ _ _ hg ?_ _ _ hP hD hS _ (lv_sub hl [3, 4, 5, 6, 2, 1, 0] rfl)
              · intro H locs hP hD hS ls hl
                refine lv_iinc (v := (x142 + (1 : Int32))) (lv' := [(3, .int (x142 + (1 : Int32))), (0, .ref h_t), (1, .int x3), (2, .int x95)]) hx hb dX10_travels_88 hl (k := 3) rfl rfl (by decide) rfl (fun ls hl => ?_)
                refine lv_goto (tgt := 18) hx hb dX10_travels_91 (by decide) ?_
                exact ih143 _ _ _ _ _ hf hX145 _ _ hP hD hS _ (lv_sub hl [1, 2, 3, 0] rfl)
        obtain ⟨y138, x139, hg, hf⟩ := bd2_some hf
        refine L181 FU _ _ _ _ _ hg ?_ _ _ hP hD hS _ (lv_sub hl [1, 2, 3, 0] rfl)
        · intro H locs hP hD hS ls hl
          refine lv_iinc (v := (x95 + (-1 : Int32))) (lv' := [(2, .int (x95 + (-1 : Int32))), (0, .ref h_t), (1, .int x3)]) hx hb dX10_travels_94 hl (k := 2) rfl rfl (by decide) rfl (fun ls hl => ?_)
          refine lv_goto (tgt := 12) hx hb dX10_travels_97 (by decide) ?_
          exact ih96 _ _ _ _ _ hf hX98 _ _ hP hD hS _ (lv_sub hl [1, 2, 0] rfl)
  obtain ⟨y91, x92, hg, hf⟩ := bd2_some hf
  refine L182 FU _ _ _ _ _ hg ?_ _ _ hP hD hS _ (lv_sub hl [2, 1, 0] rfl)
  · intro H locs hP hD hS ls hl
    refine lv_ldc (v := (1000000 : Int32)) hx hb hown (hts _ (List.mem_cons_of_mem _ kw_192)) dX10_travels_100 ?_
    refine lv_istore_n (lv' := [(2, .int (1000000 : Int32)), (0, .ref h_t)]) hx hb dX10_travels_102 rfl hl (by decide) rfl (fun ls hl => ?_)
    refine lv_iconst (v := (0 : Int32)) hx hb dX10_travels_103 (by decide) ?_
    refine lv_istore_n (lv' := [(3, .int (0 : Int32)), (2, .int (1000000 : Int32)), (0, .ref h_t)]) hx hb dX10_travels_104 rfl hl (by decide) rfl (fun ls hl => ?_)
    have L205 : ∀ (fu196 : Nat) (x193 : Int32) (x194 : Int32) (x192 : Int32), f_X10_travels_L14 y91 fu196 x193 x194 = some x192 → (∀ (H : Heap) (locs : List Loc), va_P (dC, dI) vwCl [(h_t, .inr (8, fX10 h_t_book h_t_images h_t_kept h_t_aside h_t_far h_t_then h_t_row h_t_mays h_t_firstRow h_t_low h_t_high t_noOlder t_thanThis t_known t_knownAge t_moved h_t_lowOne h_t_highOne h_t_ways x92 h_t_left t_hours t_greatest h_t_text t_typed t_at t_start t_token t_value h_t_verbs h_t_nums t_items)), (h_t_book, .inl (cI, 460, .inl t_book)), (h_t_ways, .inl (cI, 26880, .inl y91))] H → va_D A [(h_t, .inr (8, fX10 h_t_book h_t_images h_t_kept h_t_aside h_t_far h_t_then h_t_row h_t_mays h_t_firstRow h_t_low h_t_high t_noOlder t_thanThis t_known t_knownAge t_moved h_t_lowOne h_t_highOne h_t_ways x92 h_t_left t_hours t_greatest h_t_text t_typed t_at t_start t_token t_value h_t_verbs h_t_nums t_items)), (h_t_book, .inl (cI, 460, .inl t_book)), (h_t_ways, .inl (cI, 26880, .inl y91))] → va_S A s.heap H locs → ∀ ls : Array Slot, lv_has ls 7 [(2, .int x192)] → W p l e rmX10_travels s m args below meth c H locs 0 0 Q (F0 m 144 ls [])) → ∀ (H : Heap) (locs : List Loc), va_P (dC, dI) vwCl [(h_t, .inr (8, fX10 h_t_book h_t_images h_t_kept h_t_aside h_t_far h_t_then h_t_row h_t_mays h_t_firstRow h_t_low h_t_high t_noOlder t_thanThis t_known t_knownAge t_moved h_t_lowOne h_t_highOne h_t_ways x92 h_t_left t_hours t_greatest h_t_text t_typed t_at t_start t_token t_value h_t_verbs h_t_nums t_items)), (h_t_book, .inl (cI, 460, .inl t_book)), (h_t_ways, .inl (cI, 26880, .inl y91))] H → va_D A [(h_t, .inr (8, fX10 h_t_book h_t_images h_t_kept h_t_aside h_t_far h_t_then h_t_row h_t_mays h_t_firstRow h_t_low h_t_high t_noOlder t_thanThis t_known t_knownAge t_moved h_t_lowOne h_t_highOne h_t_ways x92 h_t_left t_hours t_greatest h_t_text t_typed t_at t_start t_token t_value h_t_verbs h_t_nums t_items)), (h_t_book, .inl (cI, 460, .inl t_book)), (h_t_ways, .inl (cI, 26880, .inl y91))] → va_S A s.heap H locs → ∀ ls : Array Slot, lv_has ls 7 [(0, .ref h_t), (2, .int x193), (3, .int x194)] → W p l e rmX10_travels s m args below meth c H locs 0 0 Q (F0 m 105 ls []) := by
      intro fu196
      induction fu196 with
      | zero =>
        intro x193 x194 x192 hf
        unfold f_X10_travels_L14 at hf
        exact none_ne hf
      | succ fu196 ih195 =>
        intro x193 x194 x192 hf hX197 H locs hP hD hS ls hl
        unfold f_X10_travels_L14 at hf
        refine lv_iload_n hx hb dX10_travels_105 rfl (lv_at hl 2 rfl) ?_
        refine lv_bipush (v := (21 : Int32)) hx hb dX10_travels_106 (by decide) ?_
        refine lv_icmp_ge (tgt := 144) hx hb dX10_travels_108 (by decide) (fun c198 => ?_) (fun c198 => ?_)
        · replace hf := ifp c198 hf
          obtain rfl := inj1 hf
          exact hX197 _ _ hP hD hS _ (lv_sub hl [1] rfl)
        · replace hf := ifn c198 hf
          refine lv_aload_n hx hb dX10_travels_111 rfl (lv_at hl 0 rfl) ?_
          refine va_get (D := (dC, dI)) (ci := 8) (v := .ref h_t_ways) (C := RX10) (T := TX10) (N := 32) hx hb hts (in1 tw_X10) hown hK hP 0 rfl rfl 18 (by decide) (hts _ (List.mem_cons_of_mem _ kw_130)) (fun _ h9 => h9) rfl dX10_travels_112 ?_
          refine lv_aload_n hx hb dX10_travels_115 rfl (lv_at hl 0 rfl) ?_
          refine lv_iconst (v := (0 : Int32)) hx hb dX10_travels_116 (by decide) ?_
          refine lv_iload_n hx hb dX10_travels_117 rfl (lv_at hl 2 rfl) ?_
          refine lv_iconst (v := (0 : Int32)) hx hb dX10_travels_118 (by decide) ?_
          obtain ⟨r199, hg200, hf⟩ := bd1_some hf
          refine CM_callV (C := RX10) (As := [.int (0 : Int32), .int x194, .int (0 : Int32)]) (rest := [.ref h_t_ways]) (wc := []) (w1 := []) (wr := [(h_t, .inr (8, fX10 h_t_book h_t_images h_t_kept h_t_aside h_t_far h_t_then h_t_row h_t_mays h_t_firstRow h_t_low h_t_high t_noOlder t_thanThis t_known t_knownAge t_moved h_t_lowOne h_t_highOne h_t_ways x92 h_t_left t_hours t_greatest h_t_text t_typed t_at t_start t_token t_value h_t_verbs h_t_nums t_items)), (h_t_book, .inl (cI, 460, .inl t_book)), (h_t_ways, .inl (cI, 26880, .inl y91))]) (wo := [(h_t, .inr (8, fX10 h_t_book h_t_images h_t_kept h_t_aside h_t_far h_t_then h_t_row h_t_mays h_t_firstRow h_t_low h_t_high t_noOlder t_thanThis t_known t_knownAge t_moved h_t_lowOne h_t_highOne h_t_ways x92 h_t_left t_hours t_greatest h_t_text t_typed t_at t_start t_token t_value h_t_verbs h_t_nums t_items)), (h_t_book, .inl (cI, 460, .inl t_book)), (h_t_ways, .inl (cI, 26880, .inl y91))]) (v := (some (.int r199))) ⟨hx, hb, hml, hown, hts⟩ (c_X10_wayAt l dC dI cI cZ te h_t (0 : Int32) x194 (0 : Int32) r199 hg200) (cwV 3 hts (gV kw_284 kw_285 kw_286 kw_159 kw_287) rfl rfl rfl (by decide +kernel) ⟨Nat.le_of_ble_eq_true rfl, Nat.le_of_ble_eq_true rfl⟩) (kS_env te) hK hP hD hS hA hE [] [0, 1, 2] [0, 1, 2] rfl rfl (by decide) (by decide) (by decide) (by decide) rfl 0 8 rfl rfl rfl rfl hl.1 rfl (Nat.le_of_ble_eq_true rfl) dX10_travels_119 ⟨Nat.zero_le _, Nat.zero_le _⟩ (fun H locs hP hD hS => ?_)
          show W p l e rmX10_travels s m args below meth c H locs 0 0 Q (F0 m 122 ls [.int r199, .ref h_t_ways])
          obtain ⟨g201, hf⟩ := chk_some hf
          refine va_iald hx hb hK hP 2 0 rfl rfl (gin_in g201) dX10_travels_122 ?_
          obtain ⟨x202, e203, hf⟩ := nm_some hf
          refine lv_tope e203 ?_
          refine lv_istore (lv' := [(4, .int x202), (0, .ref h_t), (2, .int x193), (3, .int x194)]) hx hb dX10_travels_123 hl (by decide) rfl (fun ls hl => ?_)
          refine lv_iload hx hb dX10_travels_125 (lv_at hl 0 rfl) ?_
          refine lv_iload_n hx hb dX10_travels_127 rfl (lv_at hl 2 rfl) ?_
          refine lv_icmp_ge (tgt := 136) hx hb dX10_travels_128 (by decide) (fun c204 => ?_) (fun c204 => ?_)
          · replace hf := ifp c204 hf
            refine lv_iload_n hx hb dX10_travels_136 rfl (lv_at hl 2 rfl) ?_
            refine lv_istore_n (lv' := [(2, .int x193), (4, .int x202), (0, .ref h_t), (3, .int x194)]) hx hb dX10_travels_137 rfl hl (by decide) rfl (fun ls hl => ?_)
            refine lv_iinc (v := (x194 + (1 : Int32))) (lv' := [(3, .int (x194 + (1 : Int32))), (2, .int x193), (4, .int x202), (0, .ref h_t)]) hx hb dX10_travels_138 hl (k := 3) rfl rfl (by decide) rfl (fun ls hl => ?_)
            refine lv_goto (tgt := 105) hx hb dX10_travels_141 (by decide) ?_
            exact ih195 _ _ _ hf hX197 _ _ hP hD hS _ (lv_sub hl [3, 1, 0] rfl)
          · replace hf := ifn c204 hf
            refine lv_iload hx hb dX10_travels_131 (lv_at hl 0 rfl) ?_
            refine lv_goto (tgt := 137) hx hb dX10_travels_133 (by decide) ?_
            refine lv_istore_n (lv' := [(2, .int x202), (4, .int x202), (0, .ref h_t), (3, .int x194)]) hx hb dX10_travels_137 rfl hl (by decide) rfl (fun ls hl => ?_)
            refine lv_iinc (v := (x194 + (1 : Int32))) (lv' := [(3, .int (x194 + (1 : Int32))), (2, .int x202), (4, .int x202), (0, .ref h_t)]) hx hb dX10_travels_138 hl (k := 3) rfl rfl (by decide) rfl (fun ls hl => ?_)
            refine lv_goto (tgt := 105) hx hb dX10_travels_141 (by decide) ?_
            exact ih195 _ _ _ hf hX197 _ _ hP hD hS _ (lv_sub hl [3, 1, 0] rfl)
    obtain ⟨x192, hg, hf⟩ := bd1_some hf
    refine L205 FU _ _ _ hg ?_ _ _ hP hD hS _ (lv_sub hl [2, 1, 0] rfl)
    · intro H locs hP hD hS ls hl
      refine lv_iload_n hx hb dX10_travels_144 rfl (lv_at hl 0 rfl) ?_
      obtain ⟨rfl, rfl, rfl⟩ := inj3 hf
      subst hQ
      exact CM_iret hx hb hr rfl hlocks hAe hP hD hS dX10_travels_145
def rmX10_stand : Room := { frames := 3, cells := 0, slots := 0, locals := 77 }
abbrev wqX10_stand : List Cond := Cond.code yX10_stand cX10_stand 11 (some .int) :: tG
set_option maxHeartbeats 4000000 in
set_option maxRecDepth 100000 in
theorem c_X10_stand (l : Launch) (dC : Nat → ClassId) (dI : Nat → Nat → Nat) (cI cZ : ClassId) (te : Nat → Nat) (h_t : Nat) (h_t_book : Nat) (h_t_images : Nat) (h_t_kept : Nat) (h_t_aside : Nat) (h_t_far : Nat) (h_t_then : Nat) (h_t_row : Nat) (h_t_mays : Nat) (h_t_firstRow : Nat) (h_t_low : Nat) (h_t_high : Nat) (h_t_lowOne : Nat) (h_t_highOne : Nat) (h_t_ways : Nat) (h_t_left : Nat) (h_t_text : Nat) (h_t_verbs : Nat) (h_t_nums : Nat) (t_noOlder : Int32) (t_thanThis : Int32) (t_known : Int32) (t_knownAge : Int32) (t_moved : Int32) (t_met : Int32) (t_hours : Int32) (t_greatest : Int32) (t_typed : Int32) (t_at : Int32) (t_start : Int32) (t_token : Int32) (t_value : Int32) (t_items : Int32) (t_book : Nat → Int32) (t_ways : Nat → Int32) (p1 : Int32) (o0 : Int32) (o1 : Int32) (o2 : Nat → Int32) (hf : f_X10_stand t_met t_book t_ways p1 = some (o0, o1, o2)) : CM l yX10_stand wqX10_stand rmX10_stand (kS te) dC dI cI cZ [.ref h_t, .int p1] [(h_t, .inr (8, fX10 h_t_book h_t_images h_t_kept h_t_aside h_t_far h_t_then h_t_row h_t_mays h_t_firstRow h_t_low h_t_high t_noOlder t_thanThis t_known t_knownAge t_moved h_t_lowOne h_t_highOne h_t_ways t_met h_t_left t_hours t_greatest h_t_text t_typed t_at t_start t_token t_value h_t_verbs h_t_nums t_items)), (h_t_book, .inl (cI, 460, .inl t_book)), (h_t_ways, .inl (cI, 26880, .inl t_ways))] [(h_t, .inr (8, fX10 h_t_book h_t_images h_t_kept h_t_aside h_t_far h_t_then h_t_row h_t_mays h_t_firstRow h_t_low h_t_high t_noOlder t_thanThis t_known t_knownAge t_moved h_t_lowOne h_t_highOne h_t_ways o1 h_t_left t_hours t_greatest h_t_text t_typed t_at t_start t_token t_value h_t_verbs h_t_nums t_items)), (h_t_book, .inl (cI, 460, .inl t_book)), (h_t_ways, .inl (cI, 26880, .inl o2))] (some (.int o0)) := by
  refine CM_of (cc := cX10_stand) (maxL := 11) (ret := (some .int)) (by decide +kernel) rfl (Nat.le_of_ble_eq_true rfl) ?_
  intro p e s m args below meth c A Q hx hb hr hml hown hts hlocks hA hK hP hD hS hE hQ hAe ls hl
  have hown : s.vm.findClass RX10 = some m.cls := hown
  have hl : lv_has ls 11 [(0, .ref h_t), (1, .int p1)] := hl
  unfold f_X10_stand at hf
  refine lv_iload_n hx hb dX10_stand_0 rfl (lv_at hl 1 rfl) ?_
  refine lv_iconst (v := (-1 : Int32)) hx hb dX10_stand_1 (by decide) ?_
  refine lv_icmp_eq (tgt := 20) hx hb dX10_stand_2 (by decide) (fun c1 => ?_) (fun c1 => ?_)
  · replace hf := ifp c1 hf
    refine lv_aload_n hx hb dX10_stand_20 rfl (lv_at hl 0 rfl) ?_
    obtain ⟨r2, x3, y4, hg5, hf⟩ := bd3_some hf
    refine CM_callV (C := RX10) (As := []) (rest := []) (wc := [(h_t, .inr (8, fX10 h_t_book h_t_images h_t_kept h_t_aside h_t_far h_t_then h_t_row h_t_mays h_t_firstRow h_t_low h_t_high t_noOlder t_thanThis t_known t_knownAge t_moved h_t_lowOne h_t_highOne h_t_ways t_met h_t_left t_hours t_greatest h_t_text t_typed t_at t_start t_token t_value h_t_verbs h_t_nums t_items)), (h_t_book, .inl (cI, 460, .inl t_book)), (h_t_ways, .inl (cI, 26880, .inl t_ways))]) (w1 := [(h_t, .inr (8, fX10 h_t_book h_t_images h_t_kept h_t_aside h_t_far h_t_then h_t_row h_t_mays h_t_firstRow h_t_low h_t_high t_noOlder t_thanThis t_known t_knownAge t_moved h_t_lowOne h_t_highOne h_t_ways x3 h_t_left t_hours t_greatest h_t_text t_typed t_at t_start t_token t_value h_t_verbs h_t_nums t_items)), (h_t_book, .inl (cI, 460, .inl t_book)), (h_t_ways, .inl (cI, 26880, .inl y4))]) (wr := []) (wo := [(h_t, .inr (8, fX10 h_t_book h_t_images h_t_kept h_t_aside h_t_far h_t_then h_t_row h_t_mays h_t_firstRow h_t_low h_t_high t_noOlder t_thanThis t_known t_knownAge t_moved h_t_lowOne h_t_highOne h_t_ways x3 h_t_left t_hours t_greatest h_t_text t_typed t_at t_start t_token t_value h_t_verbs h_t_nums t_items)), (h_t_book, .inl (cI, 460, .inl t_book)), (h_t_ways, .inl (cI, 26880, .inl y4))]) (v := (some (.int r2))) ⟨hx, hb, hml, hown, hts⟩ (c_X10_travels l dC dI cI cZ te h_t h_t_book h_t_images h_t_kept h_t_aside h_t_far h_t_then h_t_row h_t_mays h_t_firstRow h_t_low h_t_high h_t_lowOne h_t_highOne h_t_ways h_t_left h_t_text h_t_verbs h_t_nums t_noOlder t_thanThis t_known t_knownAge t_moved t_met t_hours t_greatest t_typed t_at t_start t_token t_value t_items t_book t_ways r2 x3 y4 hg5) (cwV 0 hts (gV kw_296 kw_297 kw_298 kw_159 kw_299) rfl rfl rfl (by decide +kernel) ⟨Nat.le_of_ble_eq_true rfl, Nat.le_of_ble_eq_true rfl⟩) (kS_env te) hK hP hD hS hA hE [0, 1, 2] [] [0, 1, 2] rfl rfl (by decide) (by decide) (by decide) (by decide) rfl 0 8 rfl rfl rfl rfl hl.1 rfl (Nat.le_of_ble_eq_true rfl) dX10_stand_21 ⟨Nat.zero_le _, Nat.zero_le _⟩ (fun H locs hP hD hS => ?_)
    show W p l e rmX10_stand s m args below meth c H locs 0 0 Q (F0 m 24 ls [.int r2])
    refine lv_istore_n (lv' := [(2, .int r2), (0, .ref h_t), (1, .int p1)]) hx hb dX10_stand_24 rfl hl (by decide) rfl (fun ls hl => ?_)
    refine lv_iload_n hx hb dX10_stand_25 rfl (lv_at hl 0 rfl) ?_
    refine lv_ldc (v := (1000000 : Int32)) hx hb hown (hts _ (List.mem_cons_of_mem _ kw_192)) dX10_stand_26 ?_
    refine lv_icmp_lt (tgt := 34) hx hb dX10_stand_28 (by decide) (fun c6 => ?_) (fun c6 => ?_)
    · replace hf := ifp c6 hf
      refine lv_iload_n hx hb dX10_stand_34 rfl (lv_at hl 2 rfl) ?_
      refine lv_iconst (v := (-1 : Int32)) hx hb dX10_stand_35 (by decide) ?_
      refine lv_icmp_ne (tgt := 41) hx hb dX10_stand_36 (by decide) (fun c7 => ?_) (fun c7 => ?_)
      · replace hf := ifn c7 hf
        refine lv_iconst (v := (-1 : Int32)) hx hb dX10_stand_41 (by decide) ?_
        refine lv_istore_n (lv' := [(3, .int (-1 : Int32)), (2, .int r2), (0, .ref h_t), (1, .int p1)]) hx hb dX10_stand_42 rfl hl (by decide) rfl (fun ls hl => ?_)
        refine lv_iconst (v := (0 : Int32)) hx hb dX10_stand_43 (by decide) ?_
        refine lv_istore (lv' := [(4, .int (0 : Int32)), (3, .int (-1 : Int32)), (2, .int r2), (0, .ref h_t), (1, .int p1)]) hx hb dX10_stand_44 hl (by decide) rfl (fun ls hl => ?_)
        refine lv_iconst (v := (0 : Int32)) hx hb dX10_stand_46 (by decide) ?_
        refine lv_istore (lv' := [(5, .int (0 : Int32)), (4, .int (0 : Int32)), (3, .int (-1 : Int32)), (2, .int r2), (0, .ref h_t), (1, .int p1)]) hx hb dX10_stand_47 hl (by decide) rfl (fun ls hl => ?_)
        have L151 : ∀ (fu85 : Nat) (x79 : Int32) (x80 : Int32) (x81 : Int32) (x82 : Int32) (x83 : Int32) (x77 : Int32) (x78 : Int32), f_X10_stand_L3 p1 y4 t_book fu85 x79 x80 x81 x82 x83 = some (x77, x78) → (∀ (H : Heap) (locs : List Loc), va_P (dC, dI) vwCl [(h_t, .inr (8, fX10 h_t_book h_t_images h_t_kept h_t_aside h_t_far h_t_then h_t_row h_t_mays h_t_firstRow h_t_low h_t_high t_noOlder t_thanThis t_known t_knownAge t_moved h_t_lowOne h_t_highOne h_t_ways x77 h_t_left t_hours t_greatest h_t_text t_typed t_at t_start t_token t_value h_t_verbs h_t_nums t_items)), (h_t_book, .inl (cI, 460, .inl t_book)), (h_t_ways, .inl (cI, 26880, .inl y4))] H → va_D A [(h_t, .inr (8, fX10 h_t_book h_t_images h_t_kept h_t_aside h_t_far h_t_then h_t_row h_t_mays h_t_firstRow h_t_low h_t_high t_noOlder t_thanThis t_known t_knownAge t_moved h_t_lowOne h_t_highOne h_t_ways x77 h_t_left t_hours t_greatest h_t_text t_typed t_at t_start t_token t_value h_t_verbs h_t_nums t_items)), (h_t_book, .inl (cI, 460, .inl t_book)), (h_t_ways, .inl (cI, 26880, .inl y4))] → va_S A s.heap H locs → ∀ ls : Array Slot, lv_has ls 11 [(3, .int x78)] → W p l e rmX10_stand s m args below meth c H locs 0 0 Q (F0 m 210 ls [])) → ∀ (H : Heap) (locs : List Loc), va_P (dC, dI) vwCl [(h_t, .inr (8, fX10 h_t_book h_t_images h_t_kept h_t_aside h_t_far h_t_then h_t_row h_t_mays h_t_firstRow h_t_low h_t_high t_noOlder t_thanThis t_known t_knownAge t_moved h_t_lowOne h_t_highOne h_t_ways x79 h_t_left t_hours t_greatest h_t_text t_typed t_at t_start t_token t_value h_t_verbs h_t_nums t_items)), (h_t_book, .inl (cI, 460, .inl t_book)), (h_t_ways, .inl (cI, 26880, .inl y4))] H → va_D A [(h_t, .inr (8, fX10 h_t_book h_t_images h_t_kept h_t_aside h_t_far h_t_then h_t_row h_t_mays h_t_firstRow h_t_low h_t_high t_noOlder t_thanThis t_known t_knownAge t_moved h_t_lowOne h_t_highOne h_t_ways x79 h_t_left t_hours t_greatest h_t_text t_typed t_at t_start t_token t_value h_t_verbs h_t_nums t_items)), (h_t_book, .inl (cI, 460, .inl t_book)), (h_t_ways, .inl (cI, 26880, .inl y4))] → va_S A s.heap H locs → ∀ ls : Array Slot, lv_has ls 11 [(0, .ref h_t), (1, .int p1), (2, .int x80), (3, .int x81), (4, .int x82), (5, .int x83)] → W p l e rmX10_stand s m args below meth c H locs 0 0 Q (F0 m 49 ls []) := by
          intro fu85
          induction fu85 with
          | zero =>
            intro x79 x80 x81 x82 x83 x77 x78 hf
            unfold f_X10_stand_L3 at hf
            exact none_ne hf
          | succ fu85 ih84 =>
            intro x79 x80 x81 x82 x83 x77 x78 hf hX86 H locs hP hD hS ls hl
            unfold f_X10_stand_L3 at hf
            refine lv_iload hx hb dX10_stand_49 (lv_at hl 5 rfl) ?_
            refine lv_iload_n hx hb dX10_stand_51 rfl (lv_at hl 1 rfl) ?_
            refine lv_icmp_gt (tgt := 210) hx hb dX10_stand_52 (by decide) (fun c87 => ?_) (fun c87 => ?_)
            · replace hf := ifp c87 hf
              obtain ⟨rfl, rfl⟩ := inj2 hf
              exact hX86 _ _ hP hD hS _ (lv_sub hl [3] rfl)
            · replace hf := ifn c87 hf
              refine lv_bipush (v := (20 : Int32)) hx hb dX10_stand_55 (by decide) ?_
              refine lv_istore (lv' := [(6, .int (20 : Int32)), (0, .ref h_t), (1, .int p1), (2, .int x80), (3, .int x81), (4, .int x82), (5, .int x83)]) hx hb dX10_stand_57 hl (by decide) rfl (fun ls hl => ?_)
              refine lv_iconst (v := (0 : Int32)) hx hb dX10_stand_59 (by decide) ?_
              refine lv_istore (lv' := [(7, .int (0 : Int32)), (6, .int (20 : Int32)), (0, .ref h_t), (1, .int p1), (2, .int x80), (3, .int x81), (4, .int x82), (5, .int x83)]) hx hb dX10_stand_60 hl (by decide) rfl (fun ls hl => ?_)
              refine lv_bipush (v := (20 : Int32)) hx hb dX10_stand_62 (by decide) ?_
              refine lv_istore (lv' := [(8, .int (20 : Int32)), (7, .int (0 : Int32)), (6, .int (20 : Int32)), (0, .ref h_t), (1, .int p1), (2, .int x80), (3, .int x81), (4, .int x82), (5, .int x83)]) hx hb dX10_stand_64 hl (by decide) rfl (fun ls hl => ?_)
              have L143 : ∀ (fu119 : Nat) (x115 : Int32) (x116 : Int32) (x117 : Int32) (x113 : Int32) (x114 : Int32), f_X10_stand_L4 x81 x83 x82 y4 x80 t_book fu119 x115 x116 x117 = some (x113, x114) → (∀ (H : Heap) (locs : List Loc), va_P (dC, dI) vwCl [(h_t, .inr (8, fX10 h_t_book h_t_images h_t_kept h_t_aside h_t_far h_t_then h_t_row h_t_mays h_t_firstRow h_t_low h_t_high t_noOlder t_thanThis t_known t_knownAge t_moved h_t_lowOne h_t_highOne h_t_ways x79 h_t_left t_hours t_greatest h_t_text t_typed t_at t_start t_token t_value h_t_verbs h_t_nums t_items)), (h_t_book, .inl (cI, 460, .inl t_book)), (h_t_ways, .inl (cI, 26880, .inl y4))] H → va_D A [(h_t, .inr (8, fX10 h_t_book h_t_images h_t_kept h_t_aside h_t_far h_t_then h_t_row h_t_mays h_t_firstRow h_t_low h_t_high t_noOlder t_thanThis t_known t_knownAge t_moved h_t_lowOne h_t_highOne h_t_ways x79 h_t_left t_hours t_greatest h_t_text t_typed t_at t_start t_token t_value h_t_verbs h_t_nums t_items)), (h_t_book, .inl (cI, 460, .inl t_book)), (h_t_ways, .inl (cI, 26880, .inl y4))] → va_S A s.heap H locs → ∀ ls : Array Slot, lv_has ls 11 [(0, .ref h_t), (1, .int p1), (2, .int x80), (4, .int x82), (5, .int x83), (6, .int x113), (7, .int x114)] → W p l e rmX10_stand s m args below meth c H locs 0 0 Q (F0 m 179 ls [])) → ∀ (H : Heap) (locs : List Loc), va_P (dC, dI) vwCl [(h_t, .inr (8, fX10 h_t_book h_t_images h_t_kept h_t_aside h_t_far h_t_then h_t_row h_t_mays h_t_firstRow h_t_low h_t_high t_noOlder t_thanThis t_known t_knownAge t_moved h_t_lowOne h_t_highOne h_t_ways x79 h_t_left t_hours t_greatest h_t_text t_typed t_at t_start t_token t_value h_t_verbs h_t_nums t_items)), (h_t_book, .inl (cI, 460, .inl t_book)), (h_t_ways, .inl (cI, 26880, .inl y4))] H → va_D A [(h_t, .inr (8, fX10 h_t_book h_t_images h_t_kept h_t_aside h_t_far h_t_then h_t_row h_t_mays h_t_firstRow h_t_low h_t_high t_noOlder t_thanThis t_known t_knownAge t_moved h_t_lowOne h_t_highOne h_t_ways x79 h_t_left t_hours t_greatest h_t_text t_typed t_at t_start t_token t_value h_t_verbs h_t_nums t_items)), (h_t_book, .inl (cI, 460, .inl t_book)), (h_t_ways, .inl (cI, 26880, .inl y4))] → va_S A s.heap H locs → ∀ ls : Array Slot, lv_has ls 11 [(0, .ref h_t), (1, .int p1), (2, .int x80), (3, .int x81), (4, .int x82), (5, .int x83), (6, .int x115), (7, .int x116), (8, .int x117)] → W p l e rmX10_stand s m args below meth c H locs 0 0 Q (F0 m 66 ls []) := by
                intro fu119
                induction fu119 with
                | zero =>
                  intro x115 x116 x117 x113 x114 hf
                  unfold f_X10_stand_L4 at hf
                  exact none_ne hf
                | succ fu119 ih118 =>
                  intro x115 x116 x117 x113 x114 hf hX120 H locs hP hD hS ls hl
                  unfold f_X10_stand_L4 at hf
                  refine lv_iload hx hb dX10_stand_66 (lv_at hl 8 rfl) ?_
                  refine lv_if_lt (tgt := 179) hx hb dX10_stand_68 (by decide) (fun c121 => ?_) (fun c121 => ?_)
                  · replace hf := ifp c121 hf
                    obtain ⟨rfl, rfl⟩ := inj2 hf
                    exact hX120 _ _ hP hD hS _ (lv_sub hl [0, 1, 2, 4, 5, 6, 7] rfl)
                  · replace hf := ifn c121 hf
                    refine lv_iload_n hx hb dX10_stand_71 rfl (lv_at hl 3 rfl) ?_
                    refine lv_iconst (v := (-1 : Int32)) hx hb dX10_stand_72 (by decide) ?_
                    obtain ⟨x122, hg, hf⟩ := bd1_some hf
                    have J123 : ∀ (H : Heap) (locs : List Loc), va_P (dC, dI) vwCl [(h_t, .inr (8, fX10 h_t_book h_t_images h_t_kept h_t_aside h_t_far h_t_then h_t_row h_t_mays h_t_firstRow h_t_low h_t_high t_noOlder t_thanThis t_known t_knownAge t_moved h_t_lowOne h_t_highOne h_t_ways x79 h_t_left t_hours t_greatest h_t_text t_typed t_at t_start t_token t_value h_t_verbs h_t_nums t_items)), (h_t_book, .inl (cI, 460, .inl t_book)), (h_t_ways, .inl (cI, 26880, .inl y4))] H → va_D A [(h_t, .inr (8, fX10 h_t_book h_t_images h_t_kept h_t_aside h_t_far h_t_then h_t_row h_t_mays h_t_firstRow h_t_low h_t_high t_noOlder t_thanThis t_known t_knownAge t_moved h_t_lowOne h_t_highOne h_t_ways x79 h_t_left t_hours t_greatest h_t_text t_typed t_at t_start t_token t_value h_t_verbs h_t_nums t_items)), (h_t_book, .inl (cI, 460, .inl t_book)), (h_t_ways, .inl (cI, 26880, .inl y4))] → va_S A s.heap H locs → ∀ ls : Array Slot, lv_has ls 11 [(0, .ref h_t), (1, .int p1), (2, .int x80), (3, .int x81), (4, .int x82), (5, .int x83), (6, .int x115), (7, .int x116), (8, .int x117)] → W p l e rmX10_stand s m args below meth c H locs 0 0 Q (F0 m 97 ls [.int x122]) := by
                      intro H locs hP hD hS ls hl
                      refine lv_istore (lv' := [(9, .int x122), (0, .ref h_t), (1, .int p1), (2, .int x80), (3, .int x81), (4, .int x82), (5, .int x83), (6, .int x115), (7, .int x116), (8, .int x117)]) hx hb dX10_stand_97 hl (by decide) rfl (fun ls hl => ?_)
                      refine lv_iload_n hx hb dX10_stand_99 rfl (lv_at hl 4 rfl) ?_
                      refine lv_iconst (v := (-1 : Int32)) hx hb dX10_stand_100 (by decide) ?_
                      obtain ⟨x124, hg, hf⟩ := bd1_some hf
                      have J125 : ∀ (H : Heap) (locs : List Loc), va_P (dC, dI) vwCl [(h_t, .inr (8, fX10 h_t_book h_t_images h_t_kept h_t_aside h_t_far h_t_then h_t_row h_t_mays h_t_firstRow h_t_low h_t_high t_noOlder t_thanThis t_known t_knownAge t_moved h_t_lowOne h_t_highOne h_t_ways x79 h_t_left t_hours t_greatest h_t_text t_typed t_at t_start t_token t_value h_t_verbs h_t_nums t_items)), (h_t_book, .inl (cI, 460, .inl t_book)), (h_t_ways, .inl (cI, 26880, .inl y4))] H → va_D A [(h_t, .inr (8, fX10 h_t_book h_t_images h_t_kept h_t_aside h_t_far h_t_then h_t_row h_t_mays h_t_firstRow h_t_low h_t_high t_noOlder t_thanThis t_known t_knownAge t_moved h_t_lowOne h_t_highOne h_t_ways x79 h_t_left t_hours t_greatest h_t_text t_typed t_at t_start t_token t_value h_t_verbs h_t_nums t_items)), (h_t_book, .inl (cI, 460, .inl t_book)), (h_t_ways, .inl (cI, 26880, .inl y4))] → va_S A s.heap H locs → ∀ ls : Array Slot, lv_has ls 11 [(0, .ref h_t), (1, .int p1), (2, .int x80), (3, .int x81), (4, .int x82), (5, .int x83), (6, .int x115), (7, .int x116), (8, .int x117), (9, .int x122)] → W p l e rmX10_stand s m args below meth c H locs 0 0 Q (F0 m 143 ls [.int x124]) := by
                        intro H locs hP hD hS ls hl
                        refine lv_istore (lv' := [(10, .int x124), (0, .ref h_t), (1, .int p1), (2, .int x80), (3, .int x81), (4, .int x82), (5, .int x83), (6, .int x115), (7, .int x116), (8, .int x117), (9, .int x122)]) hx hb dX10_stand_143 hl (by decide) rfl (fun ls hl => ?_)
                        refine lv_iload hx hb dX10_stand_145 (lv_at hl 0 rfl) ?_
                        obtain ⟨x126, hg, hf⟩ := bd1_some hf
                        have J127 : ∀ (H : Heap) (locs : List Loc), va_P (dC, dI) vwCl [(h_t, .inr (8, fX10 h_t_book h_t_images h_t_kept h_t_aside h_t_far h_t_then h_t_row h_t_mays h_t_firstRow h_t_low h_t_high t_noOlder t_thanThis t_known t_knownAge t_moved h_t_lowOne h_t_highOne h_t_ways x79 h_t_left t_hours t_greatest h_t_text t_typed t_at t_start t_token t_value h_t_verbs h_t_nums t_items)), (h_t_book, .inl (cI, 460, .inl t_book)), (h_t_ways, .inl (cI, 26880, .inl y4))] H → va_D A [(h_t, .inr (8, fX10 h_t_book h_t_images h_t_kept h_t_aside h_t_far h_t_then h_t_row h_t_mays h_t_firstRow h_t_low h_t_high t_noOlder t_thanThis t_known t_knownAge t_moved h_t_lowOne h_t_highOne h_t_ways x79 h_t_left t_hours t_greatest h_t_text t_typed t_at t_start t_token t_value h_t_verbs h_t_nums t_items)), (h_t_book, .inl (cI, 460, .inl t_book)), (h_t_ways, .inl (cI, 26880, .inl y4))] → va_S A s.heap H locs → ∀ ls : Array Slot, lv_has ls 11 [(0, .ref h_t), (1, .int p1), (2, .int x80), (3, .int x81), (4, .int x82), (5, .int x83), (7, .int x116), (8, .int x117), (9, .int x122), (10, .int x124)] → W p l e rmX10_stand s m args below meth c H locs 0 0 Q (F0 m 157 ls [.int x126]) := by
                          intro H locs hP hD hS ls hl
                          refine lv_istore (lv' := [(6, .int x126), (0, .ref h_t), (1, .int p1), (2, .int x80), (3, .int x81), (4, .int x82), (5, .int x83), (7, .int x116), (8, .int x117), (9, .int x122), (10, .int x124)]) hx hb dX10_stand_157 hl (by decide) rfl (fun ls hl => ?_)
                          refine lv_iload hx hb dX10_stand_159 (lv_at hl 10 rfl) ?_
                          refine lv_if_eq (tgt := 169) hx hb dX10_stand_161 (by decide) (fun c128 => ?_) (fun c128 => ?_)
                          · replace hf := ifp c128 hf
                            refine lv_iload hx hb dX10_stand_169 (lv_at hl 7 rfl) ?_
                            refine lv_istore (lv' := [(7, .int x116), (6, .int x126), (0, .ref h_t), (1, .int p1), (2, .int x80), (3, .int x81), (4, .int x82), (5, .int x83), (8, .int x117), (9, .int x122), (10, .int x124)]) hx hb dX10_stand_171 hl (by decide) rfl (fun ls hl => ?_)
                            refine lv_iinc (v := (x117 + (-1 : Int32))) (lv' := [(8, .int (x117 + (-1 : Int32))), (7, .int x116), (6, .int x126), (0, .ref h_t), (1, .int p1), (2, .int x80), (3, .int x81), (4, .int x82), (5, .int x83), (9, .int x122), (10, .int x124)]) hx hb dX10_stand_173 hl (k := 8) rfl rfl (by decide) rfl (fun ls hl => ?_)
                            refine lv_goto (tgt := 66) hx hb dX10_stand_176 (by decide) ?_
                            exact ih118 _ _ _ _ _ hf hX120 _ _ hP hD hS _ (lv_sub hl [3, 4, 5, 6, 7, 8, 2, 1, 0] rfl)
                          · replace hf := ifn c128 hf
                            refine lv_iload hx hb dX10_stand_164 (lv_at hl 9 rfl) ?_
                            refine lv_goto (tgt := 171) hx hb dX10_stand_166 (by decide) ?_
                            refine lv_istore (lv' := [(7, .int x122), (6, .int x126), (0, .ref h_t), (1, .int p1), (2, .int x80), (3, .int x81), (4, .int x82), (5, .int x83), (8, .int x117), (9, .int x122), (10, .int x124)]) hx hb dX10_stand_171 hl (by decide) rfl (fun ls hl => ?_)
                            refine lv_iinc (v := (x117 + (-1 : Int32))) (lv' := [(8, .int (x117 + (-1 : Int32))), (7, .int x122), (6, .int x126), (0, .ref h_t), (1, .int p1), (2, .int x80), (3, .int x81), (4, .int x82), (5, .int x83), (9, .int x122), (10, .int x124)]) hx hb dX10_stand_173 hl (k := 8) rfl rfl (by decide) rfl (fun ls hl => ?_)
                            refine lv_goto (tgt := 66) hx hb dX10_stand_176 (by decide) ?_
                            exact ih118 _ _ _ _ _ hf hX120 _ _ hP hD hS _ (lv_sub hl [3, 4, 5, 6, 7, 8, 2, 1, 0] rfl)
                        clear hf
                        have hf := hg
                        refine lv_if_eq (tgt := 155) hx hb dX10_stand_147 (by decide) (fun c129 => ?_) (fun c129 => ?_)
                        · replace hf := ifp c129 hf
                          refine lv_iload hx hb dX10_stand_155 (lv_at hl 7 rfl) ?_
                          obtain rfl := inj1 hf
                          exact J127 _ _ hP hD hS _ (lv_sub hl [1, 2, 3, 4, 5, 6, 8, 9, 10, 0] rfl)
                        · replace hf := ifn c129 hf
                          refine lv_iload hx hb dX10_stand_150 (lv_at hl 9 rfl) ?_
                          refine lv_goto (tgt := 157) hx hb dX10_stand_152 (by decide) ?_
                          obtain rfl := inj1 hf
                          exact J127 _ _ hP hD hS _ (lv_sub hl [1, 2, 3, 4, 5, 6, 8, 9, 10, 0] rfl)
                      clear hf
                      have hf := hg
                      refine lv_icmp_eq (tgt := 116) hx hb dX10_stand_101 (by decide) (fun c130 => ?_) (fun c130 => ?_)
                      · replace hf := ifp c130 hf
                        refine lv_iload hx hb dX10_stand_116 (lv_at hl 0 rfl) ?_
                        refine lv_aload_n hx hb dX10_stand_118 rfl (lv_at hl 1 rfl) ?_
                        refine va_get (D := (dC, dI)) (ci := 8) (v := .ref h_t_ways) (C := RX10) (T := TX10) (N := 32) hx hb hts (in1 tw_X10) hown hK hP 0 rfl rfl 18 (by decide) (hts _ (List.mem_cons_of_mem _ kw_130)) (fun _ h9 => h9) rfl dX10_stand_119 ?_
                        refine lv_aload_n hx hb dX10_stand_122 rfl (lv_at hl 1 rfl) ?_
                        refine lv_iload hx hb dX10_stand_123 (lv_at hl 6 rfl) ?_
                        refine lv_iload hx hb dX10_stand_125 (lv_at hl 9 rfl) ?_
                        refine lv_iload hx hb dX10_stand_127 (lv_at hl 5 rfl) ?_
                        obtain ⟨r131, hg132, hf⟩ := bd1_some hf
                        refine CM_callV (C := RX10) (As := [.int x83, .int x117, .int x82]) (rest := [.ref h_t_ways, .int x122]) (wc := []) (w1 := []) (wr := [(h_t, .inr (8, fX10 h_t_book h_t_images h_t_kept h_t_aside h_t_far h_t_then h_t_row h_t_mays h_t_firstRow h_t_low h_t_high t_noOlder t_thanThis t_known t_knownAge t_moved h_t_lowOne h_t_highOne h_t_ways x79 h_t_left t_hours t_greatest h_t_text t_typed t_at t_start t_token t_value h_t_verbs h_t_nums t_items)), (h_t_book, .inl (cI, 460, .inl t_book)), (h_t_ways, .inl (cI, 26880, .inl y4))]) (wo := [(h_t, .inr (8, fX10 h_t_book h_t_images h_t_kept h_t_aside h_t_far h_t_then h_t_row h_t_mays h_t_firstRow h_t_low h_t_high t_noOlder t_thanThis t_known t_knownAge t_moved h_t_lowOne h_t_highOne h_t_ways x79 h_t_left t_hours t_greatest h_t_text t_typed t_at t_start t_token t_value h_t_verbs h_t_nums t_items)), (h_t_book, .inl (cI, 460, .inl t_book)), (h_t_ways, .inl (cI, 26880, .inl y4))]) (v := (some (.int r131))) ⟨hx, hb, hml, hown, hts⟩ (c_X10_wayAt l dC dI cI cZ te h_t x83 x117 x82 r131 hg132) (cwV 3 hts (gV kw_284 kw_285 kw_286 kw_159 kw_287) rfl rfl rfl (by decide +kernel) ⟨Nat.le_of_ble_eq_true rfl, Nat.le_of_ble_eq_true rfl⟩) (kS_env te) hK hP hD hS hA hE [] [0, 1, 2] [0, 1, 2] rfl rfl (by decide) (by decide) (by decide) (by decide) rfl 0 8 rfl rfl rfl rfl hl.1 rfl (Nat.le_of_ble_eq_true rfl) dX10_stand_129 ⟨Nat.zero_le _, Nat.zero_le _⟩ (fun H locs hP hD hS => ?_)
                        show W p l e rmX10_stand s m args below meth c H locs 0 0 Q (F0 m 132 ls [.int r131, .ref h_t_ways, .int x122])
                        obtain ⟨g133, hf⟩ := chk_some hf
                        refine va_iald hx hb hK hP 2 0 rfl rfl (gin_in g133) dX10_stand_132 ?_
                        refine lv_iadd hx hb dX10_stand_133 ?_
                        refine lv_iload_n hx hb dX10_stand_134 rfl (lv_at hl 3 rfl) ?_
                        refine lv_icmp_ne (tgt := 142) hx hb dX10_stand_135 (by decide) (fun c134 => ?_) (fun c134 => ?_)
                        · replace hf := ifn c134 hf
                          refine lv_iconst (v := (0 : Int32)) hx hb dX10_stand_142 (by decide) ?_
                          obtain rfl := inj1 hf
                          exact J125 _ _ hP hD hS _ (lv_sub hl [1, 2, 3, 4, 5, 6, 7, 8, 9, 0] rfl)
                        · replace hf := ifp c134 hf
                          refine lv_iconst (v := (1 : Int32)) hx hb dX10_stand_138 (by decide) ?_
                          refine lv_goto (tgt := 143) hx hb dX10_stand_139 (by decide) ?_
                          obtain rfl := inj1 hf
                          exact J125 _ _ hP hD hS _ (lv_sub hl [1, 2, 3, 4, 5, 6, 7, 8, 9, 0] rfl)
                      · replace hf := ifn c130 hf
                        refine lv_iload hx hb dX10_stand_104 (lv_at hl 0 rfl) ?_
                        refine lv_aload_n hx hb dX10_stand_106 rfl (lv_at hl 1 rfl) ?_
                        refine va_get (D := (dC, dI)) (ci := 8) (v := .ref h_t_book) (C := RX10) (T := TX10) (N := 32) hx hb hts (in1 tw_X10) hown hK hP 0 rfl rfl 0 (by decide) (hts _ (List.mem_cons_of_mem _ kw_116)) (fun _ h9 => h9) rfl dX10_stand_107 ?_
                        refine lv_bipush (v := (7 : Int32)) hx hb dX10_stand_110 (by decide) ?_
                        obtain ⟨g135, hf⟩ := chk_some hf
                        refine va_iald hx hb hK hP 1 0 rfl rfl (gin_in g135) dX10_stand_112 ?_
                        refine lv_icmp_gt (tgt := 142) hx hb dX10_stand_113 (by decide) (fun c136 => ?_) (fun c136 => ?_)
                        · replace hf := ifp c136 hf
                          refine lv_iconst (v := (0 : Int32)) hx hb dX10_stand_142 (by decide) ?_
                          obtain rfl := inj1 hf
                          exact J125 _ _ hP hD hS _ (lv_sub hl [1, 2, 3, 4, 5, 6, 7, 8, 9, 0] rfl)
                        · replace hf := ifn c136 hf
                          refine lv_iload hx hb dX10_stand_116 (lv_at hl 0 rfl) ?_
                          refine lv_aload_n hx hb dX10_stand_118 rfl (lv_at hl 1 rfl) ?_
                          refine va_get (D := (dC, dI)) (ci := 8) (v := .ref h_t_ways) (C := RX10) (T := TX10) (N := 32) hx hb hts (in1 tw_X10) hown hK hP 0 rfl rfl 18 (by decide) (hts _ (List.mem_cons_of_mem _ kw_130)) (fun _ h9 => h9) rfl dX10_stand_119 ?_
                          refine lv_aload_n hx hb dX10_stand_122 rfl (lv_at hl 1 rfl) ?_
                          refine lv_iload hx hb dX10_stand_123 (lv_at hl 6 rfl) ?_
                          refine lv_iload hx hb dX10_stand_125 (lv_at hl 9 rfl) ?_
                          refine lv_iload hx hb dX10_stand_127 (lv_at hl 5 rfl) ?_
                          obtain ⟨r137, hg138, hf⟩ := bd1_some hf
                          refine CM_callV (C := RX10) (As := [.int x83, .int x117, .int x82]) (rest := [.ref h_t_ways, .int x122]) (wc := []) (w1 := []) (wr := [(h_t, .inr (8, fX10 h_t_book h_t_images h_t_kept h_t_aside h_t_far h_t_then h_t_row h_t_mays h_t_firstRow h_t_low h_t_high t_noOlder t_thanThis t_known t_knownAge t_moved h_t_lowOne h_t_highOne h_t_ways x79 h_t_left t_hours t_greatest h_t_text t_typed t_at t_start t_token t_value h_t_verbs h_t_nums t_items)), (h_t_book, .inl (cI, 460, .inl t_book)), (h_t_ways, .inl (cI, 26880, .inl y4))]) (wo := [(h_t, .inr (8, fX10 h_t_book h_t_images h_t_kept h_t_aside h_t_far h_t_then h_t_row h_t_mays h_t_firstRow h_t_low h_t_high t_noOlder t_thanThis t_known t_knownAge t_moved h_t_lowOne h_t_highOne h_t_ways x79 h_t_left t_hours t_greatest h_t_text t_typed t_at t_start t_token t_value h_t_verbs h_t_nums t_items)), (h_t_book, .inl (cI, 460, .inl t_book)), (h_t_ways, .inl (cI, 26880, .inl y4))]) (v := (some (.int r137))) ⟨hx, hb, hml, hown, hts⟩ (c_X10_wayAt l dC dI cI cZ te h_t x83 x117 x82 r137 hg138) (cwV 3 hts (gV kw_284 kw_285 kw_286 kw_159 kw_287) rfl rfl rfl (by decide +kernel) ⟨Nat.le_of_ble_eq_true rfl, Nat.le_of_ble_eq_true rfl⟩) (kS_env te) hK hP hD hS hA hE [] [0, 1, 2] [0, 1, 2] rfl rfl (by decide) (by decide) (by decide) (by decide) rfl 0 8 rfl rfl rfl rfl hl.1 rfl (Nat.le_of_ble_eq_true rfl) dX10_stand_129 ⟨Nat.zero_le _, Nat.zero_le _⟩ (fun H locs hP hD hS => ?_)
                          show W p l e rmX10_stand s m args below meth c H locs 0 0 Q (F0 m 132 ls [.int r137, .ref h_t_ways, .int x122])
                          obtain ⟨g139, hf⟩ := chk_some hf
                          refine va_iald hx hb hK hP 2 0 rfl rfl (gin_in g139) dX10_stand_132 ?_
                          refine lv_iadd hx hb dX10_stand_133 ?_
                          refine lv_iload_n hx hb dX10_stand_134 rfl (lv_at hl 3 rfl) ?_
                          refine lv_icmp_ne (tgt := 142) hx hb dX10_stand_135 (by decide) (fun c140 => ?_) (fun c140 => ?_)
                          · replace hf := ifn c140 hf
                            refine lv_iconst (v := (0 : Int32)) hx hb dX10_stand_142 (by decide) ?_
                            obtain rfl := inj1 hf
                            exact J125 _ _ hP hD hS _ (lv_sub hl [1, 2, 3, 4, 5, 6, 7, 8, 9, 0] rfl)
                          · replace hf := ifp c140 hf
                            refine lv_iconst (v := (1 : Int32)) hx hb dX10_stand_138 (by decide) ?_
                            refine lv_goto (tgt := 143) hx hb dX10_stand_139 (by decide) ?_
                            obtain rfl := inj1 hf
                            exact J125 _ _ hP hD hS _ (lv_sub hl [1, 2, 3, 4, 5, 6, 7, 8, 9, 0] rfl)
                    clear hf
                    have hf := hg
                    refine lv_icmp_ne (tgt := 80) hx hb dX10_stand_73 (by decide) (fun c141 => ?_) (fun c141 => ?_)
                    · replace hf := ifn c141 hf
                      refine lv_iload hx hb dX10_stand_80 (lv_at hl 8 rfl) ?_
                      refine lv_iload_n hx hb dX10_stand_82 rfl (lv_at hl 3 rfl) ?_
                      refine lv_icmp_le (tgt := 93) hx hb dX10_stand_83 (by decide) (fun c142 => ?_) (fun c142 => ?_)
                      · replace hf := ifp c142 hf
                        refine lv_iload_n hx hb dX10_stand_93 rfl (lv_at hl 3 rfl) ?_
                        refine lv_iload hx hb dX10_stand_94 (lv_at hl 8 rfl) ?_
                        refine lv_isub hx hb dX10_stand_96 ?_
                        obtain rfl := inj1 hf
                        exact J123 _ _ hP hD hS _ (lv_sub hl [0, 1, 2, 3, 4, 5, 6, 7, 8] rfl)
                      · replace hf := ifn c142 hf
                        refine lv_iload hx hb dX10_stand_86 (lv_at hl 8 rfl) ?_
                        refine lv_iload_n hx hb dX10_stand_88 rfl (lv_at hl 3 rfl) ?_
                        refine lv_isub hx hb dX10_stand_89 ?_
                        refine lv_goto (tgt := 97) hx hb dX10_stand_90 (by decide) ?_
                        obtain rfl := inj1 hf
                        exact J123 _ _ hP hD hS _ (lv_sub hl [0, 1, 2, 3, 4, 5, 6, 7, 8] rfl)
                    · replace hf := ifp c141 hf
                      refine lv_iconst (v := (0 : Int32)) hx hb dX10_stand_76 (by decide) ?_
                      refine lv_goto (tgt := 97) hx hb dX10_stand_77 (by decide) ?_
                      obtain rfl := inj1 hf
                      exact J123 _ _ hP hD hS _ (lv_sub hl [0, 1, 2, 3, 4, 5, 6, 7, 8] rfl)
              obtain ⟨x113, x114, hg, hf⟩ := bd2_some hf
              refine L143 FU _ _ _ _ _ hg ?_ _ _ hP hD hS _ (lv_sub hl [3, 4, 5, 6, 7, 8, 2, 1, 0] rfl)
              · intro H locs hP hD hS ls hl
                refine lv_iload hx hb dX10_stand_179 (lv_at hl 5 rfl) ?_
                refine lv_istore_n (lv' := [(3, .int x113), (0, .ref h_t), (1, .int p1), (2, .int x80), (4, .int x82), (5, .int x83), (6, .int x113), (7, .int x114)]) hx hb dX10_stand_181 rfl hl (by decide) rfl (fun ls hl => ?_)
                refine lv_iload_n hx hb dX10_stand_182 rfl (lv_at hl 3 rfl) ?_
                refine lv_iload hx hb dX10_stand_183 (lv_at hl 7 rfl) ?_
                refine lv_isub hx hb dX10_stand_185 ?_
                obtain ⟨x144, e145, hf⟩ := nm_some hf
                refine lv_tope e145 ?_
                refine lv_istore_n (lv' := [(2, .int x144), (3, .int x113), (0, .ref h_t), (1, .int p1), (4, .int x82), (5, .int x83), (6, .int x113), (7, .int x114)]) hx hb dX10_stand_186 rfl hl (by decide) rfl (fun ls hl => ?_)
                refine lv_aload_n hx hb dX10_stand_187 rfl (lv_at hl 2 rfl) ?_
                refine lv_iload hx hb dX10_stand_188 (lv_at hl 5 rfl) ?_
                refine lv_iload_n hx hb dX10_stand_190 rfl (lv_at hl 1 rfl) ?_
                obtain ⟨r146, x147, hg148, hf⟩ := bd2_some hf
                refine CM_callV (C := RX10) (As := [.int x83, .int x113]) (rest := []) (wc := [(h_t, .inr (8, fX10 h_t_book h_t_images h_t_kept h_t_aside h_t_far h_t_then h_t_row h_t_mays h_t_firstRow h_t_low h_t_high t_noOlder t_thanThis t_known t_knownAge t_moved h_t_lowOne h_t_highOne h_t_ways x79 h_t_left t_hours t_greatest h_t_text t_typed t_at t_start t_token t_value h_t_verbs h_t_nums t_items)), (h_t_book, .inl (cI, 460, .inl t_book))]) (w1 := [(h_t, .inr (8, fX10 h_t_book h_t_images h_t_kept h_t_aside h_t_far h_t_then h_t_row h_t_mays h_t_firstRow h_t_low h_t_high t_noOlder t_thanThis t_known t_knownAge t_moved h_t_lowOne h_t_highOne h_t_ways x147 h_t_left t_hours t_greatest h_t_text t_typed t_at t_start t_token t_value h_t_verbs h_t_nums t_items)), (h_t_book, .inl (cI, 460, .inl t_book))]) (wr := [(h_t_ways, .inl (cI, 26880, .inl y4))]) (wo := [(h_t, .inr (8, fX10 h_t_book h_t_images h_t_kept h_t_aside h_t_far h_t_then h_t_row h_t_mays h_t_firstRow h_t_low h_t_high t_noOlder t_thanThis t_known t_knownAge t_moved h_t_lowOne h_t_highOne h_t_ways x147 h_t_left t_hours t_greatest h_t_text t_typed t_at t_start t_token t_value h_t_verbs h_t_nums t_items)), (h_t_book, .inl (cI, 460, .inl t_book)), (h_t_ways, .inl (cI, 26880, .inl y4))]) (v := (some (.int r146))) ⟨hx, hb, hml, hown, hts⟩ (c_X10_bearsYear l dC dI cI cZ te h_t h_t_book h_t_images h_t_kept h_t_aside h_t_far h_t_then h_t_row h_t_mays h_t_firstRow h_t_low h_t_high h_t_lowOne h_t_highOne h_t_ways h_t_left h_t_text h_t_verbs h_t_nums t_noOlder t_thanThis t_known t_knownAge t_moved x79 t_hours t_greatest t_typed t_at t_start t_token t_value t_items t_book x83 x113 r146 x147 hg148) (cwV 2 hts (gV kw_288 kw_289 kw_290 kw_159 kw_291) rfl rfl rfl (by decide +kernel) ⟨Nat.le_of_ble_eq_true rfl, Nat.le_of_ble_eq_true rfl⟩) (kS_env te) hK hP hD hS hA hE [0, 1] [2] [1, 2, 0] rfl rfl (by decide) (by decide) (by decide) (by decide) rfl 0 8 rfl rfl rfl rfl hl.1 rfl (Nat.le_of_ble_eq_true rfl) dX10_stand_191 ⟨Nat.zero_le _, Nat.zero_le _⟩ (fun H locs hP hD hS => ?_)
                show W p l e rmX10_stand s m args below meth c H locs 0 0 Q (F0 m 194 ls [.int r146])
                refine lv_pop hx hb dX10_stand_194 rfl ?_
                refine lv_iload hx hb dX10_stand_195 (lv_at hl 4 rfl) ?_
                refine lv_aload_n hx hb dX10_stand_197 rfl (lv_at hl 2 rfl) ?_
                refine va_get (D := (dC, dI)) (ci := 8) (v := .int x147) (C := RX10) (T := TX10) (N := 32) hx hb hts (in1 tw_X10) hown hK hP 0 rfl rfl 19 (by decide) (hts _ (List.mem_cons_of_mem _ kw_283)) (fun _ h9 => h9) rfl dX10_stand_198 ?_
                refine lv_ior hx hb dX10_stand_201 ?_
                obtain ⟨x149, e150, hf⟩ := nm_some hf
                refine lv_tope e150 ?_
                refine lv_istore (lv' := [(4, .int x149), (2, .int x144), (3, .int x113), (0, .ref h_t), (1, .int p1), (5, .int x83), (6, .int x113), (7, .int x114)]) hx hb dX10_stand_202 hl (by decide) rfl (fun ls hl => ?_)
                refine lv_iinc (v := (x83 + (1 : Int32))) (lv' := [(5, .int (x83 + (1 : Int32))), (4, .int x149), (2, .int x144), (3, .int x113), (0, .ref h_t), (1, .int p1), (6, .int x113), (7, .int x114)]) hx hb dX10_stand_204 hl (k := 5) rfl rfl (by decide) rfl (fun ls hl => ?_)
                refine lv_goto (tgt := 49) hx hb dX10_stand_207 (by decide) ?_
                exact ih84 _ _ _ _ _ _ _ hf hX86 _ _ hP hD hS _ (lv_sub hl [4, 5, 2, 3, 1, 0] rfl)
        obtain ⟨x77, x78, hg, hf⟩ := bd2_some hf
        refine L151 FU _ _ _ _ _ _ _ hg ?_ _ _ hP hD hS _ (lv_sub hl [4, 5, 3, 2, 1, 0] rfl)
        · intro H locs hP hD hS ls hl
          refine lv_iload_n hx hb dX10_stand_210 rfl (lv_at hl 0 rfl) ?_
          obtain ⟨rfl, rfl, rfl⟩ := inj3 hf
          subst hQ
          exact CM_iret hx hb hr rfl hlocks hAe hP hD hS dX10_stand_211
      · replace hf := ifp c7 hf
        refine lv_iload_n hx hb dX10_stand_39 rfl (lv_at hl 0 rfl) ?_
        obtain ⟨rfl, rfl, rfl⟩ := inj3 hf
        subst hQ
        exact CM_iret hx hb hr rfl hlocks hAe hP hD hS dX10_stand_40
    · replace hf := ifn c6 hf
      refine lv_bipush (v := (-5 : Int32)) hx hb dX10_stand_31 (by decide) ?_
      obtain ⟨rfl, rfl, rfl⟩ := inj3 hf
      subst hQ
      exact CM_iret hx hb hr rfl hlocks hAe hP hD hS dX10_stand_33
  · replace hf := ifn c1 hf
    refine lv_iload_n hx hb dX10_stand_5 rfl (lv_at hl 1 rfl) ?_
    refine lv_i2l hx hb dX10_stand_6 rfl ?_
    refine lv_lconst (v := (0 : Int64)) hx hb dX10_stand_7 (by decide) ?_
    refine lv_ldc2 (v := (39 : Int64)) hx hb hown (hts _ (List.mem_cons_of_mem _ kw_278)) dX10_stand_8 ?_
    obtain ⟨r152, hg153, hf⟩ := bd1_some hf
    refine CM_callS (As := [.long p1.toInt64, .long (0 : Int64), .long (39 : Int64)]) (rest := []) (wc := []) (w1 := []) (wr := [(h_t, .inr (8, fX10 h_t_book h_t_images h_t_kept h_t_aside h_t_far h_t_then h_t_row h_t_mays h_t_firstRow h_t_low h_t_high t_noOlder t_thanThis t_known t_knownAge t_moved h_t_lowOne h_t_highOne h_t_ways t_met h_t_left t_hours t_greatest h_t_text t_typed t_at t_start t_token t_value h_t_verbs h_t_nums t_items)), (h_t_book, .inl (cI, 460, .inl t_book)), (h_t_ways, .inl (cI, 26880, .inl t_ways))]) (wo := [(h_t, .inr (8, fX10 h_t_book h_t_images h_t_kept h_t_aside h_t_far h_t_then h_t_row h_t_mays h_t_firstRow h_t_low h_t_high t_noOlder t_thanThis t_known t_knownAge t_moved h_t_lowOne h_t_highOne h_t_ways t_met h_t_left t_hours t_greatest h_t_text t_typed t_at t_start t_token t_value h_t_verbs h_t_nums t_items)), (h_t_book, .inl (cI, 460, .inl t_book)), (h_t_ways, .inl (cI, 26880, .inl t_ways))]) (v := (some (.int r152))) ⟨hx, hb, hml, hown, hts⟩ (c_X10_in l dC dI cI cZ te (p1.toInt64) (0 : Int64) (39 : Int64) r152 hg153) (va_cwS 3 hts (gS kw_157 kw_158 kw_159 kw_160) rfl rfl rfl (by decide +kernel) ⟨Nat.le_of_ble_eq_true rfl, Nat.le_of_ble_eq_true rfl⟩) (kS_env te) hK hP hD hS hA hE [] [0, 1, 2] [0, 1, 2] rfl rfl (by decide) (by decide) (by decide) (by decide) rfl rfl hl.1 rfl (Nat.le_of_ble_eq_true rfl) dX10_stand_11 ⟨Nat.zero_le _, Nat.zero_le _⟩ (fun H locs hP hD hS => ?_)
    show W p l e rmX10_stand s m args below meth c H locs 0 0 Q (F0 m 14 ls [.int r152])
    refine lv_if_ne (tgt := 20) hx hb dX10_stand_14 (by decide) (fun c154 => ?_) (fun c154 => ?_)
    · replace hf := ifn c154 hf
      refine lv_aload_n hx hb dX10_stand_20 rfl (lv_at hl 0 rfl) ?_
      obtain ⟨r155, x156, y157, hg158, hf⟩ := bd3_some hf
      refine CM_callV (C := RX10) (As := []) (rest := []) (wc := [(h_t, .inr (8, fX10 h_t_book h_t_images h_t_kept h_t_aside h_t_far h_t_then h_t_row h_t_mays h_t_firstRow h_t_low h_t_high t_noOlder t_thanThis t_known t_knownAge t_moved h_t_lowOne h_t_highOne h_t_ways t_met h_t_left t_hours t_greatest h_t_text t_typed t_at t_start t_token t_value h_t_verbs h_t_nums t_items)), (h_t_book, .inl (cI, 460, .inl t_book)), (h_t_ways, .inl (cI, 26880, .inl t_ways))]) (w1 := [(h_t, .inr (8, fX10 h_t_book h_t_images h_t_kept h_t_aside h_t_far h_t_then h_t_row h_t_mays h_t_firstRow h_t_low h_t_high t_noOlder t_thanThis t_known t_knownAge t_moved h_t_lowOne h_t_highOne h_t_ways x156 h_t_left t_hours t_greatest h_t_text t_typed t_at t_start t_token t_value h_t_verbs h_t_nums t_items)), (h_t_book, .inl (cI, 460, .inl t_book)), (h_t_ways, .inl (cI, 26880, .inl y157))]) (wr := []) (wo := [(h_t, .inr (8, fX10 h_t_book h_t_images h_t_kept h_t_aside h_t_far h_t_then h_t_row h_t_mays h_t_firstRow h_t_low h_t_high t_noOlder t_thanThis t_known t_knownAge t_moved h_t_lowOne h_t_highOne h_t_ways x156 h_t_left t_hours t_greatest h_t_text t_typed t_at t_start t_token t_value h_t_verbs h_t_nums t_items)), (h_t_book, .inl (cI, 460, .inl t_book)), (h_t_ways, .inl (cI, 26880, .inl y157))]) (v := (some (.int r155))) ⟨hx, hb, hml, hown, hts⟩ (c_X10_travels l dC dI cI cZ te h_t h_t_book h_t_images h_t_kept h_t_aside h_t_far h_t_then h_t_row h_t_mays h_t_firstRow h_t_low h_t_high h_t_lowOne h_t_highOne h_t_ways h_t_left h_t_text h_t_verbs h_t_nums t_noOlder t_thanThis t_known t_knownAge t_moved t_met t_hours t_greatest t_typed t_at t_start t_token t_value t_items t_book t_ways r155 x156 y157 hg158) (cwV 0 hts (gV kw_296 kw_297 kw_298 kw_159 kw_299) rfl rfl rfl (by decide +kernel) ⟨Nat.le_of_ble_eq_true rfl, Nat.le_of_ble_eq_true rfl⟩) (kS_env te) hK hP hD hS hA hE [0, 1, 2] [] [0, 1, 2] rfl rfl (by decide) (by decide) (by decide) (by decide) rfl 0 8 rfl rfl rfl rfl hl.1 rfl (Nat.le_of_ble_eq_true rfl) dX10_stand_21 ⟨Nat.zero_le _, Nat.zero_le _⟩ (fun H locs hP hD hS => ?_)
      show W p l e rmX10_stand s m args below meth c H locs 0 0 Q (F0 m 24 ls [.int r155])
      refine lv_istore_n (lv' := [(2, .int r155), (0, .ref h_t), (1, .int p1)]) hx hb dX10_stand_24 rfl hl (by decide) rfl (fun ls hl => ?_)
      refine lv_iload_n hx hb dX10_stand_25 rfl (lv_at hl 0 rfl) ?_
      refine lv_ldc (v := (1000000 : Int32)) hx hb hown (hts _ (List.mem_cons_of_mem _ kw_192)) dX10_stand_26 ?_
      refine lv_icmp_lt (tgt := 34) hx hb dX10_stand_28 (by decide) (fun c159 => ?_) (fun c159 => ?_)
      · replace hf := ifp c159 hf
        refine lv_iload_n hx hb dX10_stand_34 rfl (lv_at hl 2 rfl) ?_
        refine lv_iconst (v := (-1 : Int32)) hx hb dX10_stand_35 (by decide) ?_
        refine lv_icmp_ne (tgt := 41) hx hb dX10_stand_36 (by decide) (fun c160 => ?_) (fun c160 => ?_)
        · replace hf := ifn c160 hf
          refine lv_iconst (v := (-1 : Int32)) hx hb dX10_stand_41 (by decide) ?_
          refine lv_istore_n (lv' := [(3, .int (-1 : Int32)), (2, .int r155), (0, .ref h_t), (1, .int p1)]) hx hb dX10_stand_42 rfl hl (by decide) rfl (fun ls hl => ?_)
          refine lv_iconst (v := (0 : Int32)) hx hb dX10_stand_43 (by decide) ?_
          refine lv_istore (lv' := [(4, .int (0 : Int32)), (3, .int (-1 : Int32)), (2, .int r155), (0, .ref h_t), (1, .int p1)]) hx hb dX10_stand_44 hl (by decide) rfl (fun ls hl => ?_)
          refine lv_iconst (v := (0 : Int32)) hx hb dX10_stand_46 (by decide) ?_
          refine lv_istore (lv' := [(5, .int (0 : Int32)), (4, .int (0 : Int32)), (3, .int (-1 : Int32)), (2, .int r155), (0, .ref h_t), (1, .int p1)]) hx hb dX10_stand_47 hl (by decide) rfl (fun ls hl => ?_)
          have L304 : ∀ (fu238 : Nat) (x232 : Int32) (x233 : Int32) (x234 : Int32) (x235 : Int32) (x236 : Int32) (x230 : Int32) (x231 : Int32), f_X10_stand_L7 p1 y157 t_book fu238 x232 x233 x234 x235 x236 = some (x230, x231) → (∀ (H : Heap) (locs : List Loc), va_P (dC, dI) vwCl [(h_t, .inr (8, fX10 h_t_book h_t_images h_t_kept h_t_aside h_t_far h_t_then h_t_row h_t_mays h_t_firstRow h_t_low h_t_high t_noOlder t_thanThis t_known t_knownAge t_moved h_t_lowOne h_t_highOne h_t_ways x230 h_t_left t_hours t_greatest h_t_text t_typed t_at t_start t_token t_value h_t_verbs h_t_nums t_items)), (h_t_book, .inl (cI, 460, .inl t_book)), (h_t_ways, .inl (cI, 26880, .inl y157))] H → va_D A [(h_t, .inr (8, fX10 h_t_book h_t_images h_t_kept h_t_aside h_t_far h_t_then h_t_row h_t_mays h_t_firstRow h_t_low h_t_high t_noOlder t_thanThis t_known t_knownAge t_moved h_t_lowOne h_t_highOne h_t_ways x230 h_t_left t_hours t_greatest h_t_text t_typed t_at t_start t_token t_value h_t_verbs h_t_nums t_items)), (h_t_book, .inl (cI, 460, .inl t_book)), (h_t_ways, .inl (cI, 26880, .inl y157))] → va_S A s.heap H locs → ∀ ls : Array Slot, lv_has ls 11 [(3, .int x231)] → W p l e rmX10_stand s m args below meth c H locs 0 0 Q (F0 m 210 ls [])) → ∀ (H : Heap) (locs : List Loc), va_P (dC, dI) vwCl [(h_t, .inr (8, fX10 h_t_book h_t_images h_t_kept h_t_aside h_t_far h_t_then h_t_row h_t_mays h_t_firstRow h_t_low h_t_high t_noOlder t_thanThis t_known t_knownAge t_moved h_t_lowOne h_t_highOne h_t_ways x232 h_t_left t_hours t_greatest h_t_text t_typed t_at t_start t_token t_value h_t_verbs h_t_nums t_items)), (h_t_book, .inl (cI, 460, .inl t_book)), (h_t_ways, .inl (cI, 26880, .inl y157))] H → va_D A [(h_t, .inr (8, fX10 h_t_book h_t_images h_t_kept h_t_aside h_t_far h_t_then h_t_row h_t_mays h_t_firstRow h_t_low h_t_high t_noOlder t_thanThis t_known t_knownAge t_moved h_t_lowOne h_t_highOne h_t_ways x232 h_t_left t_hours t_greatest h_t_text t_typed t_at t_start t_token t_value h_t_verbs h_t_nums t_items)), (h_t_book, .inl (cI, 460, .inl t_book)), (h_t_ways, .inl (cI, 26880, .inl y157))] → va_S A s.heap H locs → ∀ ls : Array Slot, lv_has ls 11 [(0, .ref h_t), (1, .int p1), (2, .int x233), (3, .int x234), (4, .int x235), (5, .int x236)] → W p l e rmX10_stand s m args below meth c H locs 0 0 Q (F0 m 49 ls []) := by
            intro fu238
            induction fu238 with
            | zero =>
              intro x232 x233 x234 x235 x236 x230 x231 hf
              unfold f_X10_stand_L7 at hf
              exact none_ne hf
            | succ fu238 ih237 =>
              intro x232 x233 x234 x235 x236 x230 x231 hf hX239 H locs hP hD hS ls hl
              unfold f_X10_stand_L7 at hf
              refine lv_iload hx hb dX10_stand_49 (lv_at hl 5 rfl) ?_
              refine lv_iload_n hx hb dX10_stand_51 rfl (lv_at hl 1 rfl) ?_
              refine lv_icmp_gt (tgt := 210) hx hb dX10_stand_52 (by decide) (fun c240 => ?_) (fun c240 => ?_)
              · replace hf := ifp c240 hf
                obtain ⟨rfl, rfl⟩ := inj2 hf
                exact hX239 _ _ hP hD hS _ (lv_sub hl [3] rfl)
              · replace hf := ifn c240 hf
                refine lv_bipush (v := (20 : Int32)) hx hb dX10_stand_55 (by decide) ?_
                refine lv_istore (lv' := [(6, .int (20 : Int32)), (0, .ref h_t), (1, .int p1), (2, .int x233), (3, .int x234), (4, .int x235), (5, .int x236)]) hx hb dX10_stand_57 hl (by decide) rfl (fun ls hl => ?_)
                refine lv_iconst (v := (0 : Int32)) hx hb dX10_stand_59 (by decide) ?_
                refine lv_istore (lv' := [(7, .int (0 : Int32)), (6, .int (20 : Int32)), (0, .ref h_t), (1, .int p1), (2, .int x233), (3, .int x234), (4, .int x235), (5, .int x236)]) hx hb dX10_stand_60 hl (by decide) rfl (fun ls hl => ?_)
                refine lv_bipush (v := (20 : Int32)) hx hb dX10_stand_62 (by decide) ?_
                refine lv_istore (lv' := [(8, .int (20 : Int32)), (7, .int (0 : Int32)), (6, .int (20 : Int32)), (0, .ref h_t), (1, .int p1), (2, .int x233), (3, .int x234), (4, .int x235), (5, .int x236)]) hx hb dX10_stand_64 hl (by decide) rfl (fun ls hl => ?_)
                have L296 : ∀ (fu272 : Nat) (x268 : Int32) (x269 : Int32) (x270 : Int32) (x266 : Int32) (x267 : Int32), f_X10_stand_L8 x234 x236 x235 y157 x233 t_book fu272 x268 x269 x270 = some (x266, x267) → (∀ (H : Heap) (locs : List Loc), va_P (dC, dI) vwCl [(h_t, .inr (8, fX10 h_t_book h_t_images h_t_kept h_t_aside h_t_far h_t_then h_t_row h_t_mays h_t_firstRow h_t_low h_t_high t_noOlder t_thanThis t_known t_knownAge t_moved h_t_lowOne h_t_highOne h_t_ways x232 h_t_left t_hours t_greatest h_t_text t_typed t_at t_start t_token t_value h_t_verbs h_t_nums t_items)), (h_t_book, .inl (cI, 460, .inl t_book)), (h_t_ways, .inl (cI, 26880, .inl y157))] H → va_D A [(h_t, .inr (8, fX10 h_t_book h_t_images h_t_kept h_t_aside h_t_far h_t_then h_t_row h_t_mays h_t_firstRow h_t_low h_t_high t_noOlder t_thanThis t_known t_knownAge t_moved h_t_lowOne h_t_highOne h_t_ways x232 h_t_left t_hours t_greatest h_t_text t_typed t_at t_start t_token t_value h_t_verbs h_t_nums t_items)), (h_t_book, .inl (cI, 460, .inl t_book)), (h_t_ways, .inl (cI, 26880, .inl y157))] → va_S A s.heap H locs → ∀ ls : Array Slot, lv_has ls 11 [(0, .ref h_t), (1, .int p1), (2, .int x233), (4, .int x235), (5, .int x236), (6, .int x266), (7, .int x267)] → W p l e rmX10_stand s m args below meth c H locs 0 0 Q (F0 m 179 ls [])) → ∀ (H : Heap) (locs : List Loc), va_P (dC, dI) vwCl [(h_t, .inr (8, fX10 h_t_book h_t_images h_t_kept h_t_aside h_t_far h_t_then h_t_row h_t_mays h_t_firstRow h_t_low h_t_high t_noOlder t_thanThis t_known t_knownAge t_moved h_t_lowOne h_t_highOne h_t_ways x232 h_t_left t_hours t_greatest h_t_text t_typed t_at t_start t_token t_value h_t_verbs h_t_nums t_items)), (h_t_book, .inl (cI, 460, .inl t_book)), (h_t_ways, .inl (cI, 26880, .inl y157))] H → va_D A [(h_t, .inr (8, fX10 h_t_book h_t_images h_t_kept h_t_aside h_t_far h_t_then h_t_row h_t_mays h_t_firstRow h_t_low h_t_high t_noOlder t_thanThis t_known t_knownAge t_moved h_t_lowOne h_t_highOne h_t_ways x232 h_t_left t_hours t_greatest h_t_text t_typed t_at t_start t_token t_value h_t_verbs h_t_nums t_items)), (h_t_book, .inl (cI, 460, .inl t_book)), (h_t_ways, .inl (cI, 26880, .inl y157))] → va_S A s.heap H locs → ∀ ls : Array Slot, lv_has ls 11 [(0, .ref h_t), (1, .int p1), (2, .int x233), (3, .int x234), (4, .int x235), (5, .int x236), (6, .int x268), (7, .int x269), (8, .int x270)] → W p l e rmX10_stand s m args below meth c H locs 0 0 Q (F0 m 66 ls []) := by
                  intro fu272
                  induction fu272 with
                  | zero =>
                    intro x268 x269 x270 x266 x267 hf
                    unfold f_X10_stand_L8 at hf
                    exact none_ne hf
                  | succ fu272 ih271 =>
                    intro x268 x269 x270 x266 x267 hf hX273 H locs hP hD hS ls hl
                    unfold f_X10_stand_L8 at hf
                    refine lv_iload hx hb dX10_stand_66 (lv_at hl 8 rfl) ?_
                    refine lv_if_lt (tgt := 179) hx hb dX10_stand_68 (by decide) (fun c274 => ?_) (fun c274 => ?_)
                    · replace hf := ifp c274 hf
                      obtain ⟨rfl, rfl⟩ := inj2 hf
                      exact hX273 _ _ hP hD hS _ (lv_sub hl [0, 1, 2, 4, 5, 6, 7] rfl)
                    · replace hf := ifn c274 hf
                      refine lv_iload_n hx hb dX10_stand_71 rfl (lv_at hl 3 rfl) ?_
                      refine lv_iconst (v := (-1 : Int32)) hx hb dX10_stand_72 (by decide) ?_
                      obtain ⟨x275, hg, hf⟩ := bd1_some hf
                      have J276 : ∀ (H : Heap) (locs : List Loc), va_P (dC, dI) vwCl [(h_t, .inr (8, fX10 h_t_book h_t_images h_t_kept h_t_aside h_t_far h_t_then h_t_row h_t_mays h_t_firstRow h_t_low h_t_high t_noOlder t_thanThis t_known t_knownAge t_moved h_t_lowOne h_t_highOne h_t_ways x232 h_t_left t_hours t_greatest h_t_text t_typed t_at t_start t_token t_value h_t_verbs h_t_nums t_items)), (h_t_book, .inl (cI, 460, .inl t_book)), (h_t_ways, .inl (cI, 26880, .inl y157))] H → va_D A [(h_t, .inr (8, fX10 h_t_book h_t_images h_t_kept h_t_aside h_t_far h_t_then h_t_row h_t_mays h_t_firstRow h_t_low h_t_high t_noOlder t_thanThis t_known t_knownAge t_moved h_t_lowOne h_t_highOne h_t_ways x232 h_t_left t_hours t_greatest h_t_text t_typed t_at t_start t_token t_value h_t_verbs h_t_nums t_items)), (h_t_book, .inl (cI, 460, .inl t_book)), (h_t_ways, .inl (cI, 26880, .inl y157))] → va_S A s.heap H locs → ∀ ls : Array Slot, lv_has ls 11 [(0, .ref h_t), (1, .int p1), (2, .int x233), (3, .int x234), (4, .int x235), (5, .int x236), (6, .int x268), (7, .int x269), (8, .int x270)] → W p l e rmX10_stand s m args below meth c H locs 0 0 Q (F0 m 97 ls [.int x275]) := by
                        intro H locs hP hD hS ls hl
                        refine lv_istore (lv' := [(9, .int x275), (0, .ref h_t), (1, .int p1), (2, .int x233), (3, .int x234), (4, .int x235), (5, .int x236), (6, .int x268), (7, .int x269), (8, .int x270)]) hx hb dX10_stand_97 hl (by decide) rfl (fun ls hl => ?_)
                        refine lv_iload_n hx hb dX10_stand_99 rfl (lv_at hl 4 rfl) ?_
                        refine lv_iconst (v := (-1 : Int32)) hx hb dX10_stand_100 (by decide) ?_
                        obtain ⟨x277, hg, hf⟩ := bd1_some hf
                        have J278 : ∀ (H : Heap) (locs : List Loc), va_P (dC, dI) vwCl [(h_t, .inr (8, fX10 h_t_book h_t_images h_t_kept h_t_aside h_t_far h_t_then h_t_row h_t_mays h_t_firstRow h_t_low h_t_high t_noOlder t_thanThis t_known t_knownAge t_moved h_t_lowOne h_t_highOne h_t_ways x232 h_t_left t_hours t_greatest h_t_text t_typed t_at t_start t_token t_value h_t_verbs h_t_nums t_items)), (h_t_book, .inl (cI, 460, .inl t_book)), (h_t_ways, .inl (cI, 26880, .inl y157))] H → va_D A [(h_t, .inr (8, fX10 h_t_book h_t_images h_t_kept h_t_aside h_t_far h_t_then h_t_row h_t_mays h_t_firstRow h_t_low h_t_high t_noOlder t_thanThis t_known t_knownAge t_moved h_t_lowOne h_t_highOne h_t_ways x232 h_t_left t_hours t_greatest h_t_text t_typed t_at t_start t_token t_value h_t_verbs h_t_nums t_items)), (h_t_book, .inl (cI, 460, .inl t_book)), (h_t_ways, .inl (cI, 26880, .inl y157))] → va_S A s.heap H locs → ∀ ls : Array Slot, lv_has ls 11 [(0, .ref h_t), (1, .int p1), (2, .int x233), (3, .int x234), (4, .int x235), (5, .int x236), (6, .int x268), (7, .int x269), (8, .int x270), (9, .int x275)] → W p l e rmX10_stand s m args below meth c H locs 0 0 Q (F0 m 143 ls [.int x277]) := by
                          intro H locs hP hD hS ls hl
                          refine lv_istore (lv' := [(10, .int x277), (0, .ref h_t), (1, .int p1), (2, .int x233), (3, .int x234), (4, .int x235), (5, .int x236), (6, .int x268), (7, .int x269), (8, .int x270), (9, .int x275)]) hx hb dX10_stand_143 hl (by decide) rfl (fun ls hl => ?_)
                          refine lv_iload hx hb dX10_stand_145 (lv_at hl 0 rfl) ?_
                          obtain ⟨x279, hg, hf⟩ := bd1_some hf
                          have J280 : ∀ (H : Heap) (locs : List Loc), va_P (dC, dI) vwCl [(h_t, .inr (8, fX10 h_t_book h_t_images h_t_kept h_t_aside h_t_far h_t_then h_t_row h_t_mays h_t_firstRow h_t_low h_t_high t_noOlder t_thanThis t_known t_knownAge t_moved h_t_lowOne h_t_highOne h_t_ways x232 h_t_left t_hours t_greatest h_t_text t_typed t_at t_start t_token t_value h_t_verbs h_t_nums t_items)), (h_t_book, .inl (cI, 460, .inl t_book)), (h_t_ways, .inl (cI, 26880, .inl y157))] H → va_D A [(h_t, .inr (8, fX10 h_t_book h_t_images h_t_kept h_t_aside h_t_far h_t_then h_t_row h_t_mays h_t_firstRow h_t_low h_t_high t_noOlder t_thanThis t_known t_knownAge t_moved h_t_lowOne h_t_highOne h_t_ways x232 h_t_left t_hours t_greatest h_t_text t_typed t_at t_start t_token t_value h_t_verbs h_t_nums t_items)), (h_t_book, .inl (cI, 460, .inl t_book)), (h_t_ways, .inl (cI, 26880, .inl y157))] → va_S A s.heap H locs → ∀ ls : Array Slot, lv_has ls 11 [(0, .ref h_t), (1, .int p1), (2, .int x233), (3, .int x234), (4, .int x235), (5, .int x236), (7, .int x269), (8, .int x270), (9, .int x275), (10, .int x277)] → W p l e rmX10_stand s m args below meth c H locs 0 0 Q (F0 m 157 ls [.int x279]) := by
                            intro H locs hP hD hS ls hl
                            refine lv_istore (lv' := [(6, .int x279), (0, .ref h_t), (1, .int p1), (2, .int x233), (3, .int x234), (4, .int x235), (5, .int x236), (7, .int x269), (8, .int x270), (9, .int x275), (10, .int x277)]) hx hb dX10_stand_157 hl (by decide) rfl (fun ls hl => ?_)
                            refine lv_iload hx hb dX10_stand_159 (lv_at hl 10 rfl) ?_
                            refine lv_if_eq (tgt := 169) hx hb dX10_stand_161 (by decide) (fun c281 => ?_) (fun c281 => ?_)
                            · replace hf := ifp c281 hf
                              refine lv_iload hx hb dX10_stand_169 (lv_at hl 7 rfl) ?_
                              refine lv_istore (lv' := [(7, .int x269), (6, .int x279), (0, .ref h_t), (1, .int p1), (2, .int x233), (3, .int x234), (4, .int x235), (5, .int x236), (8, .int x270), (9, .int x275), (10, .int x277)]) hx hb dX10_stand_171 hl (by decide) rfl (fun ls hl => ?_)
                              refine lv_iinc (v := (x270 + (-1 : Int32))) (lv' := [(8, .int (x270 + (-1 : Int32))), (7, .int x269), (6, .int x279), (0, .ref h_t), (1, .int p1), (2, .int x233), (3, .int x234), (4, .int x235), (5, .int x236), (9, .int x275), (10, .int x277)]) hx hb dX10_stand_173 hl (k := 8) rfl rfl (by decide) rfl (fun ls hl => ?_)
                              refine lv_goto (tgt := 66) hx hb dX10_stand_176 (by decide) ?_
                              exact ih271 _ _ _ _ _ hf hX273 _ _ hP hD hS _ (lv_sub hl [3, 4, 5, 6, 7, 8, 2, 1, 0] rfl)
                            · replace hf := ifn c281 hf
                              refine lv_iload hx hb dX10_stand_164 (lv_at hl 9 rfl) ?_
                              refine lv_goto (tgt := 171) hx hb dX10_stand_166 (by decide) ?_
                              refine lv_istore (lv' := [(7, .int x275), (6, .int x279), (0, .ref h_t), (1, .int p1), (2, .int x233), (3, .int x234), (4, .int x235), (5, .int x236), (8, .int x270), (9, .int x275), (10, .int x277)]) hx hb dX10_stand_171 hl (by decide) rfl (fun ls hl => ?_)
                              refine lv_iinc (v := (x270 + (-1 : Int32))) (lv' := [(8, .int (x270 + (-1 : Int32))), (7, .int x275), (6, .int x279), (0, .ref h_t), (1, .int p1), (2, .int x233), (3, .int x234), (4, .int x235), (5, .int x236), (9, .int x275), (10, .int x277)]) hx hb dX10_stand_173 hl (k := 8) rfl rfl (by decide) rfl (fun ls hl => ?_)
                              refine lv_goto (tgt := 66) hx hb dX10_stand_176 (by decide) ?_
                              exact ih271 _ _ _ _ _ hf hX273 _ _ hP hD hS _ (lv_sub hl [3, 4, 5, 6, 7, 8, 2, 1, 0] rfl)
                          clear hf
                          have hf := hg
                          refine lv_if_eq (tgt := 155) hx hb dX10_stand_147 (by decide) (fun c282 => ?_) (fun c282 => ?_)
                          · replace hf := ifp c282 hf
                            refine lv_iload hx hb dX10_stand_155 (lv_at hl 7 rfl) ?_
                            obtain rfl := inj1 hf
                            exact J280 _ _ hP hD hS _ (lv_sub hl [1, 2, 3, 4, 5, 6, 8, 9, 10, 0] rfl)
                          · replace hf := ifn c282 hf
                            refine lv_iload hx hb dX10_stand_150 (lv_at hl 9 rfl) ?_
                            refine lv_goto (tgt := 157) hx hb dX10_stand_152 (by decide) ?_
                            obtain rfl := inj1 hf
                            exact J280 _ _ hP hD hS _ (lv_sub hl [1, 2, 3, 4, 5, 6, 8, 9, 10, 0] rfl)
                        clear hf
                        have hf := hg
                        refine lv_icmp_eq (tgt := 116) hx hb dX10_stand_101 (by decide) (fun c283 => ?_) (fun c283 => ?_)
                        · replace hf := ifp c283 hf
                          refine lv_iload hx hb dX10_stand_116 (lv_at hl 0 rfl) ?_
                          refine lv_aload_n hx hb dX10_stand_118 rfl (lv_at hl 1 rfl) ?_
                          refine va_get (D := (dC, dI)) (ci := 8) (v := .ref h_t_ways) (C := RX10) (T := TX10) (N := 32) hx hb hts (in1 tw_X10) hown hK hP 0 rfl rfl 18 (by decide) (hts _ (List.mem_cons_of_mem _ kw_130)) (fun _ h9 => h9) rfl dX10_stand_119 ?_
                          refine lv_aload_n hx hb dX10_stand_122 rfl (lv_at hl 1 rfl) ?_
                          refine lv_iload hx hb dX10_stand_123 (lv_at hl 6 rfl) ?_
                          refine lv_iload hx hb dX10_stand_125 (lv_at hl 9 rfl) ?_
                          refine lv_iload hx hb dX10_stand_127 (lv_at hl 5 rfl) ?_
                          obtain ⟨r284, hg285, hf⟩ := bd1_some hf
                          refine CM_callV (C := RX10) (As := [.int x236, .int x270, .int x235]) (rest := [.ref h_t_ways, .int x275]) (wc := []) (w1 := []) (wr := [(h_t, .inr (8, fX10 h_t_book h_t_images h_t_kept h_t_aside h_t_far h_t_then h_t_row h_t_mays h_t_firstRow h_t_low h_t_high t_noOlder t_thanThis t_known t_knownAge t_moved h_t_lowOne h_t_highOne h_t_ways x232 h_t_left t_hours t_greatest h_t_text t_typed t_at t_start t_token t_value h_t_verbs h_t_nums t_items)), (h_t_book, .inl (cI, 460, .inl t_book)), (h_t_ways, .inl (cI, 26880, .inl y157))]) (wo := [(h_t, .inr (8, fX10 h_t_book h_t_images h_t_kept h_t_aside h_t_far h_t_then h_t_row h_t_mays h_t_firstRow h_t_low h_t_high t_noOlder t_thanThis t_known t_knownAge t_moved h_t_lowOne h_t_highOne h_t_ways x232 h_t_left t_hours t_greatest h_t_text t_typed t_at t_start t_token t_value h_t_verbs h_t_nums t_items)), (h_t_book, .inl (cI, 460, .inl t_book)), (h_t_ways, .inl (cI, 26880, .inl y157))]) (v := (some (.int r284))) ⟨hx, hb, hml, hown, hts⟩ (c_X10_wayAt l dC dI cI cZ te h_t x236 x270 x235 r284 hg285) (cwV 3 hts (gV kw_284 kw_285 kw_286 kw_159 kw_287) rfl rfl rfl (by decide +kernel) ⟨Nat.le_of_ble_eq_true rfl, Nat.le_of_ble_eq_true rfl⟩) (kS_env te) hK hP hD hS hA hE [] [0, 1, 2] [0, 1, 2] rfl rfl (by decide) (by decide) (by decide) (by decide) rfl 0 8 rfl rfl rfl rfl hl.1 rfl (Nat.le_of_ble_eq_true rfl) dX10_stand_129 ⟨Nat.zero_le _, Nat.zero_le _⟩ (fun H locs hP hD hS => ?_)
                          show W p l e rmX10_stand s m args below meth c H locs 0 0 Q (F0 m 132 ls [.int r284, .ref h_t_ways, .int x275])
                          obtain ⟨g286, hf⟩ := chk_some hf
                          refine va_iald hx hb hK hP 2 0 rfl rfl (gin_in g286) dX10_stand_132 ?_
                          refine lv_iadd hx hb dX10_stand_133 ?_
                          refine lv_iload_n hx hb dX10_stand_134 rfl (lv_at hl 3 rfl) ?_
                          refine lv_icmp_ne (tgt := 142) hx hb dX10_stand_135 (by decide) (fun c287 => ?_) (fun c287 => ?_)
                          · replace hf := ifn c287 hf
                            refine lv_iconst (v := (0 : Int32)) hx hb dX10_stand_142 (by decide) ?_
                            obtain rfl := inj1 hf
                            exact J278 _ _ hP hD hS _ (lv_sub hl [1, 2, 3, 4, 5, 6, 7, 8, 9, 0] rfl)
                          · replace hf := ifp c287 hf
                            refine lv_iconst (v := (1 : Int32)) hx hb dX10_stand_138 (by decide) ?_
                            refine lv_goto (tgt := 143) hx hb dX10_stand_139 (by decide) ?_
                            obtain rfl := inj1 hf
                            exact J278 _ _ hP hD hS _ (lv_sub hl [1, 2, 3, 4, 5, 6, 7, 8, 9, 0] rfl)
                        · replace hf := ifn c283 hf
                          refine lv_iload hx hb dX10_stand_104 (lv_at hl 0 rfl) ?_
                          refine lv_aload_n hx hb dX10_stand_106 rfl (lv_at hl 1 rfl) ?_
                          refine va_get (D := (dC, dI)) (ci := 8) (v := .ref h_t_book) (C := RX10) (T := TX10) (N := 32) hx hb hts (in1 tw_X10) hown hK hP 0 rfl rfl 0 (by decide) (hts _ (List.mem_cons_of_mem _ kw_116)) (fun _ h9 => h9) rfl dX10_stand_107 ?_
                          refine lv_bipush (v := (7 : Int32)) hx hb dX10_stand_110 (by decide) ?_
                          obtain ⟨g288, hf⟩ := chk_some hf
                          refine va_iald hx hb hK hP 1 0 rfl rfl (gin_in g288) dX10_stand_112 ?_
                          refine lv_icmp_gt (tgt := 142) hx hb dX10_stand_113 (by decide) (fun c289 => ?_) (fun c289 => ?_)
                          · replace hf := ifp c289 hf
                            refine lv_iconst (v := (0 : Int32)) hx hb dX10_stand_142 (by decide) ?_
                            obtain rfl := inj1 hf
                            exact J278 _ _ hP hD hS _ (lv_sub hl [1, 2, 3, 4, 5, 6, 7, 8, 9, 0] rfl)
                          · replace hf := ifn c289 hf
                            refine lv_iload hx hb dX10_stand_116 (lv_at hl 0 rfl) ?_
                            refine lv_aload_n hx hb dX10_stand_118 rfl (lv_at hl 1 rfl) ?_
                            refine va_get (D := (dC, dI)) (ci := 8) (v := .ref h_t_ways) (C := RX10) (T := TX10) (N := 32) hx hb hts (in1 tw_X10) hown hK hP 0 rfl rfl 18 (by decide) (hts _ (List.mem_cons_of_mem _ kw_130)) (fun _ h9 => h9) rfl dX10_stand_119 ?_
                            refine lv_aload_n hx hb dX10_stand_122 rfl (lv_at hl 1 rfl) ?_
                            refine lv_iload hx hb dX10_stand_123 (lv_at hl 6 rfl) ?_
                            refine lv_iload hx hb dX10_stand_125 (lv_at hl 9 rfl) ?_
                            refine lv_iload hx hb dX10_stand_127 (lv_at hl 5 rfl) ?_
                            obtain ⟨r290, hg291, hf⟩ := bd1_some hf
                            refine CM_callV (C := RX10) (As := [.int x236, .int x270, .int x235]) (rest := [.ref h_t_ways, .int x275]) (wc := []) (w1 := []) (wr := [(h_t, .inr (8, fX10 h_t_book h_t_images h_t_kept h_t_aside h_t_far h_t_then h_t_row h_t_mays h_t_firstRow h_t_low h_t_high t_noOlder t_thanThis t_known t_knownAge t_moved h_t_lowOne h_t_highOne h_t_ways x232 h_t_left t_hours t_greatest h_t_text t_typed t_at t_start t_token t_value h_t_verbs h_t_nums t_items)), (h_t_book, .inl (cI, 460, .inl t_book)), (h_t_ways, .inl (cI, 26880, .inl y157))]) (wo := [(h_t, .inr (8, fX10 h_t_book h_t_images h_t_kept h_t_aside h_t_far h_t_then h_t_row h_t_mays h_t_firstRow h_t_low h_t_high t_noOlder t_thanThis t_known t_knownAge t_moved h_t_lowOne h_t_highOne h_t_ways x232 h_t_left t_hours t_greatest h_t_text t_typed t_at t_start t_token t_value h_t_verbs h_t_nums t_items)), (h_t_book, .inl (cI, 460, .inl t_book)), (h_t_ways, .inl (cI, 26880, .inl y157))]) (v := (some (.int r290))) ⟨hx, hb, hml, hown, hts⟩ (c_X10_wayAt l dC dI cI cZ te h_t x236 x270 x235 r290 hg291) (cwV 3 hts (gV kw_284 kw_285 kw_286 kw_159 kw_287) rfl rfl rfl (by decide +kernel) ⟨Nat.le_of_ble_eq_true rfl, Nat.le_of_ble_eq_true rfl⟩) (kS_env te) hK hP hD hS hA hE [] [0, 1, 2] [0, 1, 2] rfl rfl (by decide) (by decide) (by decide) (by decide) rfl 0 8 rfl rfl rfl rfl hl.1 rfl (Nat.le_of_ble_eq_true rfl) dX10_stand_129 ⟨Nat.zero_le _, Nat.zero_le _⟩ (fun H locs hP hD hS => ?_)
                            show W p l e rmX10_stand s m args below meth c H locs 0 0 Q (F0 m 132 ls [.int r290, .ref h_t_ways, .int x275])
                            obtain ⟨g292, hf⟩ := chk_some hf
                            refine va_iald hx hb hK hP 2 0 rfl rfl (gin_in g292) dX10_stand_132 ?_
                            refine lv_iadd hx hb dX10_stand_133 ?_
                            refine lv_iload_n hx hb dX10_stand_134 rfl (lv_at hl 3 rfl) ?_
                            refine lv_icmp_ne (tgt := 142) hx hb dX10_stand_135 (by decide) (fun c293 => ?_) (fun c293 => ?_)
                            · replace hf := ifn c293 hf
                              refine lv_iconst (v := (0 : Int32)) hx hb dX10_stand_142 (by decide) ?_
                              obtain rfl := inj1 hf
                              exact J278 _ _ hP hD hS _ (lv_sub hl [1, 2, 3, 4, 5, 6, 7, 8, 9, 0] rfl)
                            · replace hf := ifp c293 hf
                              refine lv_iconst (v := (1 : Int32)) hx hb dX10_stand_138 (by decide) ?_
                              refine lv_goto (tgt := 143) hx hb dX10_stand_139 (by decide) ?_
                              obtain rfl := inj1 hf
                              exact J278 _ _ hP hD hS _ (lv_sub hl [1, 2, 3, 4, 5, 6, 7, 8, 9, 0] rfl)
                      clear hf
                      have hf := hg
                      refine lv_icmp_ne (tgt := 80) hx hb dX10_stand_73 (by decide) (fun c294 => ?_) (fun c294 => ?_)
                      · replace hf := ifn c294 hf
                        refine lv_iload hx hb dX10_stand_80 (lv_at hl 8 rfl) ?_
                        refine lv_iload_n hx hb dX10_stand_82 rfl (lv_at hl 3 rfl) ?_
                        refine lv_icmp_le (tgt := 93) hx hb dX10_stand_83 (by decide) (fun c295 => ?_) (fun c295 => ?_)
                        · replace hf := ifp c295 hf
                          refine lv_iload_n hx hb dX10_stand_93 rfl (lv_at hl 3 rfl) ?_
                          refine lv_iload hx hb dX10_stand_94 (lv_at hl 8 rfl) ?_
                          refine lv_isub hx hb dX10_stand_96 ?_
                          obtain rfl := inj1 hf
                          exact J276 _ _ hP hD hS _ (lv_sub hl [0, 1, 2, 3, 4, 5, 6, 7, 8] rfl)
                        · replace hf := ifn c295 hf
                          refine lv_iload hx hb dX10_stand_86 (lv_at hl 8 rfl) ?_
                          refine lv_iload_n hx hb dX10_stand_88 rfl (lv_at hl 3 rfl) ?_
                          refine lv_isub hx hb dX10_stand_89 ?_
                          refine lv_goto (tgt := 97) hx hb dX10_stand_90 (by decide) ?_
                          obtain rfl := inj1 hf
                          exact J276 _ _ hP hD hS _ (lv_sub hl [0, 1, 2, 3, 4, 5, 6, 7, 8] rfl)
                      · replace hf := ifp c294 hf
                        refine lv_iconst (v := (0 : Int32)) hx hb dX10_stand_76 (by decide) ?_
                        refine lv_goto (tgt := 97) hx hb dX10_stand_77 (by decide) ?_
                        obtain rfl := inj1 hf
                        exact J276 _ _ hP hD hS _ (lv_sub hl [0, 1, 2, 3, 4, 5, 6, 7, 8] rfl)
                obtain ⟨x266, x267, hg, hf⟩ := bd2_some hf
                refine L296 FU _ _ _ _ _ hg ?_ _ _ hP hD hS _ (lv_sub hl [3, 4, 5, 6, 7, 8, 2, 1, 0] rfl)
                · intro H locs hP hD hS ls hl
                  refine lv_iload hx hb dX10_stand_179 (lv_at hl 5 rfl) ?_
                  refine lv_istore_n (lv' := [(3, .int x266), (0, .ref h_t), (1, .int p1), (2, .int x233), (4, .int x235), (5, .int x236), (6, .int x266), (7, .int x267)]) hx hb dX10_stand_181 rfl hl (by decide) rfl (fun ls hl => ?_)
                  refine lv_iload_n hx hb dX10_stand_182 rfl (lv_at hl 3 rfl) ?_
                  refine lv_iload hx hb dX10_stand_183 (lv_at hl 7 rfl) ?_
                  refine lv_isub hx hb dX10_stand_185 ?_
                  obtain ⟨x297, e298, hf⟩ := nm_some hf
                  refine lv_tope e298 ?_
                  refine lv_istore_n (lv' := [(2, .int x297), (3, .int x266), (0, .ref h_t), (1, .int p1), (4, .int x235), (5, .int x236), (6, .int x266), (7, .int x267)]) hx hb dX10_stand_186 rfl hl (by decide) rfl (fun ls hl => ?_)
                  refine lv_aload_n hx hb dX10_stand_187 rfl (lv_at hl 2 rfl) ?_
                  refine lv_iload hx hb dX10_stand_188 (lv_at hl 5 rfl) ?_
                  refine lv_iload_n hx hb dX10_stand_190 rfl (lv_at hl 1 rfl) ?_
                  obtain ⟨r299, x300, hg301, hf⟩ := bd2_some hf
                  refine CM_callV (C := RX10) (As := [.int x236, .int x266]) (rest := []) (wc := [(h_t, .inr (8, fX10 h_t_book h_t_images h_t_kept h_t_aside h_t_far h_t_then h_t_row h_t_mays h_t_firstRow h_t_low h_t_high t_noOlder t_thanThis t_known t_knownAge t_moved h_t_lowOne h_t_highOne h_t_ways x232 h_t_left t_hours t_greatest h_t_text t_typed t_at t_start t_token t_value h_t_verbs h_t_nums t_items)), (h_t_book, .inl (cI, 460, .inl t_book))]) (w1 := [(h_t, .inr (8, fX10 h_t_book h_t_images h_t_kept h_t_aside h_t_far h_t_then h_t_row h_t_mays h_t_firstRow h_t_low h_t_high t_noOlder t_thanThis t_known t_knownAge t_moved h_t_lowOne h_t_highOne h_t_ways x300 h_t_left t_hours t_greatest h_t_text t_typed t_at t_start t_token t_value h_t_verbs h_t_nums t_items)), (h_t_book, .inl (cI, 460, .inl t_book))]) (wr := [(h_t_ways, .inl (cI, 26880, .inl y157))]) (wo := [(h_t, .inr (8, fX10 h_t_book h_t_images h_t_kept h_t_aside h_t_far h_t_then h_t_row h_t_mays h_t_firstRow h_t_low h_t_high t_noOlder t_thanThis t_known t_knownAge t_moved h_t_lowOne h_t_highOne h_t_ways x300 h_t_left t_hours t_greatest h_t_text t_typed t_at t_start t_token t_value h_t_verbs h_t_nums t_items)), (h_t_book, .inl (cI, 460, .inl t_book)), (h_t_ways, .inl (cI, 26880, .inl y157))]) (v := (some (.int r299))) ⟨hx, hb, hml, hown, hts⟩ (c_X10_bearsYear l dC dI cI cZ te h_t h_t_book h_t_images h_t_kept h_t_aside h_t_far h_t_then h_t_row h_t_mays h_t_firstRow h_t_low h_t_high h_t_lowOne h_t_highOne h_t_ways h_t_left h_t_text h_t_verbs h_t_nums t_noOlder t_thanThis t_known t_knownAge t_moved x232 t_hours t_greatest t_typed t_at t_start t_token t_value t_items t_book x236 x266 r299 x300 hg301) (cwV 2 hts (gV kw_288 kw_289 kw_290 kw_159 kw_291) rfl rfl rfl (by decide +kernel) ⟨Nat.le_of_ble_eq_true rfl, Nat.le_of_ble_eq_true rfl⟩) (kS_env te) hK hP hD hS hA hE [0, 1] [2] [1, 2, 0] rfl rfl (by decide) (by decide) (by decide) (by decide) rfl 0 8 rfl rfl rfl rfl hl.1 rfl (Nat.le_of_ble_eq_true rfl) dX10_stand_191 ⟨Nat.zero_le _, Nat.zero_le _⟩ (fun H locs hP hD hS => ?_)
                  show W p l e rmX10_stand s m args below meth c H locs 0 0 Q (F0 m 194 ls [.int r299])
                  refine lv_pop hx hb dX10_stand_194 rfl ?_
                  refine lv_iload hx hb dX10_stand_195 (lv_at hl 4 rfl) ?_
                  refine lv_aload_n hx hb dX10_stand_197 rfl (lv_at hl 2 rfl) ?_
                  refine va_get (D := (dC, dI)) (ci := 8) (v := .int x300) (C := RX10) (T := TX10) (N := 32) hx hb hts (in1 tw_X10) hown hK hP 0 rfl rfl 19 (by decide) (hts _ (List.mem_cons_of_mem _ kw_283)) (fun _ h9 => h9) rfl dX10_stand_198 ?_
                  refine lv_ior hx hb dX10_stand_201 ?_
                  obtain ⟨x302, e303, hf⟩ := nm_some hf
                  refine lv_tope e303 ?_
                  refine lv_istore (lv' := [(4, .int x302), (2, .int x297), (3, .int x266), (0, .ref h_t), (1, .int p1), (5, .int x236), (6, .int x266), (7, .int x267)]) hx hb dX10_stand_202 hl (by decide) rfl (fun ls hl => ?_)
                  refine lv_iinc (v := (x236 + (1 : Int32))) (lv' := [(5, .int (x236 + (1 : Int32))), (4, .int x302), (2, .int x297), (3, .int x266), (0, .ref h_t), (1, .int p1), (6, .int x266), (7, .int x267)]) hx hb dX10_stand_204 hl (k := 5) rfl rfl (by decide) rfl (fun ls hl => ?_)
                  refine lv_goto (tgt := 49) hx hb dX10_stand_207 (by decide) ?_
                  exact ih237 _ _ _ _ _ _ _ hf hX239 _ _ hP hD hS _ (lv_sub hl [4, 5, 2, 3, 1, 0] rfl)
          obtain ⟨x230, x231, hg, hf⟩ := bd2_some hf
          refine L304 FU _ _ _ _ _ _ _ hg ?_ _ _ hP hD hS _ (lv_sub hl [4, 5, 3, 2, 1, 0] rfl)
          · intro H locs hP hD hS ls hl
            refine lv_iload_n hx hb dX10_stand_210 rfl (lv_at hl 0 rfl) ?_
            obtain ⟨rfl, rfl, rfl⟩ := inj3 hf
            subst hQ
            exact CM_iret hx hb hr rfl hlocks hAe hP hD hS dX10_stand_211
        · replace hf := ifp c160 hf
          refine lv_iload_n hx hb dX10_stand_39 rfl (lv_at hl 0 rfl) ?_
          obtain ⟨rfl, rfl, rfl⟩ := inj3 hf
          subst hQ
          exact CM_iret hx hb hr rfl hlocks hAe hP hD hS dX10_stand_40
      · replace hf := ifn c159 hf
        refine lv_bipush (v := (-5 : Int32)) hx hb dX10_stand_31 (by decide) ?_
        obtain ⟨rfl, rfl, rfl⟩ := inj3 hf
        subst hQ
        exact CM_iret hx hb hr rfl hlocks hAe hP hD hS dX10_stand_33
    · replace hf := ifp c154 hf
      refine lv_bipush (v := (-10 : Int32)) hx hb dX10_stand_17 (by decide) ?_
      obtain ⟨rfl, rfl, rfl⟩ := inj3 hf
      subst hQ
      exact CM_iret hx hb hr rfl hlocks hAe hP hD hS dX10_stand_19
