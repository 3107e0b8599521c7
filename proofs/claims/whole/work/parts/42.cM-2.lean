def rmX10_mayOf : Room := { frames := 3, cells := 0, slots := 0, locals := 74 }
abbrev wqX10_mayOf : List Cond := Cond.code yX10_mayOf cX10_mayOf 6 (some .int) :: tG
set_option maxHeartbeats 4000000 in
set_option maxRecDepth 100000 in
theorem c_X10_mayOf (l : Launch) (dC : Nat → ClassId) (dI : Nat → Nat → Nat) (cI cZ : ClassId) (te : Nat → Nat) (h_t : Nat) (h_t_book : Nat) (h_t_images : Nat) (h_t_kept : Nat) (h_t_aside : Nat) (h_t_far : Nat) (h_t_then : Nat) (h_t_row : Nat) (h_t_mays : Nat) (h_t_firstRow : Nat) (h_t_low : Nat) (h_t_high : Nat) (h_t_lowOne : Nat) (h_t_highOne : Nat) (h_t_ways : Nat) (h_t_left : Nat) (h_t_text : Nat) (h_t_verbs : Nat) (h_t_nums : Nat) (t_noOlder : Int32) (t_thanThis : Int32) (t_known : Int32) (t_knownAge : Int32) (t_moved : Int32) (t_met : Int32) (t_hours : Int32) (t_greatest : Int32) (t_typed : Int32) (t_at : Int32) (t_start : Int32) (t_token : Int32) (t_value : Int32) (t_items : Int32) (t_book : Nat → Int32) (p1 : Int32) (o0 : Int32) (hf : f_X10_mayOf t_book p1 = some o0) : CM l yX10_mayOf wqX10_mayOf rmX10_mayOf (kS te) dC dI cI cZ [.ref h_t, .int p1] [(h_t, .inr (8, fX10 h_t_book h_t_images h_t_kept h_t_aside h_t_far h_t_then h_t_row h_t_mays h_t_firstRow h_t_low h_t_high t_noOlder t_thanThis t_known t_knownAge t_moved h_t_lowOne h_t_highOne h_t_ways t_met h_t_left t_hours t_greatest h_t_text t_typed t_at t_start t_token t_value h_t_verbs h_t_nums t_items)), (h_t_book, .inl (cI, 460, .inl t_book))] [(h_t, .inr (8, fX10 h_t_book h_t_images h_t_kept h_t_aside h_t_far h_t_then h_t_row h_t_mays h_t_firstRow h_t_low h_t_high t_noOlder t_thanThis t_known t_knownAge t_moved h_t_lowOne h_t_highOne h_t_ways t_met h_t_left t_hours t_greatest h_t_text t_typed t_at t_start t_token t_value h_t_verbs h_t_nums t_items)), (h_t_book, .inl (cI, 460, .inl t_book))] (some (.int o0)) := by
  refine CM_of (cc := cX10_mayOf) (maxL := 6) (ret := (some .int)) (by decide +kernel) rfl (Nat.le_of_ble_eq_true rfl) ?_
  intro p e s m args below meth c A Q hx hb hr hml hown hts hlocks hA hK hP hD hS hE hQ hAe ls hl
  have hown : s.vm.findClass RX10 = some m.cls := hown
  have hl : lv_has ls 6 [(0, .ref h_t), (1, .int p1)] := hl
  unfold f_X10_mayOf at hf
  refine lv_iconst (v := (0 : Int32)) hx hb dX10_mayOf_0 (by decide) ?_
  refine lv_istore_n (lv' := [(2, .int (0 : Int32)), (0, .ref h_t), (1, .int p1)]) hx hb dX10_mayOf_1 rfl hl (by decide) rfl (fun ls hl => ?_)
  refine lv_iconst (v := (0 : Int32)) hx hb dX10_mayOf_2 (by decide) ?_
  refine lv_istore_n (lv' := [(3, .int (0 : Int32)), (2, .int (0 : Int32)), (0, .ref h_t), (1, .int p1)]) hx hb dX10_mayOf_3 rfl hl (by decide) rfl (fun ls hl => ?_)
  have L51 : ∀ (fu28 : Nat) (x25 : Int32) (x26 : Int32) (x24 : Int32), f_X10_mayOf_L1 p1 t_book fu28 x25 x26 = some x24 → (∀ (H : Heap) (locs : List Loc), va_P (dC, dI) vwCl [(h_t, .inr (8, fX10 h_t_book h_t_images h_t_kept h_t_aside h_t_far h_t_then h_t_row h_t_mays h_t_firstRow h_t_low h_t_high t_noOlder t_thanThis t_known t_knownAge t_moved h_t_lowOne h_t_highOne h_t_ways t_met h_t_left t_hours t_greatest h_t_text t_typed t_at t_start t_token t_value h_t_verbs h_t_nums t_items)), (h_t_book, .inl (cI, 460, .inl t_book))] H → va_D A [(h_t, .inr (8, fX10 h_t_book h_t_images h_t_kept h_t_aside h_t_far h_t_then h_t_row h_t_mays h_t_firstRow h_t_low h_t_high t_noOlder t_thanThis t_known t_knownAge t_moved h_t_lowOne h_t_highOne h_t_ways t_met h_t_left t_hours t_greatest h_t_text t_typed t_at t_start t_token t_value h_t_verbs h_t_nums t_items)), (h_t_book, .inl (cI, 460, .inl t_book))] → va_S A s.heap H locs → ∀ ls : Array Slot, lv_has ls 6 [(2, .int x24)] → W p l e rmX10_mayOf s m args below meth c H locs 0 0 Q (F0 m 130 ls [])) → ∀ (H : Heap) (locs : List Loc), va_P (dC, dI) vwCl [(h_t, .inr (8, fX10 h_t_book h_t_images h_t_kept h_t_aside h_t_far h_t_then h_t_row h_t_mays h_t_firstRow h_t_low h_t_high t_noOlder t_thanThis t_known t_knownAge t_moved h_t_lowOne h_t_highOne h_t_ways t_met h_t_left t_hours t_greatest h_t_text t_typed t_at t_start t_token t_value h_t_verbs h_t_nums t_items)), (h_t_book, .inl (cI, 460, .inl t_book))] H → va_D A [(h_t, .inr (8, fX10 h_t_book h_t_images h_t_kept h_t_aside h_t_far h_t_then h_t_row h_t_mays h_t_firstRow h_t_low h_t_high t_noOlder t_thanThis t_known t_knownAge t_moved h_t_lowOne h_t_highOne h_t_ways t_met h_t_left t_hours t_greatest h_t_text t_typed t_at t_start t_token t_value h_t_verbs h_t_nums t_items)), (h_t_book, .inl (cI, 460, .inl t_book))] → va_S A s.heap H locs → ∀ ls : Array Slot, lv_has ls 6 [(0, .ref h_t), (1, .int p1), (2, .int x25), (3, .int x26)] → W p l e rmX10_mayOf s m args below meth c H locs 0 0 Q (F0 m 4 ls []) := by
    intro fu28
    induction fu28 with
    | zero =>
      intro x25 x26 x24 hf
      unfold f_X10_mayOf_L1 at hf
      exact none_ne hf
    | succ fu28 ih27 =>
      intro x25 x26 x24 hf hX29 H locs hP hD hS ls hl
      unfold f_X10_mayOf_L1 at hf
      refine lv_iload_n hx hb dX10_mayOf_4 rfl (lv_at hl 3 rfl) ?_
      refine lv_iconst (v := (3 : Int32)) hx hb dX10_mayOf_5 (by decide) ?_
      refine lv_icmp_ge (tgt := 130) hx hb dX10_mayOf_6 (by decide) (fun c30 => ?_) (fun c30 => ?_)
      · replace hf := ifp c30 hf
        obtain rfl := inj1 hf
        exact hX29 _ _ hP hD hS _ (lv_sub hl [2] rfl)
      · replace hf := ifn c30 hf
        refine lv_aload_n hx hb dX10_mayOf_9 rfl (lv_at hl 0 rfl) ?_
        refine lv_iload_n hx hb dX10_mayOf_10 rfl (lv_at hl 3 rfl) ?_
        refine lv_aload_n hx hb dX10_mayOf_11 rfl (lv_at hl 0 rfl) ?_
        refine va_get (D := (dC, dI)) (ci := 8) (v := .ref h_t_book) (C := RX10) (T := TX10) (N := 32) hx hb hts (in1 tw_X10) hown hK hP 0 rfl rfl 0 (by decide) (hts _ (List.mem_cons_of_mem _ kw_116)) (fun _ h9 => h9) rfl dX10_mayOf_12 ?_
        refine lv_sipush (v := (260 : Int32)) hx hb dX10_mayOf_15 (by decide) ?_
        refine lv_iconst (v := (2 : Int32)) hx hb dX10_mayOf_18 (by decide) ?_
        refine lv_iload_n hx hb dX10_mayOf_19 rfl (lv_at hl 1 rfl) ?_
        refine lv_imul hx hb dX10_mayOf_20 ?_
        refine lv_iadd hx hb dX10_mayOf_21 ?_
        obtain ⟨g31, hf⟩ := chk_some hf
        refine va_iald hx hb hK hP 1 0 rfl rfl (gin_in g31) dX10_mayOf_22 ?_
        obtain ⟨r32, hg33, hf⟩ := bd1_some hf
        refine CM_callV (C := RX10) (As := [.int x26, .int (t_book ((260 : Int32) + ((2 : Int32) * p1)).toNatClampNeg)]) (rest := []) (wc := [(h_t, .inr (8, fX10 h_t_book h_t_images h_t_kept h_t_aside h_t_far h_t_then h_t_row h_t_mays h_t_firstRow h_t_low h_t_high t_noOlder t_thanThis t_known t_knownAge t_moved h_t_lowOne h_t_highOne h_t_ways t_met h_t_left t_hours t_greatest h_t_text t_typed t_at t_start t_token t_value h_t_verbs h_t_nums t_items)), (h_t_book, .inl (cI, 460, .inl t_book))]) (w1 := [(h_t, .inr (8, fX10 h_t_book h_t_images h_t_kept h_t_aside h_t_far h_t_then h_t_row h_t_mays h_t_firstRow h_t_low h_t_high t_noOlder t_thanThis t_known t_knownAge t_moved h_t_lowOne h_t_highOne h_t_ways t_met h_t_left t_hours t_greatest h_t_text t_typed t_at t_start t_token t_value h_t_verbs h_t_nums t_items)), (h_t_book, .inl (cI, 460, .inl t_book))]) (wr := []) (wo := [(h_t, .inr (8, fX10 h_t_book h_t_images h_t_kept h_t_aside h_t_far h_t_then h_t_row h_t_mays h_t_firstRow h_t_low h_t_high t_noOlder t_thanThis t_known t_knownAge t_moved h_t_lowOne h_t_highOne h_t_ways t_met h_t_left t_hours t_greatest h_t_text t_typed t_at t_start t_token t_value h_t_verbs h_t_nums t_items)), (h_t_book, .inl (cI, 460, .inl t_book))]) (v := (some (.int r32))) ⟨hx, hb, hml, hown, hts⟩ (c_X10_flowOf l dC dI cI cZ te h_t h_t_book h_t_images h_t_kept h_t_aside h_t_far h_t_then h_t_row h_t_mays h_t_firstRow h_t_low h_t_high h_t_lowOne h_t_highOne h_t_ways h_t_left h_t_text h_t_verbs h_t_nums t_noOlder t_thanThis t_known t_knownAge t_moved t_met t_hours t_greatest t_typed t_at t_start t_token t_value t_items t_book x26 (t_book ((260 : Int32) + ((2 : Int32) * p1)).toNatClampNeg) r32 hg33) (cwV 2 hts (gV kw_183 kw_184 kw_185 kw_159 kw_186) rfl rfl rfl (by decide +kernel) ⟨Nat.le_of_ble_eq_true rfl, Nat.le_of_ble_eq_true rfl⟩) (kS_env te) hK hP hD hS hA hE [0, 1] [] [0, 1] rfl rfl (by decide) (by decide) (by decide) (by decide) rfl 0 8 rfl rfl rfl rfl hl.1 rfl (Nat.le_of_ble_eq_true rfl) dX10_mayOf_23 ⟨Nat.zero_le _, Nat.zero_le _⟩ (fun H locs hP hD hS => ?_)
        show W p l e rmX10_mayOf s m args below meth c H locs 0 0 Q (F0 m 26 ls [.int r32])
        refine lv_istore (lv' := [(4, .int r32), (0, .ref h_t), (1, .int p1), (2, .int x25), (3, .int x26)]) hx hb dX10_mayOf_26 hl (by decide) rfl (fun ls hl => ?_)
        refine lv_iload hx hb dX10_mayOf_28 (lv_at hl 0 rfl) ?_
        refine lv_iconst (v := (-1 : Int32)) hx hb dX10_mayOf_30 (by decide) ?_
        obtain ⟨x34, hg, hf⟩ := bd1_some hf
        have J35 : ∀ (H : Heap) (locs : List Loc), va_P (dC, dI) vwCl [(h_t, .inr (8, fX10 h_t_book h_t_images h_t_kept h_t_aside h_t_far h_t_then h_t_row h_t_mays h_t_firstRow h_t_low h_t_high t_noOlder t_thanThis t_known t_knownAge t_moved h_t_lowOne h_t_highOne h_t_ways t_met h_t_left t_hours t_greatest h_t_text t_typed t_at t_start t_token t_value h_t_verbs h_t_nums t_items)), (h_t_book, .inl (cI, 460, .inl t_book))] H → va_D A [(h_t, .inr (8, fX10 h_t_book h_t_images h_t_kept h_t_aside h_t_far h_t_then h_t_row h_t_mays h_t_firstRow h_t_low h_t_high t_noOlder t_thanThis t_known t_knownAge t_moved h_t_lowOne h_t_highOne h_t_ways t_met h_t_left t_hours t_greatest h_t_text t_typed t_at t_start t_token t_value h_t_verbs h_t_nums t_items)), (h_t_book, .inl (cI, 460, .inl t_book))] → va_S A s.heap H locs → ∀ ls : Array Slot, lv_has ls 6 [(0, .ref h_t), (1, .int p1), (2, .int x25), (3, .int x26), (4, .int r32)] → W p l e rmX10_mayOf s m args below meth c H locs 0 0 Q (F0 m 58 ls [.int x34]) := by
          intro H locs hP hD hS ls hl
          refine lv_istore (lv' := [(5, .int x34), (0, .ref h_t), (1, .int p1), (2, .int x25), (3, .int x26), (4, .int r32)]) hx hb dX10_mayOf_58 hl (by decide) rfl (fun ls hl => ?_)
          refine lv_iload hx hb dX10_mayOf_60 (lv_at hl 0 rfl) ?_
          obtain ⟨x36, hg, hf⟩ := bd1_some hf
          have J37 : ∀ (H : Heap) (locs : List Loc), va_P (dC, dI) vwCl [(h_t, .inr (8, fX10 h_t_book h_t_images h_t_kept h_t_aside h_t_far h_t_then h_t_row h_t_mays h_t_firstRow h_t_low h_t_high t_noOlder t_thanThis t_known t_knownAge t_moved h_t_lowOne h_t_highOne h_t_ways t_met h_t_left t_hours t_greatest h_t_text t_typed t_at t_start t_token t_value h_t_verbs h_t_nums t_items)), (h_t_book, .inl (cI, 460, .inl t_book))] H → va_D A [(h_t, .inr (8, fX10 h_t_book h_t_images h_t_kept h_t_aside h_t_far h_t_then h_t_row h_t_mays h_t_firstRow h_t_low h_t_high t_noOlder t_thanThis t_known t_knownAge t_moved h_t_lowOne h_t_highOne h_t_ways t_met h_t_left t_hours t_greatest h_t_text t_typed t_at t_start t_token t_value h_t_verbs h_t_nums t_items)), (h_t_book, .inl (cI, 460, .inl t_book))] → va_S A s.heap H locs → ∀ ls : Array Slot, lv_has ls 6 [(0, .ref h_t), (1, .int p1), (2, .int x25), (3, .int x26), (4, .int r32)] → W p l e rmX10_mayOf s m args below meth c H locs 0 0 Q (F0 m 75 ls [.int x36]) := by
            intro H locs hP hD hS ls hl
            refine lv_istore (lv' := [(5, .int x36), (0, .ref h_t), (1, .int p1), (2, .int x25), (3, .int x26), (4, .int r32)]) hx hb dX10_mayOf_75 hl (by decide) rfl (fun ls hl => ?_)
            refine lv_iload hx hb dX10_mayOf_77 (lv_at hl 5 rfl) ?_
            refine lv_iconst (v := (-1 : Int32)) hx hb dX10_mayOf_79 (by decide) ?_
            obtain ⟨x38, hg, hf⟩ := bd1_some hf
            have J39 : ∀ (H : Heap) (locs : List Loc), va_P (dC, dI) vwCl [(h_t, .inr (8, fX10 h_t_book h_t_images h_t_kept h_t_aside h_t_far h_t_then h_t_row h_t_mays h_t_firstRow h_t_low h_t_high t_noOlder t_thanThis t_known t_knownAge t_moved h_t_lowOne h_t_highOne h_t_ways t_met h_t_left t_hours t_greatest h_t_text t_typed t_at t_start t_token t_value h_t_verbs h_t_nums t_items)), (h_t_book, .inl (cI, 460, .inl t_book))] H → va_D A [(h_t, .inr (8, fX10 h_t_book h_t_images h_t_kept h_t_aside h_t_far h_t_then h_t_row h_t_mays h_t_firstRow h_t_low h_t_high t_noOlder t_thanThis t_known t_knownAge t_moved h_t_lowOne h_t_highOne h_t_ways t_met h_t_left t_hours t_greatest h_t_text t_typed t_at t_start t_token t_value h_t_verbs h_t_nums t_items)), (h_t_book, .inl (cI, 460, .inl t_book))] → va_S A s.heap H locs → ∀ ls : Array Slot, lv_has ls 6 [(0, .ref h_t), (1, .int p1), (2, .int x25), (3, .int x26)] → W p l e rmX10_mayOf s m args below meth c H locs 0 0 Q (F0 m 100 ls [.int x38]) := by
              intro H locs hP hD hS ls hl
              refine lv_istore (lv' := [(5, .int x38), (0, .ref h_t), (1, .int p1), (2, .int x25), (3, .int x26)]) hx hb dX10_mayOf_100 hl (by decide) rfl (fun ls hl => ?_)
              refine lv_iload_n hx hb dX10_mayOf_102 rfl (lv_at hl 3 rfl) ?_
              refine lv_iload hx hb dX10_mayOf_103 (lv_at hl 0 rfl) ?_
              refine lv_aload_n hx hb dX10_mayOf_105 rfl (lv_at hl 1 rfl) ?_
              refine va_get (D := (dC, dI)) (ci := 8) (v := .ref h_t_book) (C := RX10) (T := TX10) (N := 32) hx hb hts (in1 tw_X10) hown hK hP 0 rfl rfl 0 (by decide) (hts _ (List.mem_cons_of_mem _ kw_116)) (fun _ h9 => h9) rfl dX10_mayOf_106 ?_
              refine lv_bipush (v := (6 : Int32)) hx hb dX10_mayOf_109 (by decide) ?_
              obtain ⟨g40, hf⟩ := chk_some hf
              refine va_iald hx hb hK hP 1 0 rfl rfl (gin_in g40) dX10_mayOf_111 ?_
              refine lv_icmp_gt (tgt := 121) hx hb dX10_mayOf_112 (by decide) (fun c41 => ?_) (fun c41 => ?_)
              · replace hf := ifp c41 hf
                refine lv_iconst (v := (0 : Int32)) hx hb dX10_mayOf_121 (by decide) ?_
                refine lv_ior hx hb dX10_mayOf_122 ?_
                obtain ⟨x42, e43, hf⟩ := nm_some hf
                refine lv_tope e43 ?_
                refine lv_istore_n (lv' := [(2, .int x42), (5, .int x38), (0, .ref h_t), (1, .int p1), (3, .int x26)]) hx hb dX10_mayOf_123 rfl hl (by decide) rfl (fun ls hl => ?_)
                refine lv_iinc (v := (x26 + (1 : Int32))) (lv' := [(3, .int (x26 + (1 : Int32))), (2, .int x42), (5, .int x38), (0, .ref h_t), (1, .int p1)]) hx hb dX10_mayOf_124 hl (k := 4) rfl rfl (by decide) rfl (fun ls hl => ?_)
                refine lv_goto (tgt := 4) hx hb dX10_mayOf_127 (by decide) ?_
                exact ih27 _ _ _ hf hX29 _ _ hP hD hS _ (lv_sub hl [3, 4, 1, 0] rfl)
              · replace hf := ifn c41 hf
                refine lv_iconst (v := (1 : Int32)) hx hb dX10_mayOf_115 (by decide) ?_
                refine lv_iload_n hx hb dX10_mayOf_116 rfl (lv_at hl 4 rfl) ?_
                refine lv_ishl hx hb dX10_mayOf_117 ?_
                refine lv_goto (tgt := 122) hx hb dX10_mayOf_118 (by decide) ?_
                refine lv_ior hx hb dX10_mayOf_122 ?_
                obtain ⟨x44, e45, hf⟩ := nm_some hf
                refine lv_tope e45 ?_
                refine lv_istore_n (lv' := [(2, .int x44), (5, .int x38), (0, .ref h_t), (1, .int p1), (3, .int x26)]) hx hb dX10_mayOf_123 rfl hl (by decide) rfl (fun ls hl => ?_)
                refine lv_iinc (v := (x26 + (1 : Int32))) (lv' := [(3, .int (x26 + (1 : Int32))), (2, .int x44), (5, .int x38), (0, .ref h_t), (1, .int p1)]) hx hb dX10_mayOf_124 hl (k := 4) rfl rfl (by decide) rfl (fun ls hl => ?_)
                refine lv_goto (tgt := 4) hx hb dX10_mayOf_127 (by decide) ?_
                exact ih27 _ _ _ hf hX29 _ _ hP hD hS _ (lv_sub hl [3, 4, 1, 0] rfl)
            clear hf
            have hf := hg
            refine lv_icmp_eq (tgt := 98) hx hb dX10_mayOf_80 (by decide) (fun c46 => ?_) (fun c46 => ?_)
            · replace hf := ifp c46 hf
              refine lv_iload hx hb dX10_mayOf_98 (lv_at hl 0 rfl) ?_
              obtain rfl := inj1 hf
              exact J39 _ _ hP hD hS _ (lv_sub hl [1, 2, 3, 4] rfl)
            · replace hf := ifn c46 hf
              refine lv_iload hx hb dX10_mayOf_83 (lv_at hl 0 rfl) ?_
              refine lv_bipush (v := (8 : Int32)) hx hb dX10_mayOf_85 (by decide) ?_
              refine lv_icmp_le (tgt := 98) hx hb dX10_mayOf_87 (by decide) (fun c47 => ?_) (fun c47 => ?_)
              · replace hf := ifp c47 hf
                refine lv_iload hx hb dX10_mayOf_98 (lv_at hl 0 rfl) ?_
                obtain rfl := inj1 hf
                exact J39 _ _ hP hD hS _ (lv_sub hl [1, 2, 3, 4] rfl)
              · replace hf := ifn c47 hf
                refine lv_bipush (v := (16 : Int32)) hx hb dX10_mayOf_90 (by decide) ?_
                refine lv_iload hx hb dX10_mayOf_92 (lv_at hl 0 rfl) ?_
                refine lv_isub hx hb dX10_mayOf_94 ?_
                refine lv_goto (tgt := 100) hx hb dX10_mayOf_95 (by decide) ?_
                obtain rfl := inj1 hf
                exact J39 _ _ hP hD hS _ (lv_sub hl [1, 2, 3, 4] rfl)
          clear hf
          have hf := hg
          refine lv_if_ge (tgt := 73) hx hb dX10_mayOf_62 (by decide) (fun c48 => ?_) (fun c48 => ?_)
          · replace hf := ifp c48 hf
            refine lv_iload hx hb dX10_mayOf_73 (lv_at hl 0 rfl) ?_
            obtain rfl := inj1 hf
            exact J37 _ _ hP hD hS _ (lv_sub hl [1, 2, 3, 4, 5] rfl)
          · replace hf := ifn c48 hf
            refine lv_iload hx hb dX10_mayOf_65 (lv_at hl 0 rfl) ?_
            refine lv_bipush (v := (16 : Int32)) hx hb dX10_mayOf_67 (by decide) ?_
            refine lv_iadd hx hb dX10_mayOf_69 ?_
            refine lv_goto (tgt := 75) hx hb dX10_mayOf_70 (by decide) ?_
            obtain rfl := inj1 hf
            exact J37 _ _ hP hD hS _ (lv_sub hl [1, 2, 3, 4, 5] rfl)
        clear hf
        have hf := hg
        refine lv_icmp_ne (tgt := 39) hx hb dX10_mayOf_31 (by decide) (fun c49 => ?_) (fun c49 => ?_)
        · replace hf := ifn c49 hf
          refine lv_iconst (v := (2 : Int32)) hx hb dX10_mayOf_39 (by decide) ?_
          refine lv_iload hx hb dX10_mayOf_40 (lv_at hl 0 rfl) ?_
          refine lv_imul hx hb dX10_mayOf_42 ?_
          refine lv_aload_n hx hb dX10_mayOf_43 rfl (lv_at hl 1 rfl) ?_
          refine va_get (D := (dC, dI)) (ci := 8) (v := .ref h_t_book) (C := RX10) (T := TX10) (N := 32) hx hb hts (in1 tw_X10) hown hK hP 0 rfl rfl 0 (by decide) (hts _ (List.mem_cons_of_mem _ kw_116)) (fun _ h9 => h9) rfl dX10_mayOf_44 ?_
          refine lv_sipush (v := (260 : Int32)) hx hb dX10_mayOf_47 (by decide) ?_
          refine lv_iconst (v := (2 : Int32)) hx hb dX10_mayOf_50 (by decide) ?_
          refine lv_iload_n hx hb dX10_mayOf_51 rfl (lv_at hl 2 rfl) ?_
          refine lv_imul hx hb dX10_mayOf_52 ?_
          refine lv_iadd hx hb dX10_mayOf_53 ?_
          refine lv_iconst (v := (1 : Int32)) hx hb dX10_mayOf_54 (by decide) ?_
          refine lv_iadd hx hb dX10_mayOf_55 ?_
          obtain ⟨g50, hf⟩ := chk_some hf
          refine va_iald hx hb hK hP 1 0 rfl rfl (gin_in g50) dX10_mayOf_56 ?_
          refine lv_isub hx hb dX10_mayOf_57 ?_
          obtain rfl := inj1 hf
          exact J35 _ _ hP hD hS _ (lv_sub hl [1, 2, 3, 4, 0] rfl)
        · replace hf := ifp c49 hf
          refine lv_bipush (v := (100 : Int32)) hx hb dX10_mayOf_34 (by decide) ?_
          refine lv_goto (tgt := 58) hx hb dX10_mayOf_36 (by decide) ?_
          obtain rfl := inj1 hf
          exact J35 _ _ hP hD hS _ (lv_sub hl [1, 2, 3, 4, 0] rfl)
  obtain ⟨x24, hg, hf⟩ := bd1_some hf
  refine L51 FU _ _ _ hg ?_ _ _ hP hD hS _ (lv_sub hl [2, 3, 1, 0] rfl)
  · intro H locs hP hD hS ls hl
    refine lv_iload_n hx hb dX10_mayOf_130 rfl (lv_at hl 0 rfl) ?_
    obtain rfl := inj1 hf
    subst hQ
    exact CM_iret hx hb hr rfl hlocks hAe hP hD hS dX10_mayOf_131
def rmX10_may : Room := { frames := 4, cells := 0, slots := 0, locals := 99 }
abbrev wqX10_may : List Cond := Cond.code yX10_may cX10_may 2 (some .int) :: tG
set_option maxHeartbeats 4000000 in
set_option maxRecDepth 100000 in
theorem c_X10_may (l : Launch) (dC : Nat → ClassId) (dI : Nat → Nat → Nat) (cI cZ : ClassId) (te : Nat → Nat) (h_t : Nat) (h_t_book : Nat) (h_t_images : Nat) (h_t_kept : Nat) (h_t_aside : Nat) (h_t_far : Nat) (h_t_then : Nat) (h_t_row : Nat) (h_t_mays : Nat) (h_t_firstRow : Nat) (h_t_low : Nat) (h_t_high : Nat) (h_t_lowOne : Nat) (h_t_highOne : Nat) (h_t_ways : Nat) (h_t_left : Nat) (h_t_text : Nat) (h_t_verbs : Nat) (h_t_nums : Nat) (t_noOlder : Int32) (t_thanThis : Int32) (t_known : Int32) (t_knownAge : Int32) (t_moved : Int32) (t_met : Int32) (t_hours : Int32) (t_greatest : Int32) (t_typed : Int32) (t_at : Int32) (t_start : Int32) (t_token : Int32) (t_value : Int32) (t_items : Int32) (t_book : Nat → Int32) (p1 : Int32) (o0 : Int32) (hf : f_X10_may t_book p1 = some o0) : CM l yX10_may wqX10_may rmX10_may (kS te) dC dI cI cZ [.ref h_t, .int p1] [(h_t, .inr (8, fX10 h_t_book h_t_images h_t_kept h_t_aside h_t_far h_t_then h_t_row h_t_mays h_t_firstRow h_t_low h_t_high t_noOlder t_thanThis t_known t_knownAge t_moved h_t_lowOne h_t_highOne h_t_ways t_met h_t_left t_hours t_greatest h_t_text t_typed t_at t_start t_token t_value h_t_verbs h_t_nums t_items)), (h_t_book, .inl (cI, 460, .inl t_book))] [(h_t, .inr (8, fX10 h_t_book h_t_images h_t_kept h_t_aside h_t_far h_t_then h_t_row h_t_mays h_t_firstRow h_t_low h_t_high t_noOlder t_thanThis t_known t_knownAge t_moved h_t_lowOne h_t_highOne h_t_ways t_met h_t_left t_hours t_greatest h_t_text t_typed t_at t_start t_token t_value h_t_verbs h_t_nums t_items)), (h_t_book, .inl (cI, 460, .inl t_book))] (some (.int o0)) := by
  refine CM_of (cc := cX10_may) (maxL := 2) (ret := (some .int)) (by decide +kernel) rfl (Nat.le_of_ble_eq_true rfl) ?_
  intro p e s m args below meth c A Q hx hb hr hml hown hts hlocks hA hK hP hD hS hE hQ hAe ls hl
  have hown : s.vm.findClass RX10 = some m.cls := hown
  have hl : lv_has ls 2 [(0, .ref h_t), (1, .int p1)] := hl
  unfold f_X10_may at hf
  refine lv_aload_n hx hb dX10_may_0 rfl (lv_at hl 0 rfl) ?_
  refine lv_iconst (v := (2 : Int32)) hx hb dX10_may_1 (by decide) ?_
  refine lv_iload_n hx hb dX10_may_2 rfl (lv_at hl 1 rfl) ?_
  obtain ⟨r1, hg2, hf⟩ := bd1_some hf
  refine CM_callV (C := RX10) (As := [.int (2 : Int32), .int p1]) (rest := []) (wc := [(h_t, .inr (8, fX10 h_t_book h_t_images h_t_kept h_t_aside h_t_far h_t_then h_t_row h_t_mays h_t_firstRow h_t_low h_t_high t_noOlder t_thanThis t_known t_knownAge t_moved h_t_lowOne h_t_highOne h_t_ways t_met h_t_left t_hours t_greatest h_t_text t_typed t_at t_start t_token t_value h_t_verbs h_t_nums t_items)), (h_t_book, .inl (cI, 460, .inl t_book))]) (w1 := [(h_t, .inr (8, fX10 h_t_book h_t_images h_t_kept h_t_aside h_t_far h_t_then h_t_row h_t_mays h_t_firstRow h_t_low h_t_high t_noOlder t_thanThis t_known t_knownAge t_moved h_t_lowOne h_t_highOne h_t_ways t_met h_t_left t_hours t_greatest h_t_text t_typed t_at t_start t_token t_value h_t_verbs h_t_nums t_items)), (h_t_book, .inl (cI, 460, .inl t_book))]) (wr := []) (wo := [(h_t, .inr (8, fX10 h_t_book h_t_images h_t_kept h_t_aside h_t_far h_t_then h_t_row h_t_mays h_t_firstRow h_t_low h_t_high t_noOlder t_thanThis t_known t_knownAge t_moved h_t_lowOne h_t_highOne h_t_ways t_met h_t_left t_hours t_greatest h_t_text t_typed t_at t_start t_token t_value h_t_verbs h_t_nums t_items)), (h_t_book, .inl (cI, 460, .inl t_book))]) (v := (some (.int r1))) ⟨hx, hb, hml, hown, hts⟩ (c_X10_is l dC dI cI cZ te h_t h_t_book h_t_images h_t_kept h_t_aside h_t_far h_t_then h_t_row h_t_mays h_t_firstRow h_t_low h_t_high h_t_lowOne h_t_highOne h_t_ways h_t_left h_t_text h_t_verbs h_t_nums t_noOlder t_thanThis t_known t_knownAge t_moved t_met t_hours t_greatest t_typed t_at t_start t_token t_value t_items t_book (2 : Int32) p1 r1 hg2) (cwV 2 hts (gV kw_205 kw_206 kw_207 kw_159 kw_208) rfl rfl rfl (by decide +kernel) ⟨Nat.le_of_ble_eq_true rfl, Nat.le_of_ble_eq_true rfl⟩) (kS_env te) hK hP hD hS hA hE [0, 1] [] [0, 1] rfl rfl (by decide) (by decide) (by decide) (by decide) rfl 0 8 rfl rfl rfl rfl hl.1 rfl (Nat.le_of_ble_eq_true rfl) dX10_may_3 ⟨Nat.zero_le _, Nat.zero_le _⟩ (fun H locs hP hD hS => ?_)
  show W p l e rmX10_may s m args below meth c H locs 0 0 Q (F0 m 6 ls [.int r1])
  refine lv_if_eq (tgt := 17) hx hb dX10_may_6 (by decide) (fun c3 => ?_) (fun c3 => ?_)
  · replace hf := ifp c3 hf
    refine lv_bipush (v := (-2 : Int32)) hx hb dX10_may_17 (by decide) ?_
    obtain rfl := inj1 hf
    subst hQ
    exact CM_iret hx hb hr rfl hlocks hAe hP hD hS dX10_may_19
  · replace hf := ifn c3 hf
    refine lv_aload_n hx hb dX10_may_9 rfl (lv_at hl 0 rfl) ?_
    refine lv_iload_n hx hb dX10_may_10 rfl (lv_at hl 1 rfl) ?_
    obtain ⟨r4, hg5, hf⟩ := bd1_some hf
    refine CM_callV (C := RX10) (As := [.int p1]) (rest := []) (wc := [(h_t, .inr (8, fX10 h_t_book h_t_images h_t_kept h_t_aside h_t_far h_t_then h_t_row h_t_mays h_t_firstRow h_t_low h_t_high t_noOlder t_thanThis t_known t_knownAge t_moved h_t_lowOne h_t_highOne h_t_ways t_met h_t_left t_hours t_greatest h_t_text t_typed t_at t_start t_token t_value h_t_verbs h_t_nums t_items)), (h_t_book, .inl (cI, 460, .inl t_book))]) (w1 := [(h_t, .inr (8, fX10 h_t_book h_t_images h_t_kept h_t_aside h_t_far h_t_then h_t_row h_t_mays h_t_firstRow h_t_low h_t_high t_noOlder t_thanThis t_known t_knownAge t_moved h_t_lowOne h_t_highOne h_t_ways t_met h_t_left t_hours t_greatest h_t_text t_typed t_at t_start t_token t_value h_t_verbs h_t_nums t_items)), (h_t_book, .inl (cI, 460, .inl t_book))]) (wr := []) (wo := [(h_t, .inr (8, fX10 h_t_book h_t_images h_t_kept h_t_aside h_t_far h_t_then h_t_row h_t_mays h_t_firstRow h_t_low h_t_high t_noOlder t_thanThis t_known t_knownAge t_moved h_t_lowOne h_t_highOne h_t_ways t_met h_t_left t_hours t_greatest h_t_text t_typed t_at t_start t_token t_value h_t_verbs h_t_nums t_items)), (h_t_book, .inl (cI, 460, .inl t_book))]) (v := (some (.int r4))) ⟨hx, hb, hml, hown, hts⟩ (c_X10_mayOf l dC dI cI cZ te h_t h_t_book h_t_images h_t_kept h_t_aside h_t_far h_t_then h_t_row h_t_mays h_t_firstRow h_t_low h_t_high h_t_lowOne h_t_highOne h_t_ways h_t_left h_t_text h_t_verbs h_t_nums t_noOlder t_thanThis t_known t_knownAge t_moved t_met t_hours t_greatest t_typed t_at t_start t_token t_value t_items t_book p1 r4 hg5) (cwV 1 hts (gV kw_217 kw_218 kw_219 kw_159 kw_220) rfl rfl rfl (by decide +kernel) ⟨Nat.le_of_ble_eq_true rfl, Nat.le_of_ble_eq_true rfl⟩) (kS_env te) hK hP hD hS hA hE [0, 1] [] [0, 1] rfl rfl (by decide) (by decide) (by decide) (by decide) rfl 0 8 rfl rfl rfl rfl hl.1 rfl (Nat.le_of_ble_eq_true rfl) dX10_may_11 ⟨Nat.zero_le _, Nat.zero_le _⟩ (fun H locs hP hD hS => ?_)
    show W p l e rmX10_may s m args below meth c H locs 0 0 Q (F0 m 14 ls [.int r4])
    refine lv_goto (tgt := 19) hx hb dX10_may_14 (by decide) ?_
    obtain rfl := inj1 hf
    subst hQ
    exact CM_iret hx hb hr rfl hlocks hAe hP hD hS dX10_may_19
def rmX10_isLaid : Room := { frames := 0, cells := 0, slots := 0, locals := 0 }
abbrev wqX10_isLaid : List Cond := Cond.code yX10_isLaid cX10_isLaid 4 (some .boolean) :: tG
set_option maxHeartbeats 4000000 in
set_option maxRecDepth 100000 in
theorem c_X10_isLaid (l : Launch) (dC : Nat → ClassId) (dI : Nat → Nat → Nat) (cI cZ : ClassId) (te : Nat → Nat) (h_t : Nat) (h_t_book : Nat) (h_t_images : Nat) (h_t_kept : Nat) (h_t_aside : Nat) (h_t_far : Nat) (h_t_then : Nat) (h_t_row : Nat) (h_t_mays : Nat) (h_t_firstRow : Nat) (h_t_low : Nat) (h_t_high : Nat) (h_t_lowOne : Nat) (h_t_highOne : Nat) (h_t_ways : Nat) (h_t_left : Nat) (h_t_text : Nat) (h_t_verbs : Nat) (h_t_nums : Nat) (t_noOlder : Int32) (t_thanThis : Int32) (t_known : Int32) (t_knownAge : Int32) (t_moved : Int32) (t_met : Int32) (t_hours : Int32) (t_greatest : Int32) (t_typed : Int32) (t_at : Int32) (t_start : Int32) (t_token : Int32) (t_value : Int32) (t_items : Int32) (t_mays : Nat → Int32) (t_row : Nat → Int32) (t_book : Nat → Int32) (p1 : Int32) (o0 : Int32) (hf : f_X10_isLaid t_mays t_row t_book p1 = some o0) : CM l yX10_isLaid wqX10_isLaid rmX10_isLaid (kS te) dC dI cI cZ [.ref h_t, .int p1] [(h_t, .inr (8, fX10 h_t_book h_t_images h_t_kept h_t_aside h_t_far h_t_then h_t_row h_t_mays h_t_firstRow h_t_low h_t_high t_noOlder t_thanThis t_known t_knownAge t_moved h_t_lowOne h_t_highOne h_t_ways t_met h_t_left t_hours t_greatest h_t_text t_typed t_at t_start t_token t_value h_t_verbs h_t_nums t_items)), (h_t_mays, .inl (cI, 10, .inl t_mays)), (h_t_row, .inl (cI, 10, .inl t_row)), (h_t_book, .inl (cI, 460, .inl t_book))] [(h_t, .inr (8, fX10 h_t_book h_t_images h_t_kept h_t_aside h_t_far h_t_then h_t_row h_t_mays h_t_firstRow h_t_low h_t_high t_noOlder t_thanThis t_known t_knownAge t_moved h_t_lowOne h_t_highOne h_t_ways t_met h_t_left t_hours t_greatest h_t_text t_typed t_at t_start t_token t_value h_t_verbs h_t_nums t_items)), (h_t_mays, .inl (cI, 10, .inl t_mays)), (h_t_row, .inl (cI, 10, .inl t_row)), (h_t_book, .inl (cI, 460, .inl t_book))] (some (.int o0)) := by
  refine CM_of (cc := cX10_isLaid) (maxL := 4) (ret := (some .boolean)) (by decide +kernel) rfl (Nat.le_of_ble_eq_true rfl) ?_
  intro p e s m args below meth c A Q hx hb hr hml hown hts hlocks hA hK hP hD hS hE hQ hAe ls hl
  have hown : s.vm.findClass RX10 = some m.cls := hown
  have hl : lv_has ls 4 [(0, .ref h_t), (1, .int p1)] := hl
  unfold f_X10_isLaid at hf
  refine lv_aload_n hx hb dX10_isLaid_0 rfl (lv_at hl 0 rfl) ?_
  refine va_get (D := (dC, dI)) (ci := 8) (v := .ref h_t_mays) (C := RX10) (T := TX10) (N := 32) hx hb hts (in1 tw_X10) hown hK hP 0 rfl rfl 7 (by decide) (hts _ (List.mem_cons_of_mem _ kw_124)) (fun _ h9 => h9) rfl dX10_isLaid_1 ?_
  refine lv_iload_n hx hb dX10_isLaid_4 rfl (lv_at hl 1 rfl) ?_
  obtain ⟨g1, hf⟩ := chk_some hf
  refine va_iald hx hb hK hP 1 0 rfl rfl (gin_in g1) dX10_isLaid_5 ?_
  refine lv_aload_n hx hb dX10_isLaid_6 rfl (lv_at hl 0 rfl) ?_
  refine va_get (D := (dC, dI)) (ci := 8) (v := .ref h_t_row) (C := RX10) (T := TX10) (N := 32) hx hb hts (in1 tw_X10) hown hK hP 0 rfl rfl 6 (by decide) (hts _ (List.mem_cons_of_mem _ kw_123)) (fun _ h9 => h9) rfl dX10_isLaid_7 ?_
  refine lv_iload_n hx hb dX10_isLaid_10 rfl (lv_at hl 1 rfl) ?_
  obtain ⟨g2, hf⟩ := chk_some hf
  refine va_iald hx hb hK hP 2 0 rfl rfl (gin_in g2) dX10_isLaid_11 ?_
  refine lv_ishr hx hb dX10_isLaid_12 ?_
  refine lv_iconst (v := (1 : Int32)) hx hb dX10_isLaid_13 (by decide) ?_
  refine lv_iand hx hb dX10_isLaid_14 ?_
  refine lv_iconst (v := (1 : Int32)) hx hb dX10_isLaid_15 (by decide) ?_
  obtain ⟨x3, hg, hf⟩ := bd1_some hf
  have J4 : ∀ (H : Heap) (locs : List Loc), va_P (dC, dI) vwCl [(h_t, .inr (8, fX10 h_t_book h_t_images h_t_kept h_t_aside h_t_far h_t_then h_t_row h_t_mays h_t_firstRow h_t_low h_t_high t_noOlder t_thanThis t_known t_knownAge t_moved h_t_lowOne h_t_highOne h_t_ways t_met h_t_left t_hours t_greatest h_t_text t_typed t_at t_start t_token t_value h_t_verbs h_t_nums t_items)), (h_t_mays, .inl (cI, 10, .inl t_mays)), (h_t_row, .inl (cI, 10, .inl t_row)), (h_t_book, .inl (cI, 460, .inl t_book))] H → va_D A [(h_t, .inr (8, fX10 h_t_book h_t_images h_t_kept h_t_aside h_t_far h_t_then h_t_row h_t_mays h_t_firstRow h_t_low h_t_high t_noOlder t_thanThis t_known t_knownAge t_moved h_t_lowOne h_t_highOne h_t_ways t_met h_t_left t_hours t_greatest h_t_text t_typed t_at t_start t_token t_value h_t_verbs h_t_nums t_items)), (h_t_mays, .inl (cI, 10, .inl t_mays)), (h_t_row, .inl (cI, 10, .inl t_row)), (h_t_book, .inl (cI, 460, .inl t_book))] → va_S A s.heap H locs → ∀ ls : Array Slot, lv_has ls 4 [(0, .ref h_t), (1, .int p1)] → W p l e rmX10_isLaid s m args below meth c H locs 0 0 Q (F0 m 24 ls [.int x3]) := by
    intro H locs hP hD hS ls hl
    refine lv_istore_n (lv' := [(2, .int x3), (0, .ref h_t), (1, .int p1)]) hx hb dX10_isLaid_24 rfl hl (by decide) rfl (fun ls hl => ?_)
    refine lv_iconst (v := (0 : Int32)) hx hb dX10_isLaid_25 (by decide) ?_
    refine lv_istore_n (lv' := [(3, .int (0 : Int32)), (2, .int x3), (0, .ref h_t), (1, .int p1)]) hx hb dX10_isLaid_26 rfl hl (by decide) rfl (fun ls hl => ?_)
    have L29 : ∀ (fu19 : Nat) (x16 : Int32) (x17 : Int32) (x15 : Int32), f_X10_isLaid_L1 p1 t_book t_row fu19 x16 x17 = some x15 → (∀ (H : Heap) (locs : List Loc), va_P (dC, dI) vwCl [(h_t, .inr (8, fX10 h_t_book h_t_images h_t_kept h_t_aside h_t_far h_t_then h_t_row h_t_mays h_t_firstRow h_t_low h_t_high t_noOlder t_thanThis t_known t_knownAge t_moved h_t_lowOne h_t_highOne h_t_ways t_met h_t_left t_hours t_greatest h_t_text t_typed t_at t_start t_token t_value h_t_verbs h_t_nums t_items)), (h_t_mays, .inl (cI, 10, .inl t_mays)), (h_t_row, .inl (cI, 10, .inl t_row)), (h_t_book, .inl (cI, 460, .inl t_book))] H → va_D A [(h_t, .inr (8, fX10 h_t_book h_t_images h_t_kept h_t_aside h_t_far h_t_then h_t_row h_t_mays h_t_firstRow h_t_low h_t_high t_noOlder t_thanThis t_known t_knownAge t_moved h_t_lowOne h_t_highOne h_t_ways t_met h_t_left t_hours t_greatest h_t_text t_typed t_at t_start t_token t_value h_t_verbs h_t_nums t_items)), (h_t_mays, .inl (cI, 10, .inl t_mays)), (h_t_row, .inl (cI, 10, .inl t_row)), (h_t_book, .inl (cI, 460, .inl t_book))] → va_S A s.heap H locs → ∀ ls : Array Slot, lv_has ls 4 [(2, .int x15)] → W p l e rmX10_isLaid s m args below meth c H locs 0 0 Q (F0 m 90 ls [])) → ∀ (H : Heap) (locs : List Loc), va_P (dC, dI) vwCl [(h_t, .inr (8, fX10 h_t_book h_t_images h_t_kept h_t_aside h_t_far h_t_then h_t_row h_t_mays h_t_firstRow h_t_low h_t_high t_noOlder t_thanThis t_known t_knownAge t_moved h_t_lowOne h_t_highOne h_t_ways t_met h_t_left t_hours t_greatest h_t_text t_typed t_at t_start t_token t_value h_t_verbs h_t_nums t_items)), (h_t_mays, .inl (cI, 10, .inl t_mays)), (h_t_row, .inl (cI, 10, .inl t_row)), (h_t_book, .inl (cI, 460, .inl t_book))] H → va_D A [(h_t, .inr (8, fX10 h_t_book h_t_images h_t_kept h_t_aside h_t_far h_t_then h_t_row h_t_mays h_t_firstRow h_t_low h_t_high t_noOlder t_thanThis t_known t_knownAge t_moved h_t_lowOne h_t_highOne h_t_ways t_met h_t_left t_hours t_greatest h_t_text t_typed t_at t_start t_token t_value h_t_verbs h_t_nums t_items)), (h_t_mays, .inl (cI, 10, .inl t_mays)), (h_t_row, .inl (cI, 10, .inl t_row)), (h_t_book, .inl (cI, 460, .inl t_book))] → va_S A s.heap H locs → ∀ ls : Array Slot, lv_has ls 4 [(0, .ref h_t), (1, .int p1), (2, .int x16), (3, .int x17)] → W p l e rmX10_isLaid s m args below meth c H locs 0 0 Q (F0 m 27 ls []) := by
      intro fu19
      induction fu19 with
      | zero =>
        intro x16 x17 x15 hf
        unfold f_X10_isLaid_L1 at hf
        exact none_ne hf
      | succ fu19 ih18 =>
        intro x16 x17 x15 hf hX20 H locs hP hD hS ls hl
        unfold f_X10_isLaid_L1 at hf
        refine lv_iload_n hx hb dX10_isLaid_27 rfl (lv_at hl 3 rfl) ?_
        refine lv_iload_n hx hb dX10_isLaid_28 rfl (lv_at hl 1 rfl) ?_
        refine lv_icmp_ge (tgt := 90) hx hb dX10_isLaid_29 (by decide) (fun c21 => ?_) (fun c21 => ?_)
        · replace hf := ifp c21 hf
          obtain rfl := inj1 hf
          exact hX20 _ _ hP hD hS _ (lv_sub hl [2] rfl)
        · replace hf := ifn c21 hf
          refine lv_iload_n hx hb dX10_isLaid_32 rfl (lv_at hl 2 rfl) ?_
          refine lv_if_eq (tgt := 90) hx hb dX10_isLaid_33 (by decide) (fun c22 => ?_) (fun c22 => ?_)
          · replace hf := ifp c22 hf
            obtain rfl := inj1 hf
            exact hX20 _ _ hP hD hS _ (lv_sub hl [2] rfl)
          · replace hf := ifn c22 hf
            refine lv_aload_n hx hb dX10_isLaid_36 rfl (lv_at hl 0 rfl) ?_
            refine va_get (D := (dC, dI)) (ci := 8) (v := .ref h_t_book) (C := RX10) (T := TX10) (N := 32) hx hb hts (in1 tw_X10) hown hK hP 0 rfl rfl 0 (by decide) (hts _ (List.mem_cons_of_mem _ kw_116)) (fun _ h9 => h9) rfl dX10_isLaid_37 ?_
            refine lv_sipush (v := (260 : Int32)) hx hb dX10_isLaid_40 (by decide) ?_
            refine lv_iconst (v := (2 : Int32)) hx hb dX10_isLaid_43 (by decide) ?_
            refine lv_iload_n hx hb dX10_isLaid_44 rfl (lv_at hl 3 rfl) ?_
            refine lv_imul hx hb dX10_isLaid_45 ?_
            refine lv_iadd hx hb dX10_isLaid_46 ?_
            obtain ⟨g23, hf⟩ := chk_some hf
            refine va_iald hx hb hK hP 3 0 rfl rfl (gin_in g23) dX10_isLaid_47 ?_
            refine lv_aload_n hx hb dX10_isLaid_48 rfl (lv_at hl 0 rfl) ?_
            refine va_get (D := (dC, dI)) (ci := 8) (v := .ref h_t_book) (C := RX10) (T := TX10) (N := 32) hx hb hts (in1 tw_X10) hown hK hP 0 rfl rfl 0 (by decide) (hts _ (List.mem_cons_of_mem _ kw_116)) (fun _ h9 => h9) rfl dX10_isLaid_49 ?_
            refine lv_sipush (v := (260 : Int32)) hx hb dX10_isLaid_52 (by decide) ?_
            refine lv_iconst (v := (2 : Int32)) hx hb dX10_isLaid_55 (by decide) ?_
            refine lv_iload_n hx hb dX10_isLaid_56 rfl (lv_at hl 1 rfl) ?_
            refine lv_imul hx hb dX10_isLaid_57 ?_
            refine lv_iadd hx hb dX10_isLaid_58 ?_
            obtain ⟨g24, hf⟩ := chk_some hf
            refine va_iald hx hb hK hP 3 0 rfl rfl (gin_in g24) dX10_isLaid_59 ?_
            refine lv_icmp_ne (tgt := 78) hx hb dX10_isLaid_60 (by decide) (fun c25 => ?_) (fun c25 => ?_)
            · replace hf := ifn c25 hf
              refine lv_iconst (v := (1 : Int32)) hx hb dX10_isLaid_78 (by decide) ?_
              refine lv_goto (tgt := 83) hx hb dX10_isLaid_79 (by decide) ?_
              refine lv_istore_n (lv' := [(2, .int (1 : Int32)), (0, .ref h_t), (1, .int p1), (3, .int x17)]) hx hb dX10_isLaid_83 rfl hl (by decide) rfl (fun ls hl => ?_)
              refine lv_iinc (v := (x17 + (1 : Int32))) (lv' := [(3, .int (x17 + (1 : Int32))), (2, .int (1 : Int32)), (0, .ref h_t), (1, .int p1)]) hx hb dX10_isLaid_84 hl (k := 3) rfl rfl (by decide) rfl (fun ls hl => ?_)
              refine lv_goto (tgt := 27) hx hb dX10_isLaid_87 (by decide) ?_
              exact ih18 _ _ _ hf hX20 _ _ hP hD hS _ (lv_sub hl [2, 3, 1, 0] rfl)
            · replace hf := ifp c25 hf
              refine lv_aload_n hx hb dX10_isLaid_63 rfl (lv_at hl 0 rfl) ?_
              refine va_get (D := (dC, dI)) (ci := 8) (v := .ref h_t_row) (C := RX10) (T := TX10) (N := 32) hx hb hts (in1 tw_X10) hown hK hP 0 rfl rfl 6 (by decide) (hts _ (List.mem_cons_of_mem _ kw_123)) (fun _ h9 => h9) rfl dX10_isLaid_64 ?_
              refine lv_iload_n hx hb dX10_isLaid_67 rfl (lv_at hl 3 rfl) ?_
              obtain ⟨g26, hf⟩ := chk_some hf
              refine va_iald hx hb hK hP 2 0 rfl rfl (gin_in g26) dX10_isLaid_68 ?_
              refine lv_aload_n hx hb dX10_isLaid_69 rfl (lv_at hl 0 rfl) ?_
              refine va_get (D := (dC, dI)) (ci := 8) (v := .ref h_t_row) (C := RX10) (T := TX10) (N := 32) hx hb hts (in1 tw_X10) hown hK hP 0 rfl rfl 6 (by decide) (hts _ (List.mem_cons_of_mem _ kw_123)) (fun _ h9 => h9) rfl dX10_isLaid_70 ?_
              refine lv_iload_n hx hb dX10_isLaid_73 rfl (lv_at hl 1 rfl) ?_
              obtain ⟨g27, hf⟩ := chk_some hf
              refine va_iald hx hb hK hP 2 0 rfl rfl (gin_in g27) dX10_isLaid_74 ?_
              refine lv_icmp_gt (tgt := 82) hx hb dX10_isLaid_75 (by decide) (fun c28 => ?_) (fun c28 => ?_)
              · replace hf := ifp c28 hf
                refine lv_iconst (v := (0 : Int32)) hx hb dX10_isLaid_82 (by decide) ?_
                refine lv_istore_n (lv' := [(2, .int (0 : Int32)), (0, .ref h_t), (1, .int p1), (3, .int x17)]) hx hb dX10_isLaid_83 rfl hl (by decide) rfl (fun ls hl => ?_)
                refine lv_iinc (v := (x17 + (1 : Int32))) (lv' := [(3, .int (x17 + (1 : Int32))), (2, .int (0 : Int32)), (0, .ref h_t), (1, .int p1)]) hx hb dX10_isLaid_84 hl (k := 3) rfl rfl (by decide) rfl (fun ls hl => ?_)
                refine lv_goto (tgt := 27) hx hb dX10_isLaid_87 (by decide) ?_
                exact ih18 _ _ _ hf hX20 _ _ hP hD hS _ (lv_sub hl [2, 3, 1, 0] rfl)
              · replace hf := ifn c28 hf
                refine lv_iconst (v := (1 : Int32)) hx hb dX10_isLaid_78 (by decide) ?_
                refine lv_goto (tgt := 83) hx hb dX10_isLaid_79 (by decide) ?_
                refine lv_istore_n (lv' := [(2, .int (1 : Int32)), (0, .ref h_t), (1, .int p1), (3, .int x17)]) hx hb dX10_isLaid_83 rfl hl (by decide) rfl (fun ls hl => ?_)
                refine lv_iinc (v := (x17 + (1 : Int32))) (lv' := [(3, .int (x17 + (1 : Int32))), (2, .int (1 : Int32)), (0, .ref h_t), (1, .int p1)]) hx hb dX10_isLaid_84 hl (k := 3) rfl rfl (by decide) rfl (fun ls hl => ?_)
                refine lv_goto (tgt := 27) hx hb dX10_isLaid_87 (by decide) ?_
                exact ih18 _ _ _ hf hX20 _ _ hP hD hS _ (lv_sub hl [2, 3, 1, 0] rfl)
    obtain ⟨x15, hg, hf⟩ := bd1_some hf
    refine L29 FU _ _ _ hg ?_ _ _ hP hD hS _ (lv_sub hl [2, 3, 1, 0] rfl)
    · intro H locs hP hD hS ls hl
      refine lv_iload_n hx hb dX10_isLaid_90 rfl (lv_at hl 0 rfl) ?_
      obtain ⟨g30, hf⟩ := chk_some hf
      obtain rfl := inj1 hf
      subst hQ
      exact CM_iret hx hb hr (gz_n g30) hlocks hAe hP hD hS dX10_isLaid_91
  clear hf
  have hf := hg
  refine lv_icmp_ne (tgt := 23) hx hb dX10_isLaid_16 (by decide) (fun c31 => ?_) (fun c31 => ?_)
  · replace hf := ifn c31 hf
    refine lv_iconst (v := (0 : Int32)) hx hb dX10_isLaid_23 (by decide) ?_
    obtain rfl := inj1 hf
    exact J4 _ _ hP hD hS _ (lv_sub hl [0, 1] rfl)
  · replace hf := ifp c31 hf
    refine lv_iconst (v := (1 : Int32)) hx hb dX10_isLaid_19 (by decide) ?_
    refine lv_goto (tgt := 24) hx hb dX10_isLaid_20 (by decide) ?_
    obtain rfl := inj1 hf
    exact J4 _ _ hP hD hS _ (lv_sub hl [0, 1] rfl)
def rmX10_lays : Room := { frames := 4, cells := 0, slots := 0, locals := 99 }
abbrev wqX10_lays : List Cond := Cond.code yX10_lays cX10_lays 5 (some .int) :: tG
set_option maxHeartbeats 4000000 in
set_option maxRecDepth 100000 in
theorem c_X10_lays (l : Launch) (dC : Nat → ClassId) (dI : Nat → Nat → Nat) (cI cZ : ClassId) (te : Nat → Nat) (h_t : Nat) (h_t_book : Nat) (h_t_images : Nat) (h_t_kept : Nat) (h_t_aside : Nat) (h_t_far : Nat) (h_t_then : Nat) (h_t_row : Nat) (h_t_mays : Nat) (h_t_firstRow : Nat) (h_t_low : Nat) (h_t_high : Nat) (h_t_lowOne : Nat) (h_t_highOne : Nat) (h_t_ways : Nat) (h_t_left : Nat) (h_t_text : Nat) (h_t_verbs : Nat) (h_t_nums : Nat) (t_noOlder : Int32) (t_thanThis : Int32) (t_known : Int32) (t_knownAge : Int32) (t_moved : Int32) (t_met : Int32) (t_hours : Int32) (t_greatest : Int32) (t_typed : Int32) (t_at : Int32) (t_start : Int32) (t_token : Int32) (t_value : Int32) (t_items : Int32) (t_book : Nat → Int32) (t_mays : Nat → Int32) (t_row : Nat → Int32) (t_firstRow : Nat → Int32) (o0 : Int32) (o1 : Nat → Int32) (o2 : Nat → Int32) (o3 : Nat → Int32) (hf : f_X10_lays t_book t_mays t_row t_firstRow = some (o0, o1, o2, o3)) : CM l yX10_lays wqX10_lays rmX10_lays (kS te) dC dI cI cZ [.ref h_t] [(h_t, .inr (8, fX10 h_t_book h_t_images h_t_kept h_t_aside h_t_far h_t_then h_t_row h_t_mays h_t_firstRow h_t_low h_t_high t_noOlder t_thanThis t_known t_knownAge t_moved h_t_lowOne h_t_highOne h_t_ways t_met h_t_left t_hours t_greatest h_t_text t_typed t_at t_start t_token t_value h_t_verbs h_t_nums t_items)), (h_t_book, .inl (cI, 460, .inl t_book)), (h_t_mays, .inl (cI, 10, .inl t_mays)), (h_t_row, .inl (cI, 10, .inl t_row)), (h_t_firstRow, .inl (cI, 10, .inl t_firstRow))] [(h_t, .inr (8, fX10 h_t_book h_t_images h_t_kept h_t_aside h_t_far h_t_then h_t_row h_t_mays h_t_firstRow h_t_low h_t_high t_noOlder t_thanThis t_known t_knownAge t_moved h_t_lowOne h_t_highOne h_t_ways t_met h_t_left t_hours t_greatest h_t_text t_typed t_at t_start t_token t_value h_t_verbs h_t_nums t_items)), (h_t_book, .inl (cI, 460, .inl t_book)), (h_t_mays, .inl (cI, 10, .inl o1)), (h_t_row, .inl (cI, 10, .inl o2)), (h_t_firstRow, .inl (cI, 10, .inl o3))] (some (.int o0)) := by
  refine CM_of (cc := cX10_lays) (maxL := 5) (ret := (some .int)) (by decide +kernel) rfl (Nat.le_of_ble_eq_true rfl) ?_
  intro p e s m args below meth c A Q hx hb hr hml hown hts hlocks hA hK hP hD hS hE hQ hAe ls hl
  have hown : s.vm.findClass RX10 = some m.cls := hown
  have hl : lv_has ls 5 [(0, .ref h_t)] := hl
  unfold f_X10_lays at hf
  refine lv_aload_n hx hb dX10_lays_0 rfl (lv_at hl 0 rfl) ?_
  refine va_get (D := (dC, dI)) (ci := 8) (v := .ref h_t_book) (C := RX10) (T := TX10) (N := 32) hx hb hts (in1 tw_X10) hown hK hP 0 rfl rfl 0 (by decide) (hts _ (List.mem_cons_of_mem _ kw_116)) (fun _ h9 => h9) rfl dX10_lays_1 ?_
  refine lv_iconst (v := (2 : Int32)) hx hb dX10_lays_4 (by decide) ?_
  obtain ⟨g1, hf⟩ := chk_some hf
  refine va_iald hx hb hK hP 1 0 rfl rfl (gin_in g1) dX10_lays_5 ?_
  obtain ⟨x2, e3, hf⟩ := nm_some hf
  refine lv_tope e3 ?_
  refine lv_istore_n (lv' := [(1, .int x2), (0, .ref h_t)]) hx hb dX10_lays_6 rfl hl (by decide) rfl (fun ls hl => ?_)
  refine lv_iconst (v := (0 : Int32)) hx hb dX10_lays_7 (by decide) ?_
  refine lv_istore_n (lv' := [(2, .int (0 : Int32)), (1, .int x2), (0, .ref h_t)]) hx hb dX10_lays_8 rfl hl (by decide) rfl (fun ls hl => ?_)
  refine lv_iconst (v := (0 : Int32)) hx hb dX10_lays_9 (by decide) ?_
  refine lv_istore_n (lv' := [(3, .int (0 : Int32)), (2, .int (0 : Int32)), (1, .int x2), (0, .ref h_t)]) hx hb dX10_lays_10 rfl hl (by decide) rfl (fun ls hl => ?_)
  refine lv_iconst (v := (0 : Int32)) hx hb dX10_lays_11 (by decide) ?_
  refine lv_istore (lv' := [(4, .int (0 : Int32)), (3, .int (0 : Int32)), (2, .int (0 : Int32)), (1, .int x2), (0, .ref h_t)]) hx hb dX10_lays_12 hl (by decide) rfl (fun ls hl => ?_)
  have L24 : ∀ (fu16 : Nat) (y13 : Nat → Int32) (x14 : Int32) (y12 : Nat → Int32), f_X10_lays_L1 x2 t_book fu16 y13 x14 = some y12 → (∀ (H : Heap) (locs : List Loc), va_P (dC, dI) vwCl [(h_t, .inr (8, fX10 h_t_book h_t_images h_t_kept h_t_aside h_t_far h_t_then h_t_row h_t_mays h_t_firstRow h_t_low h_t_high t_noOlder t_thanThis t_known t_knownAge t_moved h_t_lowOne h_t_highOne h_t_ways t_met h_t_left t_hours t_greatest h_t_text t_typed t_at t_start t_token t_value h_t_verbs h_t_nums t_items)), (h_t_book, .inl (cI, 460, .inl t_book)), (h_t_mays, .inl (cI, 10, .inl y12)), (h_t_row, .inl (cI, 10, .inl t_row)), (h_t_firstRow, .inl (cI, 10, .inl t_firstRow))] H → va_D A [(h_t, .inr (8, fX10 h_t_book h_t_images h_t_kept h_t_aside h_t_far h_t_then h_t_row h_t_mays h_t_firstRow h_t_low h_t_high t_noOlder t_thanThis t_known t_knownAge t_moved h_t_lowOne h_t_highOne h_t_ways t_met h_t_left t_hours t_greatest h_t_text t_typed t_at t_start t_token t_value h_t_verbs h_t_nums t_items)), (h_t_book, .inl (cI, 460, .inl t_book)), (h_t_mays, .inl (cI, 10, .inl y12)), (h_t_row, .inl (cI, 10, .inl t_row)), (h_t_firstRow, .inl (cI, 10, .inl t_firstRow))] → va_S A s.heap H locs → ∀ ls : Array Slot, lv_has ls 5 [(0, .ref h_t), (1, .int x2), (2, .int (0 : Int32)), (3, .int (0 : Int32))] → W p l e rmX10_lays s m args below meth c H locs 0 0 Q (F0 m 39 ls [])) → ∀ (H : Heap) (locs : List Loc), va_P (dC, dI) vwCl [(h_t, .inr (8, fX10 h_t_book h_t_images h_t_kept h_t_aside h_t_far h_t_then h_t_row h_t_mays h_t_firstRow h_t_low h_t_high t_noOlder t_thanThis t_known t_knownAge t_moved h_t_lowOne h_t_highOne h_t_ways t_met h_t_left t_hours t_greatest h_t_text t_typed t_at t_start t_token t_value h_t_verbs h_t_nums t_items)), (h_t_book, .inl (cI, 460, .inl t_book)), (h_t_mays, .inl (cI, 10, .inl y13)), (h_t_row, .inl (cI, 10, .inl t_row)), (h_t_firstRow, .inl (cI, 10, .inl t_firstRow))] H → va_D A [(h_t, .inr (8, fX10 h_t_book h_t_images h_t_kept h_t_aside h_t_far h_t_then h_t_row h_t_mays h_t_firstRow h_t_low h_t_high t_noOlder t_thanThis t_known t_knownAge t_moved h_t_lowOne h_t_highOne h_t_ways t_met h_t_left t_hours t_greatest h_t_text t_typed t_at t_start t_token t_value h_t_verbs h_t_nums t_items)), (h_t_book, .inl (cI, 460, .inl t_book)), (h_t_mays, .inl (cI, 10, .inl y13)), (h_t_row, .inl (cI, 10, .inl t_row)), (h_t_firstRow, .inl (cI, 10, .inl t_firstRow))] → va_S A s.heap H locs → ∀ ls : Array Slot, lv_has ls 5 [(0, .ref h_t), (1, .int x2), (2, .int (0 : Int32)), (3, .int (0 : Int32)), (4, .int x14)] → W p l e rmX10_lays s m args below meth c H locs 0 0 Q (F0 m 14 ls []) := by
    intro fu16
    induction fu16 with
    | zero =>
      intro y13 x14 y12 hf
      unfold f_X10_lays_L1 at hf
      exact none_ne hf
    | succ fu16 ih15 =>
      intro y13 x14 y12 hf hX17 H locs hP hD hS ls hl
      unfold f_X10_lays_L1 at hf
      refine lv_iload hx hb dX10_lays_14 (lv_at hl 4 rfl) ?_
      refine lv_iload_n hx hb dX10_lays_16 rfl (lv_at hl 1 rfl) ?_
      refine lv_icmp_ge (tgt := 39) hx hb dX10_lays_17 (by decide) (fun c18 => ?_) (fun c18 => ?_)
      · replace hf := ifp c18 hf
        obtain rfl := inj1 hf
        exact hX17 _ _ hP hD hS _ (lv_sub hl [0, 1, 2, 3] rfl)
      · replace hf := ifn c18 hf
        refine lv_aload_n hx hb dX10_lays_20 rfl (lv_at hl 0 rfl) ?_
        refine va_get (D := (dC, dI)) (ci := 8) (v := .ref h_t_mays) (C := RX10) (T := TX10) (N := 32) hx hb hts (in1 tw_X10) hown hK hP 0 rfl rfl 7 (by decide) (hts _ (List.mem_cons_of_mem _ kw_124)) (fun _ h9 => h9) rfl dX10_lays_21 ?_
        refine lv_iload hx hb dX10_lays_24 (lv_at hl 4 rfl) ?_
        refine lv_aload_n hx hb dX10_lays_26 rfl (lv_at hl 0 rfl) ?_
        refine lv_iload hx hb dX10_lays_27 (lv_at hl 4 rfl) ?_
        obtain ⟨r19, hg20, hf⟩ := bd1_some hf
        refine CM_callV (C := RX10) (As := [.int x14]) (rest := [.int x14, .ref h_t_mays]) (wc := [(h_t, .inr (8, fX10 h_t_book h_t_images h_t_kept h_t_aside h_t_far h_t_then h_t_row h_t_mays h_t_firstRow h_t_low h_t_high t_noOlder t_thanThis t_known t_knownAge t_moved h_t_lowOne h_t_highOne h_t_ways t_met h_t_left t_hours t_greatest h_t_text t_typed t_at t_start t_token t_value h_t_verbs h_t_nums t_items)), (h_t_book, .inl (cI, 460, .inl t_book))]) (w1 := [(h_t, .inr (8, fX10 h_t_book h_t_images h_t_kept h_t_aside h_t_far h_t_then h_t_row h_t_mays h_t_firstRow h_t_low h_t_high t_noOlder t_thanThis t_known t_knownAge t_moved h_t_lowOne h_t_highOne h_t_ways t_met h_t_left t_hours t_greatest h_t_text t_typed t_at t_start t_token t_value h_t_verbs h_t_nums t_items)), (h_t_book, .inl (cI, 460, .inl t_book))]) (wr := [(h_t_mays, .inl (cI, 10, .inl y13)), (h_t_row, .inl (cI, 10, .inl t_row)), (h_t_firstRow, .inl (cI, 10, .inl t_firstRow))]) (wo := [(h_t, .inr (8, fX10 h_t_book h_t_images h_t_kept h_t_aside h_t_far h_t_then h_t_row h_t_mays h_t_firstRow h_t_low h_t_high t_noOlder t_thanThis t_known t_knownAge t_moved h_t_lowOne h_t_highOne h_t_ways t_met h_t_left t_hours t_greatest h_t_text t_typed t_at t_start t_token t_value h_t_verbs h_t_nums t_items)), (h_t_book, .inl (cI, 460, .inl t_book)), (h_t_mays, .inl (cI, 10, .inl y13)), (h_t_row, .inl (cI, 10, .inl t_row)), (h_t_firstRow, .inl (cI, 10, .inl t_firstRow))]) (v := (some (.int r19))) ⟨hx, hb, hml, hown, hts⟩ (c_X10_mayOf l dC dI cI cZ te h_t h_t_book h_t_images h_t_kept h_t_aside h_t_far h_t_then h_t_row h_t_mays h_t_firstRow h_t_low h_t_high h_t_lowOne h_t_highOne h_t_ways h_t_left h_t_text h_t_verbs h_t_nums t_noOlder t_thanThis t_known t_knownAge t_moved t_met t_hours t_greatest t_typed t_at t_start t_token t_value t_items t_book x14 r19 hg20) (cwV 1 hts (gV kw_217 kw_218 kw_219 kw_159 kw_220) rfl rfl rfl (by decide +kernel) ⟨Nat.le_of_ble_eq_true rfl, Nat.le_of_ble_eq_true rfl⟩) (kS_env te) hK hP hD hS hA hE [0, 1] [2, 3, 4] [3, 4, 0, 1, 2] rfl rfl (by decide) (by decide) (by decide) (by decide) rfl 0 8 rfl rfl rfl rfl hl.1 rfl (Nat.le_of_ble_eq_true rfl) dX10_lays_29 ⟨Nat.zero_le _, Nat.zero_le _⟩ (fun H locs hP hD hS => ?_)
        show W p l e rmX10_lays s m args below meth c H locs 0 0 Q (F0 m 32 ls [.int r19, .int x14, .ref h_t_mays])
        obtain ⟨g21, hf⟩ := chk_some hf
        obtain ⟨y22, e23, hf⟩ := nm_some hf
        refine va_iast hx hb hK hP hD hS 2 0 rfl rfl (gin_in g21) dX10_lays_32 (fun H locs hP hD hS => ?_)
        have hP : va_P (dC, dI) vwCl [(h_t, .inr (8, fX10 h_t_book h_t_images h_t_kept h_t_aside h_t_far h_t_then h_t_row h_t_mays h_t_firstRow h_t_low h_t_high t_noOlder t_thanThis t_known t_knownAge t_moved h_t_lowOne h_t_highOne h_t_ways t_met h_t_left t_hours t_greatest h_t_text t_typed t_at t_start t_token t_value h_t_verbs h_t_nums t_items)), (h_t_book, .inl (cI, 460, .inl t_book)), (h_t_mays, .inl (cI, 10, .inl y22)), (h_t_row, .inl (cI, 10, .inl t_row)), (h_t_firstRow, .inl (cI, 10, .inl t_firstRow))] H := by rw [e23]; exact hP
        have hD : va_D A [(h_t, .inr (8, fX10 h_t_book h_t_images h_t_kept h_t_aside h_t_far h_t_then h_t_row h_t_mays h_t_firstRow h_t_low h_t_high t_noOlder t_thanThis t_known t_knownAge t_moved h_t_lowOne h_t_highOne h_t_ways t_met h_t_left t_hours t_greatest h_t_text t_typed t_at t_start t_token t_value h_t_verbs h_t_nums t_items)), (h_t_book, .inl (cI, 460, .inl t_book)), (h_t_mays, .inl (cI, 10, .inl y22)), (h_t_row, .inl (cI, 10, .inl t_row)), (h_t_firstRow, .inl (cI, 10, .inl t_firstRow))] := by rw [e23]; exact hD
        refine lv_iinc (v := (x14 + (1 : Int32))) (lv' := [(4, .int (x14 + (1 : Int32))), (0, .ref h_t), (1, .int x2), (2, .int (0 : Int32)), (3, .int (0 : Int32))]) hx hb dX10_lays_33 hl (k := 4) rfl rfl (by decide) rfl (fun ls hl => ?_)
        refine lv_goto (tgt := 14) hx hb dX10_lays_36 (by decide) ?_
        exact ih15 _ _ _ hf hX17 _ _ hP hD hS _ (lv_sub hl [1, 2, 3, 4, 0] rfl)
  obtain ⟨y12, hg, hf⟩ := bd1_some hf
  refine L24 FU _ _ _ hg ?_ _ _ hP hD hS _ (lv_sub hl [4, 3, 2, 1, 0] rfl)
  · intro H locs hP hD hS ls hl
    refine lv_iload_n hx hb dX10_lays_39 rfl (lv_at hl 1 rfl) ?_
    refine lv_if_ne (tgt := 45) hx hb dX10_lays_40 (by decide) (fun c25 => ?_) (fun c25 => ?_)
    · replace hf := ifn c25 hf
      refine lv_aload_n hx hb dX10_lays_45 rfl (lv_at hl 0 rfl) ?_
      refine va_get (D := (dC, dI)) (ci := 8) (v := .ref h_t_row) (C := RX10) (T := TX10) (N := 32) hx hb hts (in1 tw_X10) hown hK hP 0 rfl rfl 6 (by decide) (hts _ (List.mem_cons_of_mem _ kw_123)) (fun _ h9 => h9) rfl dX10_lays_46 ?_
      refine lv_iconst (v := (0 : Int32)) hx hb dX10_lays_49 (by decide) ?_
      refine lv_iconst (v := (-1 : Int32)) hx hb dX10_lays_50 (by decide) ?_
      obtain ⟨g26, hf⟩ := chk_some hf
      obtain ⟨y27, e28, hf⟩ := nm_some hf
      refine va_iast hx hb hK hP hD hS 3 0 rfl rfl (gin_in g26) dX10_lays_51 (fun H locs hP hD hS => ?_)
      have hP : va_P (dC, dI) vwCl [(h_t, .inr (8, fX10 h_t_book h_t_images h_t_kept h_t_aside h_t_far h_t_then h_t_row h_t_mays h_t_firstRow h_t_low h_t_high t_noOlder t_thanThis t_known t_knownAge t_moved h_t_lowOne h_t_highOne h_t_ways t_met h_t_left t_hours t_greatest h_t_text t_typed t_at t_start t_token t_value h_t_verbs h_t_nums t_items)), (h_t_book, .inl (cI, 460, .inl t_book)), (h_t_mays, .inl (cI, 10, .inl y12)), (h_t_row, .inl (cI, 10, .inl y27)), (h_t_firstRow, .inl (cI, 10, .inl t_firstRow))] H := by rw [e28]; exact hP
      have hD : va_D A [(h_t, .inr (8, fX10 h_t_book h_t_images h_t_kept h_t_aside h_t_far h_t_then h_t_row h_t_mays h_t_firstRow h_t_low h_t_high t_noOlder t_thanThis t_known t_knownAge t_moved h_t_lowOne h_t_highOne h_t_ways t_met h_t_left t_hours t_greatest h_t_text t_typed t_at t_start t_token t_value h_t_verbs h_t_nums t_items)), (h_t_book, .inl (cI, 460, .inl t_book)), (h_t_mays, .inl (cI, 10, .inl y12)), (h_t_row, .inl (cI, 10, .inl y27)), (h_t_firstRow, .inl (cI, 10, .inl t_firstRow))] := by rw [e28]; exact hD
      have L125 : ∀ (fu82 : Nat) (y77 : Nat → Int32) (y78 : Nat → Int32) (x79 : Int32) (x80 : Int32) (y74 : Nat → Int32) (y75 : Nat → Int32) (x76 : Int32), f_X10_lays_L4 y12 t_book x2 fu82 y77 y78 x79 x80 = some (y74, y75, x76) → (∀ (H : Heap) (locs : List Loc), va_P (dC, dI) vwCl [(h_t, .inr (8, fX10 h_t_book h_t_images h_t_kept h_t_aside h_t_far h_t_then h_t_row h_t_mays h_t_firstRow h_t_low h_t_high t_noOlder t_thanThis t_known t_knownAge t_moved h_t_lowOne h_t_highOne h_t_ways t_met h_t_left t_hours t_greatest h_t_text t_typed t_at t_start t_token t_value h_t_verbs h_t_nums t_items)), (h_t_book, .inl (cI, 460, .inl t_book)), (h_t_mays, .inl (cI, 10, .inl y12)), (h_t_row, .inl (cI, 10, .inl y75)), (h_t_firstRow, .inl (cI, 10, .inl y74))] H → va_D A [(h_t, .inr (8, fX10 h_t_book h_t_images h_t_kept h_t_aside h_t_far h_t_then h_t_row h_t_mays h_t_firstRow h_t_low h_t_high t_noOlder t_thanThis t_known t_knownAge t_moved h_t_lowOne h_t_highOne h_t_ways t_met h_t_left t_hours t_greatest h_t_text t_typed t_at t_start t_token t_value h_t_verbs h_t_nums t_items)), (h_t_book, .inl (cI, 460, .inl t_book)), (h_t_mays, .inl (cI, 10, .inl y12)), (h_t_row, .inl (cI, 10, .inl y75)), (h_t_firstRow, .inl (cI, 10, .inl y74))] → va_S A s.heap H locs → ∀ ls : Array Slot, lv_has ls 5 [(2, .int x76)] → W p l e rmX10_lays s m args below meth c H locs 0 0 Q (F0 m 149 ls [])) → ∀ (H : Heap) (locs : List Loc), va_P (dC, dI) vwCl [(h_t, .inr (8, fX10 h_t_book h_t_images h_t_kept h_t_aside h_t_far h_t_then h_t_row h_t_mays h_t_firstRow h_t_low h_t_high t_noOlder t_thanThis t_known t_knownAge t_moved h_t_lowOne h_t_highOne h_t_ways t_met h_t_left t_hours t_greatest h_t_text t_typed t_at t_start t_token t_value h_t_verbs h_t_nums t_items)), (h_t_book, .inl (cI, 460, .inl t_book)), (h_t_mays, .inl (cI, 10, .inl y12)), (h_t_row, .inl (cI, 10, .inl y78)), (h_t_firstRow, .inl (cI, 10, .inl y77))] H → va_D A [(h_t, .inr (8, fX10 h_t_book h_t_images h_t_kept h_t_aside h_t_far h_t_then h_t_row h_t_mays h_t_firstRow h_t_low h_t_high t_noOlder t_thanThis t_known t_knownAge t_moved h_t_lowOne h_t_highOne h_t_ways t_met h_t_left t_hours t_greatest h_t_text t_typed t_at t_start t_token t_value h_t_verbs h_t_nums t_items)), (h_t_book, .inl (cI, 460, .inl t_book)), (h_t_mays, .inl (cI, 10, .inl y12)), (h_t_row, .inl (cI, 10, .inl y78)), (h_t_firstRow, .inl (cI, 10, .inl y77))] → va_S A s.heap H locs → ∀ ls : Array Slot, lv_has ls 5 [(0, .ref h_t), (1, .int x2), (2, .int x79), (3, .int x80)] → W p l e rmX10_lays s m args below meth c H locs 0 0 Q (F0 m 52 ls []) := by
        intro fu82
        induction fu82 with
        | zero =>
          intro y77 y78 x79 x80 y74 y75 x76 hf
          unfold f_X10_lays_L4 at hf
          exact none_ne hf
        | succ fu82 ih81 =>
          intro y77 y78 x79 x80 y74 y75 x76 hf hX83 H locs hP hD hS ls hl
          unfold f_X10_lays_L4 at hf
          refine lv_iload_n hx hb dX10_lays_52 rfl (lv_at hl 3 rfl) ?_
          refine lv_if_lt (tgt := 149) hx hb dX10_lays_53 (by decide) (fun c84 => ?_) (fun c84 => ?_)
          · replace hf := ifp c84 hf
            obtain ⟨rfl, rfl, rfl⟩ := inj3 hf
            exact hX83 _ _ hP hD hS _ (lv_sub hl [2] rfl)
          · replace hf := ifn c84 hf
            refine lv_aload_n hx hb dX10_lays_56 rfl (lv_at hl 0 rfl) ?_
            refine va_get (D := (dC, dI)) (ci := 8) (v := .ref h_t_row) (C := RX10) (T := TX10) (N := 32) hx hb hts (in1 tw_X10) hown hK hP 0 rfl rfl 6 (by decide) (hts _ (List.mem_cons_of_mem _ kw_123)) (fun _ h9 => h9) rfl dX10_lays_57 ?_
            refine lv_iload_n hx hb dX10_lays_60 rfl (lv_at hl 3 rfl) ?_
            refine lv_dup2_11 hx hb dX10_lays_61 rfl rfl ?_
            obtain ⟨g85, hf⟩ := chk_some hf
            refine va_iald hx hb hK hP 3 0 rfl rfl (gin_in g85) dX10_lays_62 ?_
            refine lv_iconst (v := (1 : Int32)) hx hb dX10_lays_63 (by decide) ?_
            refine lv_iadd hx hb dX10_lays_64 ?_
            obtain ⟨x86, e87, hf⟩ := nm_some hf
            refine lv_tope e87 ?_
            obtain ⟨g88, hf⟩ := chk_some hf
            obtain ⟨y89, e90, hf⟩ := nm_some hf
            refine va_iast hx hb hK hP hD hS 3 0 rfl rfl (gin_in g88) dX10_lays_65 (fun H locs hP hD hS => ?_)
            have hP : va_P (dC, dI) vwCl [(h_t, .inr (8, fX10 h_t_book h_t_images h_t_kept h_t_aside h_t_far h_t_then h_t_row h_t_mays h_t_firstRow h_t_low h_t_high t_noOlder t_thanThis t_known t_knownAge t_moved h_t_lowOne h_t_highOne h_t_ways t_met h_t_left t_hours t_greatest h_t_text t_typed t_at t_start t_token t_value h_t_verbs h_t_nums t_items)), (h_t_book, .inl (cI, 460, .inl t_book)), (h_t_mays, .inl (cI, 10, .inl y12)), (h_t_row, .inl (cI, 10, .inl y89)), (h_t_firstRow, .inl (cI, 10, .inl y77))] H := by rw [e90]; exact hP
            have hD : va_D A [(h_t, .inr (8, fX10 h_t_book h_t_images h_t_kept h_t_aside h_t_far h_t_then h_t_row h_t_mays h_t_firstRow h_t_low h_t_high t_noOlder t_thanThis t_known t_knownAge t_moved h_t_lowOne h_t_highOne h_t_ways t_met h_t_left t_hours t_greatest h_t_text t_typed t_at t_start t_token t_value h_t_verbs h_t_nums t_items)), (h_t_book, .inl (cI, 460, .inl t_book)), (h_t_mays, .inl (cI, 10, .inl y12)), (h_t_row, .inl (cI, 10, .inl y89)), (h_t_firstRow, .inl (cI, 10, .inl y77))] := by rw [e90]; exact hD
            refine lv_aload_n hx hb dX10_lays_66 rfl (lv_at hl 0 rfl) ?_
            refine va_get (D := (dC, dI)) (ci := 8) (v := .ref h_t_row) (C := RX10) (T := TX10) (N := 32) hx hb hts (in1 tw_X10) hown hK hP 0 rfl rfl 6 (by decide) (hts _ (List.mem_cons_of_mem _ kw_123)) (fun _ h9 => h9) rfl dX10_lays_67 ?_
            refine lv_iload_n hx hb dX10_lays_70 rfl (lv_at hl 3 rfl) ?_
            obtain ⟨g91, hf⟩ := chk_some hf
            refine va_iald hx hb hK hP 3 0 rfl rfl (gin_in g91) dX10_lays_71 ?_
            refine lv_iconst (v := (3 : Int32)) hx hb dX10_lays_72 (by decide) ?_
            refine lv_icmp_ne (tgt := 82) hx hb dX10_lays_73 (by decide) (fun c92 => ?_) (fun c92 => ?_)
            · replace hf := ifn c92 hf
              refine lv_aload_n hx hb dX10_lays_82 rfl (lv_at hl 0 rfl) ?_
              refine lv_iload_n hx hb dX10_lays_83 rfl (lv_at hl 3 rfl) ?_
              obtain ⟨r93, hg94, hf⟩ := bd1_some hf
              refine CM_callV (C := RX10) (As := [.int x80]) (rest := []) (wc := [(h_t, .inr (8, fX10 h_t_book h_t_images h_t_kept h_t_aside h_t_far h_t_then h_t_row h_t_mays h_t_firstRow h_t_low h_t_high t_noOlder t_thanThis t_known t_knownAge t_moved h_t_lowOne h_t_highOne h_t_ways t_met h_t_left t_hours t_greatest h_t_text t_typed t_at t_start t_token t_value h_t_verbs h_t_nums t_items)), (h_t_mays, .inl (cI, 10, .inl y12)), (h_t_row, .inl (cI, 10, .inl y89)), (h_t_book, .inl (cI, 460, .inl t_book))]) (w1 := [(h_t, .inr (8, fX10 h_t_book h_t_images h_t_kept h_t_aside h_t_far h_t_then h_t_row h_t_mays h_t_firstRow h_t_low h_t_high t_noOlder t_thanThis t_known t_knownAge t_moved h_t_lowOne h_t_highOne h_t_ways t_met h_t_left t_hours t_greatest h_t_text t_typed t_at t_start t_token t_value h_t_verbs h_t_nums t_items)), (h_t_mays, .inl (cI, 10, .inl y12)), (h_t_row, .inl (cI, 10, .inl y89)), (h_t_book, .inl (cI, 460, .inl t_book))]) (wr := [(h_t_firstRow, .inl (cI, 10, .inl y77))]) (wo := [(h_t, .inr (8, fX10 h_t_book h_t_images h_t_kept h_t_aside h_t_far h_t_then h_t_row h_t_mays h_t_firstRow h_t_low h_t_high t_noOlder t_thanThis t_known t_knownAge t_moved h_t_lowOne h_t_highOne h_t_ways t_met h_t_left t_hours t_greatest h_t_text t_typed t_at t_start t_token t_value h_t_verbs h_t_nums t_items)), (h_t_book, .inl (cI, 460, .inl t_book)), (h_t_mays, .inl (cI, 10, .inl y12)), (h_t_row, .inl (cI, 10, .inl y89)), (h_t_firstRow, .inl (cI, 10, .inl y77))]) (v := (some (.int r93))) ⟨hx, hb, hml, hown, hts⟩ (c_X10_isLaid l dC dI cI cZ te h_t h_t_book h_t_images h_t_kept h_t_aside h_t_far h_t_then h_t_row h_t_mays h_t_firstRow h_t_low h_t_high h_t_lowOne h_t_highOne h_t_ways h_t_left h_t_text h_t_verbs h_t_nums t_noOlder t_thanThis t_known t_knownAge t_moved t_met t_hours t_greatest t_typed t_at t_start t_token t_value t_items y12 y89 t_book x80 r93 hg94) (cwV 1 hts (gV kw_221 kw_222 kw_223 kw_159 kw_224) rfl rfl rfl (by decide +kernel) ⟨Nat.le_of_ble_eq_true rfl, Nat.le_of_ble_eq_true rfl⟩) (kS_env te) hK hP hD hS hA hE [0, 2, 3, 1] [4] [1, 4, 2, 3, 0] rfl rfl (by decide) (by decide) (by decide) (by decide) rfl 0 8 rfl rfl rfl rfl hl.1 rfl (Nat.le_of_ble_eq_true rfl) dX10_lays_84 ⟨Nat.zero_le _, Nat.zero_le _⟩ (fun H locs hP hD hS => ?_)
              show W p l e rmX10_lays s m args below meth c H locs 0 0 Q (F0 m 87 ls [.int r93])
              refine lv_if_eq (tgt := 52) hx hb dX10_lays_87 (by decide) (fun c95 => ?_) (fun c95 => ?_)
              · replace hf := ifp c95 hf
                exact ih81 _ _ _ _ _ _ _ hf hX83 _ _ hP hD hS _ (lv_sub hl [0, 1, 2, 3] rfl)
              · replace hf := ifn c95 hf
                refine lv_iload_n hx hb dX10_lays_90 rfl (lv_at hl 3 rfl) ?_
                refine lv_iconst (v := (1 : Int32)) hx hb dX10_lays_91 (by decide) ?_
                refine lv_iadd hx hb dX10_lays_92 ?_
                refine lv_iload_n hx hb dX10_lays_93 rfl (lv_at hl 1 rfl) ?_
                refine lv_icmp_ge (tgt := 110) hx hb dX10_lays_94 (by decide) (fun c96 => ?_) (fun c96 => ?_)
                · replace hf := ifp c96 hf
                  refine lv_iconst (v := (0 : Int32)) hx hb dX10_lays_110 (by decide) ?_
                  refine lv_istore (lv' := [(4, .int (0 : Int32)), (0, .ref h_t), (1, .int x2), (2, .int x79), (3, .int x80)]) hx hb dX10_lays_111 hl (by decide) rfl (fun ls hl => ?_)
                  have L121 : ∀ (fu111 : Nat) (y108 : Nat → Int32) (x109 : Int32) (y107 : Nat → Int32), f_X10_lays_L5 x2 x79 y89 fu111 y108 x109 = some y107 → (∀ (H : Heap) (locs : List Loc), va_P (dC, dI) vwCl [(h_t, .inr (8, fX10 h_t_book h_t_images h_t_kept h_t_aside h_t_far h_t_then h_t_row h_t_mays h_t_firstRow h_t_low h_t_high t_noOlder t_thanThis t_known t_knownAge t_moved h_t_lowOne h_t_highOne h_t_ways t_met h_t_left t_hours t_greatest h_t_text t_typed t_at t_start t_token t_value h_t_verbs h_t_nums t_items)), (h_t_book, .inl (cI, 460, .inl t_book)), (h_t_mays, .inl (cI, 10, .inl y12)), (h_t_row, .inl (cI, 10, .inl y89)), (h_t_firstRow, .inl (cI, 10, .inl y107))] H → va_D A [(h_t, .inr (8, fX10 h_t_book h_t_images h_t_kept h_t_aside h_t_far h_t_then h_t_row h_t_mays h_t_firstRow h_t_low h_t_high t_noOlder t_thanThis t_known t_knownAge t_moved h_t_lowOne h_t_highOne h_t_ways t_met h_t_left t_hours t_greatest h_t_text t_typed t_at t_start t_token t_value h_t_verbs h_t_nums t_items)), (h_t_book, .inl (cI, 460, .inl t_book)), (h_t_mays, .inl (cI, 10, .inl y12)), (h_t_row, .inl (cI, 10, .inl y89)), (h_t_firstRow, .inl (cI, 10, .inl y107))] → va_S A s.heap H locs → ∀ ls : Array Slot, lv_has ls 5 [(0, .ref h_t), (1, .int x2), (2, .int x79), (3, .int x80)] → W p l e rmX10_lays s m args below meth c H locs 0 0 Q (F0 m 143 ls [])) → ∀ (H : Heap) (locs : List Loc), va_P (dC, dI) vwCl [(h_t, .inr (8, fX10 h_t_book h_t_images h_t_kept h_t_aside h_t_far h_t_then h_t_row h_t_mays h_t_firstRow h_t_low h_t_high t_noOlder t_thanThis t_known t_knownAge t_moved h_t_lowOne h_t_highOne h_t_ways t_met h_t_left t_hours t_greatest h_t_text t_typed t_at t_start t_token t_value h_t_verbs h_t_nums t_items)), (h_t_book, .inl (cI, 460, .inl t_book)), (h_t_mays, .inl (cI, 10, .inl y12)), (h_t_row, .inl (cI, 10, .inl y89)), (h_t_firstRow, .inl (cI, 10, .inl y108))] H → va_D A [(h_t, .inr (8, fX10 h_t_book h_t_images h_t_kept h_t_aside h_t_far h_t_then h_t_row h_t_mays h_t_firstRow h_t_low h_t_high t_noOlder t_thanThis t_known t_knownAge t_moved h_t_lowOne h_t_highOne h_t_ways t_met h_t_left t_hours t_greatest h_t_text t_typed t_at t_start t_token t_value h_t_verbs h_t_nums t_items)), (h_t_book, .inl (cI, 460, .inl t_book)), (h_t_mays, .inl (cI, 10, .inl y12)), (h_t_row, .inl (cI, 10, .inl y89)), (h_t_firstRow, .inl (cI, 10, .inl y108))] → va_S A s.heap H locs → ∀ ls : Array Slot, lv_has ls 5 [(0, .ref h_t), (1, .int x2), (2, .int x79), (3, .int x80), (4, .int x109)] → W p l e rmX10_lays s m args below meth c H locs 0 0 Q (F0 m 113 ls []) := by
                    intro fu111
                    induction fu111 with
                    | zero =>
                      intro y108 x109 y107 hf
                      unfold f_X10_lays_L5 at hf
                      exact none_ne hf
                    | succ fu111 ih110 =>
                      intro y108 x109 y107 hf hX112 H locs hP hD hS ls hl
                      unfold f_X10_lays_L5 at hf
                      refine lv_iload hx hb dX10_lays_113 (lv_at hl 4 rfl) ?_
                      refine lv_iload_n hx hb dX10_lays_115 rfl (lv_at hl 1 rfl) ?_
                      refine lv_icmp_ge (tgt := 143) hx hb dX10_lays_116 (by decide) (fun c113 => ?_) (fun c113 => ?_)
                      · replace hf := ifp c113 hf
                        obtain rfl := inj1 hf
                        exact hX112 _ _ hP hD hS _ (lv_sub hl [0, 1, 2, 3] rfl)
                      · replace hf := ifn c113 hf
                        refine lv_iload_n hx hb dX10_lays_119 rfl (lv_at hl 2 rfl) ?_
                        refine lv_if_ne (tgt := 143) hx hb dX10_lays_120 (by decide) (fun c114 => ?_) (fun c114 => ?_)
                        · replace hf := ifn c114 hf
                          obtain rfl := inj1 hf
                          exact hX112 _ _ hP hD hS _ (lv_sub hl [0, 1, 2, 3] rfl)
                        · replace hf := ifp c114 hf
                          refine lv_aload_n hx hb dX10_lays_123 rfl (lv_at hl 0 rfl) ?_
                          refine va_get (D := (dC, dI)) (ci := 8) (v := .ref h_t_firstRow) (C := RX10) (T := TX10) (N := 32) hx hb hts (in1 tw_X10) hown hK hP 0 rfl rfl 8 (by decide) (hts _ (List.mem_cons_of_mem _ kw_125)) (fun _ h9 => h9) rfl dX10_lays_124 ?_
                          refine lv_iload hx hb dX10_lays_127 (lv_at hl 4 rfl) ?_
                          refine lv_aload_n hx hb dX10_lays_129 rfl (lv_at hl 0 rfl) ?_
                          refine va_get (D := (dC, dI)) (ci := 8) (v := .ref h_t_row) (C := RX10) (T := TX10) (N := 32) hx hb hts (in1 tw_X10) hown hK hP 0 rfl rfl 6 (by decide) (hts _ (List.mem_cons_of_mem _ kw_123)) (fun _ h9 => h9) rfl dX10_lays_130 ?_
                          refine lv_iload hx hb dX10_lays_133 (lv_at hl 4 rfl) ?_
                          obtain ⟨g115, hf⟩ := chk_some hf
                          refine va_iald hx hb hK hP 3 0 rfl rfl (gin_in g115) dX10_lays_135 ?_
                          obtain ⟨x116, e117, hf⟩ := nm_some hf
                          refine lv_tope e117 ?_
                          obtain ⟨g118, hf⟩ := chk_some hf
                          obtain ⟨y119, e120, hf⟩ := nm_some hf
                          refine va_iast hx hb hK hP hD hS 4 0 rfl rfl (gin_in g118) dX10_lays_136 (fun H locs hP hD hS => ?_)
                          have hP : va_P (dC, dI) vwCl [(h_t, .inr (8, fX10 h_t_book h_t_images h_t_kept h_t_aside h_t_far h_t_then h_t_row h_t_mays h_t_firstRow h_t_low h_t_high t_noOlder t_thanThis t_known t_knownAge t_moved h_t_lowOne h_t_highOne h_t_ways t_met h_t_left t_hours t_greatest h_t_text t_typed t_at t_start t_token t_value h_t_verbs h_t_nums t_items)), (h_t_book, .inl (cI, 460, .inl t_book)), (h_t_mays, .inl (cI, 10, .inl y12)), (h_t_row, .inl (cI, 10, .inl y89)), (h_t_firstRow, .inl (cI, 10, .inl y119))] H := by rw [e120]; exact hP
                          have hD : va_D A [(h_t, .inr (8, fX10 h_t_book h_t_images h_t_kept h_t_aside h_t_far h_t_then h_t_row h_t_mays h_t_firstRow h_t_low h_t_high t_noOlder t_thanThis t_known t_knownAge t_moved h_t_lowOne h_t_highOne h_t_ways t_met h_t_left t_hours t_greatest h_t_text t_typed t_at t_start t_token t_value h_t_verbs h_t_nums t_items)), (h_t_book, .inl (cI, 460, .inl t_book)), (h_t_mays, .inl (cI, 10, .inl y12)), (h_t_row, .inl (cI, 10, .inl y89)), (h_t_firstRow, .inl (cI, 10, .inl y119))] := by rw [e120]; exact hD
                          refine lv_iinc (v := (x109 + (1 : Int32))) (lv' := [(4, .int (x109 + (1 : Int32))), (0, .ref h_t), (1, .int x2), (2, .int x79), (3, .int x80)]) hx hb dX10_lays_137 hl (k := 4) rfl rfl (by decide) rfl (fun ls hl => ?_)
                          refine lv_goto (tgt := 113) hx hb dX10_lays_140 (by decide) ?_
                          exact ih110 _ _ _ hf hX112 _ _ hP hD hS _ (lv_sub hl [1, 2, 3, 4, 0] rfl)
                  obtain ⟨y107, hg, hf⟩ := bd1_some hf
                  refine L121 FU _ _ _ hg ?_ _ _ hP hD hS _ (lv_sub hl [1, 2, 3, 4, 0] rfl)
                  · intro H locs hP hD hS ls hl
                    refine lv_iinc (v := (x79 + (1 : Int32))) (lv' := [(2, .int (x79 + (1 : Int32))), (0, .ref h_t), (1, .int x2), (3, .int x80)]) hx hb dX10_lays_143 hl (k := 2) rfl rfl (by decide) rfl (fun ls hl => ?_)
                    refine lv_goto (tgt := 52) hx hb dX10_lays_146 (by decide) ?_
                    exact ih81 _ _ _ _ _ _ _ hf hX83 _ _ hP hD hS _ (lv_sub hl [1, 2, 0, 3] rfl)
                · replace hf := ifn c96 hf
                  refine lv_iinc (v := (x80 + (1 : Int32))) (lv' := [(3, .int (x80 + (1 : Int32))), (0, .ref h_t), (1, .int x2), (2, .int x79)]) hx hb dX10_lays_97 hl (k := 3) rfl rfl (by decide) rfl (fun ls hl => ?_)
                  refine lv_aload_n hx hb dX10_lays_100 rfl (lv_at hl 1 rfl) ?_
                  refine va_get (D := (dC, dI)) (ci := 8) (v := .ref h_t_row) (C := RX10) (T := TX10) (N := 32) hx hb hts (in1 tw_X10) hown hK hP 0 rfl rfl 6 (by decide) (hts _ (List.mem_cons_of_mem _ kw_123)) (fun _ h9 => h9) rfl dX10_lays_101 ?_
                  refine lv_iload_n hx hb dX10_lays_104 rfl (lv_at hl 0 rfl) ?_
                  refine lv_iconst (v := (-1 : Int32)) hx hb dX10_lays_105 (by decide) ?_
                  obtain ⟨g122, hf⟩ := chk_some hf
                  obtain ⟨y123, e124, hf⟩ := nm_some hf
                  refine va_iast hx hb hK hP hD hS 3 0 rfl rfl (gin_in g122) dX10_lays_106 (fun H locs hP hD hS => ?_)
                  have hP : va_P (dC, dI) vwCl [(h_t, .inr (8, fX10 h_t_book h_t_images h_t_kept h_t_aside h_t_far h_t_then h_t_row h_t_mays h_t_firstRow h_t_low h_t_high t_noOlder t_thanThis t_known t_knownAge t_moved h_t_lowOne h_t_highOne h_t_ways t_met h_t_left t_hours t_greatest h_t_text t_typed t_at t_start t_token t_value h_t_verbs h_t_nums t_items)), (h_t_book, .inl (cI, 460, .inl t_book)), (h_t_mays, .inl (cI, 10, .inl y12)), (h_t_row, .inl (cI, 10, .inl y123)), (h_t_firstRow, .inl (cI, 10, .inl y77))] H := by rw [e124]; exact hP
                  have hD : va_D A [(h_t, .inr (8, fX10 h_t_book h_t_images h_t_kept h_t_aside h_t_far h_t_then h_t_row h_t_mays h_t_firstRow h_t_low h_t_high t_noOlder t_thanThis t_known t_knownAge t_moved h_t_lowOne h_t_highOne h_t_ways t_met h_t_left t_hours t_greatest h_t_text t_typed t_at t_start t_token t_value h_t_verbs h_t_nums t_items)), (h_t_book, .inl (cI, 460, .inl t_book)), (h_t_mays, .inl (cI, 10, .inl y12)), (h_t_row, .inl (cI, 10, .inl y123)), (h_t_firstRow, .inl (cI, 10, .inl y77))] := by rw [e124]; exact hD
                  refine lv_goto (tgt := 52) hx hb dX10_lays_107 (by decide) ?_
                  exact ih81 _ _ _ _ _ _ _ hf hX83 _ _ hP hD hS _ (lv_sub hl [1, 2, 3, 0] rfl)
            · replace hf := ifp c92 hf
              refine lv_iinc (v := (x80 + (-1 : Int32))) (lv' := [(3, .int (x80 + (-1 : Int32))), (0, .ref h_t), (1, .int x2), (2, .int x79)]) hx hb dX10_lays_76 hl (k := 3) rfl rfl (by decide) rfl (fun ls hl => ?_)
              refine lv_goto (tgt := 52) hx hb dX10_lays_79 (by decide) ?_
              exact ih81 _ _ _ _ _ _ _ hf hX83 _ _ hP hD hS _ (lv_sub hl [1, 2, 3, 0] rfl)
      obtain ⟨y74, y75, x76, hg, hf⟩ := bd3_some hf
      refine L125 FU _ _ _ _ _ _ _ hg ?_ _ _ hP hD hS _ (lv_sub hl [0, 1, 2, 3] rfl)
      · intro H locs hP hD hS ls hl
        refine lv_iload_n hx hb dX10_lays_149 rfl (lv_at hl 0 rfl) ?_
        obtain ⟨rfl, rfl, rfl, rfl⟩ := inj4 hf
        subst hQ
        exact CM_iret hx hb hr rfl hlocks hAe hP hD hS dX10_lays_150
    · replace hf := ifp c25 hf
      refine lv_iconst (v := (1 : Int32)) hx hb dX10_lays_43 (by decide) ?_
      obtain ⟨rfl, rfl, rfl, rfl⟩ := inj4 hf
      subst hQ
      exact CM_iret hx hb hr rfl hlocks hAe hP hD hS dX10_lays_44
def rmX10_laid : Room := { frames := 5, cells := 0, slots := 0, locals := 123 }
abbrev wqX10_laid : List Cond := Cond.code yX10_laid cX10_laid 3 (some .int) :: tG
set_option maxHeartbeats 4000000 in
set_option maxRecDepth 100000 in
theorem c_X10_laid (l : Launch) (dC : Nat → ClassId) (dI : Nat → Nat → Nat) (cI cZ : ClassId) (te : Nat → Nat) (h_t : Nat) (h_t_book : Nat) (h_t_images : Nat) (h_t_kept : Nat) (h_t_aside : Nat) (h_t_far : Nat) (h_t_then : Nat) (h_t_row : Nat) (h_t_mays : Nat) (h_t_firstRow : Nat) (h_t_low : Nat) (h_t_high : Nat) (h_t_lowOne : Nat) (h_t_highOne : Nat) (h_t_ways : Nat) (h_t_left : Nat) (h_t_text : Nat) (h_t_verbs : Nat) (h_t_nums : Nat) (t_noOlder : Int32) (t_thanThis : Int32) (t_known : Int32) (t_knownAge : Int32) (t_moved : Int32) (t_met : Int32) (t_hours : Int32) (t_greatest : Int32) (t_typed : Int32) (t_at : Int32) (t_start : Int32) (t_token : Int32) (t_value : Int32) (t_items : Int32) (t_book : Nat → Int32) (t_mays : Nat → Int32) (t_row : Nat → Int32) (t_firstRow : Nat → Int32) (p1 : Int32) (o0 : Int32) (o1 : Nat → Int32) (o2 : Nat → Int32) (o3 : Nat → Int32) (hf : f_X10_laid t_book t_mays t_row t_firstRow p1 = some (o0, o1, o2, o3)) : CM l yX10_laid wqX10_laid rmX10_laid (kS te) dC dI cI cZ [.ref h_t, .int p1] [(h_t, .inr (8, fX10 h_t_book h_t_images h_t_kept h_t_aside h_t_far h_t_then h_t_row h_t_mays h_t_firstRow h_t_low h_t_high t_noOlder t_thanThis t_known t_knownAge t_moved h_t_lowOne h_t_highOne h_t_ways t_met h_t_left t_hours t_greatest h_t_text t_typed t_at t_start t_token t_value h_t_verbs h_t_nums t_items)), (h_t_book, .inl (cI, 460, .inl t_book)), (h_t_mays, .inl (cI, 10, .inl t_mays)), (h_t_row, .inl (cI, 10, .inl t_row)), (h_t_firstRow, .inl (cI, 10, .inl t_firstRow))] [(h_t, .inr (8, fX10 h_t_book h_t_images h_t_kept h_t_aside h_t_far h_t_then h_t_row h_t_mays h_t_firstRow h_t_low h_t_high t_noOlder t_thanThis t_known t_knownAge t_moved h_t_lowOne h_t_highOne h_t_ways t_met h_t_left t_hours t_greatest h_t_text t_typed t_at t_start t_token t_value h_t_verbs h_t_nums t_items)), (h_t_book, .inl (cI, 460, .inl t_book)), (h_t_mays, .inl (cI, 10, .inl o1)), (h_t_row, .inl (cI, 10, .inl o2)), (h_t_firstRow, .inl (cI, 10, .inl o3))] (some (.int o0)) := by
  refine CM_of (cc := cX10_laid) (maxL := 3) (ret := (some .int)) (by decide +kernel) rfl (Nat.le_of_ble_eq_true rfl) ?_
  intro p e s m args below meth c A Q hx hb hr hml hown hts hlocks hA hK hP hD hS hE hQ hAe ls hl
  have hown : s.vm.findClass RX10 = some m.cls := hown
  have hl : lv_has ls 3 [(0, .ref h_t), (1, .int p1)] := hl
  unfold f_X10_laid at hf
  refine lv_iload_n hx hb dX10_laid_0 rfl (lv_at hl 1 rfl) ?_
  refine lv_iconst (v := (-1 : Int32)) hx hb dX10_laid_1 (by decide) ?_
  refine lv_icmp_eq (tgt := 17) hx hb dX10_laid_2 (by decide) (fun c1 => ?_) (fun c1 => ?_)
  · replace hf := ifp c1 hf
    refine lv_aload_n hx hb dX10_laid_17 rfl (lv_at hl 0 rfl) ?_
    obtain ⟨r2, y3, y4, y5, hg6, hf⟩ := bd4_some hf
    refine CM_callV (C := RX10) (As := []) (rest := []) (wc := [(h_t, .inr (8, fX10 h_t_book h_t_images h_t_kept h_t_aside h_t_far h_t_then h_t_row h_t_mays h_t_firstRow h_t_low h_t_high t_noOlder t_thanThis t_known t_knownAge t_moved h_t_lowOne h_t_highOne h_t_ways t_met h_t_left t_hours t_greatest h_t_text t_typed t_at t_start t_token t_value h_t_verbs h_t_nums t_items)), (h_t_book, .inl (cI, 460, .inl t_book)), (h_t_mays, .inl (cI, 10, .inl t_mays)), (h_t_row, .inl (cI, 10, .inl t_row)), (h_t_firstRow, .inl (cI, 10, .inl t_firstRow))]) (w1 := [(h_t, .inr (8, fX10 h_t_book h_t_images h_t_kept h_t_aside h_t_far h_t_then h_t_row h_t_mays h_t_firstRow h_t_low h_t_high t_noOlder t_thanThis t_known t_knownAge t_moved h_t_lowOne h_t_highOne h_t_ways t_met h_t_left t_hours t_greatest h_t_text t_typed t_at t_start t_token t_value h_t_verbs h_t_nums t_items)), (h_t_book, .inl (cI, 460, .inl t_book)), (h_t_mays, .inl (cI, 10, .inl y3)), (h_t_row, .inl (cI, 10, .inl y4)), (h_t_firstRow, .inl (cI, 10, .inl y5))]) (wr := []) (wo := [(h_t, .inr (8, fX10 h_t_book h_t_images h_t_kept h_t_aside h_t_far h_t_then h_t_row h_t_mays h_t_firstRow h_t_low h_t_high t_noOlder t_thanThis t_known t_knownAge t_moved h_t_lowOne h_t_highOne h_t_ways t_met h_t_left t_hours t_greatest h_t_text t_typed t_at t_start t_token t_value h_t_verbs h_t_nums t_items)), (h_t_book, .inl (cI, 460, .inl t_book)), (h_t_mays, .inl (cI, 10, .inl y3)), (h_t_row, .inl (cI, 10, .inl y4)), (h_t_firstRow, .inl (cI, 10, .inl y5))]) (v := (some (.int r2))) ⟨hx, hb, hml, hown, hts⟩ (c_X10_lays l dC dI cI cZ te h_t h_t_book h_t_images h_t_kept h_t_aside h_t_far h_t_then h_t_row h_t_mays h_t_firstRow h_t_low h_t_high h_t_lowOne h_t_highOne h_t_ways h_t_left h_t_text h_t_verbs h_t_nums t_noOlder t_thanThis t_known t_knownAge t_moved t_met t_hours t_greatest t_typed t_at t_start t_token t_value t_items t_book t_mays t_row t_firstRow r2 y3 y4 y5 hg6) (cwV 0 hts (gV kw_225 kw_226 kw_227 kw_159 kw_228) rfl rfl rfl (by decide +kernel) ⟨Nat.le_of_ble_eq_true rfl, Nat.le_of_ble_eq_true rfl⟩) (kS_env te) hK hP hD hS hA hE [0, 1, 2, 3, 4] [] [0, 1, 2, 3, 4] rfl rfl (by decide) (by decide) (by decide) (by decide) rfl 0 8 rfl rfl rfl rfl hl.1 rfl (Nat.le_of_ble_eq_true rfl) dX10_laid_18 ⟨Nat.zero_le _, Nat.zero_le _⟩ (fun H locs hP hD hS => ?_)
    show W p l e rmX10_laid s m args below meth c H locs 0 0 Q (F0 m 21 ls [.int r2])
    refine lv_istore_n (lv' := [(2, .int r2), (0, .ref h_t), (1, .int p1)]) hx hb dX10_laid_21 rfl hl (by decide) rfl (fun ls hl => ?_)
    refine lv_iload_n hx hb dX10_laid_22 rfl (lv_at hl 2 rfl) ?_
    refine lv_iconst (v := (-1 : Int32)) hx hb dX10_laid_23 (by decide) ?_
    refine lv_icmp_ne (tgt := 31) hx hb dX10_laid_24 (by decide) (fun c7 => ?_) (fun c7 => ?_)
    · replace hf := ifn c7 hf
      refine lv_iload_n hx hb dX10_laid_31 rfl (lv_at hl 0 rfl) ?_
      refine lv_if_ne (tgt := 39) hx hb dX10_laid_32 (by decide) (fun c8 => ?_) (fun c8 => ?_)
      · replace hf := ifn c8 hf
        refine lv_aload_n hx hb dX10_laid_39 rfl (lv_at hl 1 rfl) ?_
        refine va_get (D := (dC, dI)) (ci := 8) (v := .ref h_t_firstRow) (C := RX10) (T := TX10) (N := 32) hx hb hts (in1 tw_X10) hown hK hP 0 rfl rfl 8 (by decide) (hts _ (List.mem_cons_of_mem _ kw_125)) (fun _ h9 => h9) rfl dX10_laid_40 ?_
        refine lv_iload_n hx hb dX10_laid_43 rfl (lv_at hl 2 rfl) ?_
        obtain ⟨g9, hf⟩ := chk_some hf
        refine va_iald hx hb hK hP 4 0 rfl rfl (gin_in g9) dX10_laid_44 ?_
        obtain ⟨rfl, rfl, rfl, rfl⟩ := inj4 hf
        subst hQ
        exact CM_iret hx hb hr rfl hlocks hAe hP hD hS dX10_laid_45
      · replace hf := ifp c8 hf
        refine lv_iconst (v := (-1 : Int32)) hx hb dX10_laid_35 (by decide) ?_
        refine lv_goto (tgt := 45) hx hb dX10_laid_36 (by decide) ?_
        obtain ⟨rfl, rfl, rfl, rfl⟩ := inj4 hf
        subst hQ
        exact CM_iret hx hb hr rfl hlocks hAe hP hD hS dX10_laid_45
    · replace hf := ifp c7 hf
      refine lv_iload_n hx hb dX10_laid_27 rfl (lv_at hl 0 rfl) ?_
      refine lv_goto (tgt := 45) hx hb dX10_laid_28 (by decide) ?_
      obtain ⟨rfl, rfl, rfl, rfl⟩ := inj4 hf
      subst hQ
      exact CM_iret hx hb hr rfl hlocks hAe hP hD hS dX10_laid_45
  · replace hf := ifn c1 hf
    refine lv_aload_n hx hb dX10_laid_5 rfl (lv_at hl 0 rfl) ?_
    refine lv_iconst (v := (2 : Int32)) hx hb dX10_laid_6 (by decide) ?_
    refine lv_iload_n hx hb dX10_laid_7 rfl (lv_at hl 1 rfl) ?_
    obtain ⟨r10, hg11, hf⟩ := bd1_some hf
    refine CM_callV (C := RX10) (As := [.int (2 : Int32), .int p1]) (rest := []) (wc := [(h_t, .inr (8, fX10 h_t_book h_t_images h_t_kept h_t_aside h_t_far h_t_then h_t_row h_t_mays h_t_firstRow h_t_low h_t_high t_noOlder t_thanThis t_known t_knownAge t_moved h_t_lowOne h_t_highOne h_t_ways t_met h_t_left t_hours t_greatest h_t_text t_typed t_at t_start t_token t_value h_t_verbs h_t_nums t_items)), (h_t_book, .inl (cI, 460, .inl t_book))]) (w1 := [(h_t, .inr (8, fX10 h_t_book h_t_images h_t_kept h_t_aside h_t_far h_t_then h_t_row h_t_mays h_t_firstRow h_t_low h_t_high t_noOlder t_thanThis t_known t_knownAge t_moved h_t_lowOne h_t_highOne h_t_ways t_met h_t_left t_hours t_greatest h_t_text t_typed t_at t_start t_token t_value h_t_verbs h_t_nums t_items)), (h_t_book, .inl (cI, 460, .inl t_book))]) (wr := [(h_t_mays, .inl (cI, 10, .inl t_mays)), (h_t_row, .inl (cI, 10, .inl t_row)), (h_t_firstRow, .inl (cI, 10, .inl t_firstRow))]) (wo := [(h_t, .inr (8, fX10 h_t_book h_t_images h_t_kept h_t_aside h_t_far h_t_then h_t_row h_t_mays h_t_firstRow h_t_low h_t_high t_noOlder t_thanThis t_known t_knownAge t_moved h_t_lowOne h_t_highOne h_t_ways t_met h_t_left t_hours t_greatest h_t_text t_typed t_at t_start t_token t_value h_t_verbs h_t_nums t_items)), (h_t_book, .inl (cI, 460, .inl t_book)), (h_t_mays, .inl (cI, 10, .inl t_mays)), (h_t_row, .inl (cI, 10, .inl t_row)), (h_t_firstRow, .inl (cI, 10, .inl t_firstRow))]) (v := (some (.int r10))) ⟨hx, hb, hml, hown, hts⟩ (c_X10_is l dC dI cI cZ te h_t h_t_book h_t_images h_t_kept h_t_aside h_t_far h_t_then h_t_row h_t_mays h_t_firstRow h_t_low h_t_high h_t_lowOne h_t_highOne h_t_ways h_t_left h_t_text h_t_verbs h_t_nums t_noOlder t_thanThis t_known t_knownAge t_moved t_met t_hours t_greatest t_typed t_at t_start t_token t_value t_items t_book (2 : Int32) p1 r10 hg11) (cwV 2 hts (gV kw_205 kw_206 kw_207 kw_159 kw_208) rfl rfl rfl (by decide +kernel) ⟨Nat.le_of_ble_eq_true rfl, Nat.le_of_ble_eq_true rfl⟩) (kS_env te) hK hP hD hS hA hE [0, 1] [2, 3, 4] [3, 4, 0, 1, 2] rfl rfl (by decide) (by decide) (by decide) (by decide) rfl 0 8 rfl rfl rfl rfl hl.1 rfl (Nat.le_of_ble_eq_true rfl) dX10_laid_8 ⟨Nat.zero_le _, Nat.zero_le _⟩ (fun H locs hP hD hS => ?_)
    show W p l e rmX10_laid s m args below meth c H locs 0 0 Q (F0 m 11 ls [.int r10])
    refine lv_if_ne (tgt := 17) hx hb dX10_laid_11 (by decide) (fun c12 => ?_) (fun c12 => ?_)
    · replace hf := ifn c12 hf
      refine lv_aload_n hx hb dX10_laid_17 rfl (lv_at hl 0 rfl) ?_
      obtain ⟨r13, y14, y15, y16, hg17, hf⟩ := bd4_some hf
      refine CM_callV (C := RX10) (As := []) (rest := []) (wc := [(h_t, .inr (8, fX10 h_t_book h_t_images h_t_kept h_t_aside h_t_far h_t_then h_t_row h_t_mays h_t_firstRow h_t_low h_t_high t_noOlder t_thanThis t_known t_knownAge t_moved h_t_lowOne h_t_highOne h_t_ways t_met h_t_left t_hours t_greatest h_t_text t_typed t_at t_start t_token t_value h_t_verbs h_t_nums t_items)), (h_t_book, .inl (cI, 460, .inl t_book)), (h_t_mays, .inl (cI, 10, .inl t_mays)), (h_t_row, .inl (cI, 10, .inl t_row)), (h_t_firstRow, .inl (cI, 10, .inl t_firstRow))]) (w1 := [(h_t, .inr (8, fX10 h_t_book h_t_images h_t_kept h_t_aside h_t_far h_t_then h_t_row h_t_mays h_t_firstRow h_t_low h_t_high t_noOlder t_thanThis t_known t_knownAge t_moved h_t_lowOne h_t_highOne h_t_ways t_met h_t_left t_hours t_greatest h_t_text t_typed t_at t_start t_token t_value h_t_verbs h_t_nums t_items)), (h_t_book, .inl (cI, 460, .inl t_book)), (h_t_mays, .inl (cI, 10, .inl y14)), (h_t_row, .inl (cI, 10, .inl y15)), (h_t_firstRow, .inl (cI, 10, .inl y16))]) (wr := []) (wo := [(h_t, .inr (8, fX10 h_t_book h_t_images h_t_kept h_t_aside h_t_far h_t_then h_t_row h_t_mays h_t_firstRow h_t_low h_t_high t_noOlder t_thanThis t_known t_knownAge t_moved h_t_lowOne h_t_highOne h_t_ways t_met h_t_left t_hours t_greatest h_t_text t_typed t_at t_start t_token t_value h_t_verbs h_t_nums t_items)), (h_t_book, .inl (cI, 460, .inl t_book)), (h_t_mays, .inl (cI, 10, .inl y14)), (h_t_row, .inl (cI, 10, .inl y15)), (h_t_firstRow, .inl (cI, 10, .inl y16))]) (v := (some (.int r13))) ⟨hx, hb, hml, hown, hts⟩ (c_X10_lays l dC dI cI cZ te h_t h_t_book h_t_images h_t_kept h_t_aside h_t_far h_t_then h_t_row h_t_mays h_t_firstRow h_t_low h_t_high h_t_lowOne h_t_highOne h_t_ways h_t_left h_t_text h_t_verbs h_t_nums t_noOlder t_thanThis t_known t_knownAge t_moved t_met t_hours t_greatest t_typed t_at t_start t_token t_value t_items t_book t_mays t_row t_firstRow r13 y14 y15 y16 hg17) (cwV 0 hts (gV kw_225 kw_226 kw_227 kw_159 kw_228) rfl rfl rfl (by decide +kernel) ⟨Nat.le_of_ble_eq_true rfl, Nat.le_of_ble_eq_true rfl⟩) (kS_env te) hK hP hD hS hA hE [0, 1, 2, 3, 4] [] [0, 1, 2, 3, 4] rfl rfl (by decide) (by decide) (by decide) (by decide) rfl 0 8 rfl rfl rfl rfl hl.1 rfl (Nat.le_of_ble_eq_true rfl) dX10_laid_18 ⟨Nat.zero_le _, Nat.zero_le _⟩ (fun H locs hP hD hS => ?_)
      show W p l e rmX10_laid s m args below meth c H locs 0 0 Q (F0 m 21 ls [.int r13])
      refine lv_istore_n (lv' := [(2, .int r13), (0, .ref h_t), (1, .int p1)]) hx hb dX10_laid_21 rfl hl (by decide) rfl (fun ls hl => ?_)
      refine lv_iload_n hx hb dX10_laid_22 rfl (lv_at hl 2 rfl) ?_
      refine lv_iconst (v := (-1 : Int32)) hx hb dX10_laid_23 (by decide) ?_
      refine lv_icmp_ne (tgt := 31) hx hb dX10_laid_24 (by decide) (fun c18 => ?_) (fun c18 => ?_)
      · replace hf := ifn c18 hf
        refine lv_iload_n hx hb dX10_laid_31 rfl (lv_at hl 0 rfl) ?_
        refine lv_if_ne (tgt := 39) hx hb dX10_laid_32 (by decide) (fun c19 => ?_) (fun c19 => ?_)
        · replace hf := ifn c19 hf
          refine lv_aload_n hx hb dX10_laid_39 rfl (lv_at hl 1 rfl) ?_
          refine va_get (D := (dC, dI)) (ci := 8) (v := .ref h_t_firstRow) (C := RX10) (T := TX10) (N := 32) hx hb hts (in1 tw_X10) hown hK hP 0 rfl rfl 8 (by decide) (hts _ (List.mem_cons_of_mem _ kw_125)) (fun _ h9 => h9) rfl dX10_laid_40 ?_
          refine lv_iload_n hx hb dX10_laid_43 rfl (lv_at hl 2 rfl) ?_
          obtain ⟨g20, hf⟩ := chk_some hf
          refine va_iald hx hb hK hP 4 0 rfl rfl (gin_in g20) dX10_laid_44 ?_
          obtain ⟨rfl, rfl, rfl, rfl⟩ := inj4 hf
          subst hQ
          exact CM_iret hx hb hr rfl hlocks hAe hP hD hS dX10_laid_45
        · replace hf := ifp c19 hf
          refine lv_iconst (v := (-1 : Int32)) hx hb dX10_laid_35 (by decide) ?_
          refine lv_goto (tgt := 45) hx hb dX10_laid_36 (by decide) ?_
          obtain ⟨rfl, rfl, rfl, rfl⟩ := inj4 hf
          subst hQ
          exact CM_iret hx hb hr rfl hlocks hAe hP hD hS dX10_laid_45
      · replace hf := ifp c18 hf
        refine lv_iload_n hx hb dX10_laid_27 rfl (lv_at hl 0 rfl) ?_
        refine lv_goto (tgt := 45) hx hb dX10_laid_28 (by decide) ?_
        obtain ⟨rfl, rfl, rfl, rfl⟩ := inj4 hf
        subst hQ
        exact CM_iret hx hb hr rfl hlocks hAe hP hD hS dX10_laid_45
    · replace hf := ifp c12 hf
      refine lv_bipush (v := (-10 : Int32)) hx hb dX10_laid_14 (by decide) ?_
      obtain ⟨rfl, rfl, rfl, rfl⟩ := inj4 hf
      subst hQ
      exact CM_iret hx hb hr rfl hlocks hAe hP hD hS dX10_laid_16
def rmX10_ridge : Room := { frames := 0, cells := 0, slots := 0, locals := 0 }
abbrev wqX10_ridge : List Cond := Cond.code yX10_ridge cX10_ridge 1 (some .int) :: tG
set_option maxHeartbeats 4000000 in
set_option maxRecDepth 100000 in
theorem c_X10_ridge (l : Launch) (dC : Nat → ClassId) (dI : Nat → Nat → Nat) (cI cZ : ClassId) (te : Nat → Nat) (h_t : Nat) (h_t_book : Nat) (h_t_images : Nat) (h_t_kept : Nat) (h_t_aside : Nat) (h_t_far : Nat) (h_t_then : Nat) (h_t_row : Nat) (h_t_mays : Nat) (h_t_firstRow : Nat) (h_t_low : Nat) (h_t_high : Nat) (h_t_lowOne : Nat) (h_t_highOne : Nat) (h_t_ways : Nat) (h_t_left : Nat) (h_t_text : Nat) (h_t_verbs : Nat) (h_t_nums : Nat) (t_noOlder : Int32) (t_thanThis : Int32) (t_known : Int32) (t_knownAge : Int32) (t_moved : Int32) (t_met : Int32) (t_hours : Int32) (t_greatest : Int32) (t_typed : Int32) (t_at : Int32) (t_start : Int32) (t_token : Int32) (t_value : Int32) (t_items : Int32) (t_book : Nat → Int32) (o0 : Int32) (o1 : Nat → Int32) (hf : f_X10_ridge t_book = some (o0, o1)) : CM l yX10_ridge wqX10_ridge rmX10_ridge (kS te) dC dI cI cZ [.ref h_t] [(h_t, .inr (8, fX10 h_t_book h_t_images h_t_kept h_t_aside h_t_far h_t_then h_t_row h_t_mays h_t_firstRow h_t_low h_t_high t_noOlder t_thanThis t_known t_knownAge t_moved h_t_lowOne h_t_highOne h_t_ways t_met h_t_left t_hours t_greatest h_t_text t_typed t_at t_start t_token t_value h_t_verbs h_t_nums t_items)), (h_t_book, .inl (cI, 460, .inl t_book))] [(h_t, .inr (8, fX10 h_t_book h_t_images h_t_kept h_t_aside h_t_far h_t_then h_t_row h_t_mays h_t_firstRow h_t_low h_t_high t_noOlder t_thanThis t_known t_knownAge t_moved h_t_lowOne h_t_highOne h_t_ways t_met h_t_left t_hours t_greatest h_t_text t_typed t_at t_start t_token t_value h_t_verbs h_t_nums t_items)), (h_t_book, .inl (cI, 460, .inl o1))] (some (.int o0)) := by
  refine CM_of (cc := cX10_ridge) (maxL := 1) (ret := (some .int)) (by decide +kernel) rfl (Nat.le_of_ble_eq_true rfl) ?_
  intro p e s m args below meth c A Q hx hb hr hml hown hts hlocks hA hK hP hD hS hE hQ hAe ls hl
  have hown : s.vm.findClass RX10 = some m.cls := hown
  have hl : lv_has ls 1 [(0, .ref h_t)] := hl
  unfold f_X10_ridge at hf
  refine lv_aload_n hx hb dX10_ridge_0 rfl (lv_at hl 0 rfl) ?_
  refine va_get (D := (dC, dI)) (ci := 8) (v := .ref h_t_book) (C := RX10) (T := TX10) (N := 32) hx hb hts (in1 tw_X10) hown hK hP 0 rfl rfl 0 (by decide) (hts _ (List.mem_cons_of_mem _ kw_116)) (fun _ h9 => h9) rfl dX10_ridge_1 ?_
  refine lv_iconst (v := (3 : Int32)) hx hb dX10_ridge_4 (by decide) ?_
  obtain ⟨g1, hf⟩ := chk_some hf
  refine va_iald hx hb hK hP 1 0 rfl rfl (gin_in g1) dX10_ridge_5 ?_
  refine lv_bipush (v := (8 : Int32)) hx hb dX10_ridge_6 (by decide) ?_
  refine lv_icmp_ne (tgt := 14) hx hb dX10_ridge_8 (by decide) (fun c2 => ?_) (fun c2 => ?_)
  · replace hf := ifn c2 hf
    refine lv_aload_n hx hb dX10_ridge_14 rfl (lv_at hl 0 rfl) ?_
    refine va_get (D := (dC, dI)) (ci := 8) (v := .ref h_t_book) (C := RX10) (T := TX10) (N := 32) hx hb hts (in1 tw_X10) hown hK hP 0 rfl rfl 0 (by decide) (hts _ (List.mem_cons_of_mem _ kw_116)) (fun _ h9 => h9) rfl dX10_ridge_15 ?_
    refine lv_iconst (v := (3 : Int32)) hx hb dX10_ridge_18 (by decide) ?_
    refine lv_dup2_11 hx hb dX10_ridge_19 rfl rfl ?_
    obtain ⟨g3, hf⟩ := chk_some hf
    refine va_iald hx hb hK hP 1 0 rfl rfl (gin_in g3) dX10_ridge_20 ?_
    refine lv_iconst (v := (1 : Int32)) hx hb dX10_ridge_21 (by decide) ?_
    refine lv_iadd hx hb dX10_ridge_22 ?_
    obtain ⟨x4, e5, hf⟩ := nm_some hf
    refine lv_tope e5 ?_
    obtain ⟨g6, hf⟩ := chk_some hf
    obtain ⟨y7, e8, hf⟩ := nm_some hf
    refine va_iast hx hb hK hP hD hS 1 0 rfl rfl (gin_in g6) dX10_ridge_23 (fun H locs hP hD hS => ?_)
    have hP : va_P (dC, dI) vwCl [(h_t, .inr (8, fX10 h_t_book h_t_images h_t_kept h_t_aside h_t_far h_t_then h_t_row h_t_mays h_t_firstRow h_t_low h_t_high t_noOlder t_thanThis t_known t_knownAge t_moved h_t_lowOne h_t_highOne h_t_ways t_met h_t_left t_hours t_greatest h_t_text t_typed t_at t_start t_token t_value h_t_verbs h_t_nums t_items)), (h_t_book, .inl (cI, 460, .inl y7))] H := by rw [e8]; exact hP
    have hD : va_D A [(h_t, .inr (8, fX10 h_t_book h_t_images h_t_kept h_t_aside h_t_far h_t_then h_t_row h_t_mays h_t_firstRow h_t_low h_t_high t_noOlder t_thanThis t_known t_knownAge t_moved h_t_lowOne h_t_highOne h_t_ways t_met h_t_left t_hours t_greatest h_t_text t_typed t_at t_start t_token t_value h_t_verbs h_t_nums t_items)), (h_t_book, .inl (cI, 460, .inl y7))] := by rw [e8]; exact hD
    refine lv_aload_n hx hb dX10_ridge_24 rfl (lv_at hl 0 rfl) ?_
    refine va_get (D := (dC, dI)) (ci := 8) (v := .ref h_t_book) (C := RX10) (T := TX10) (N := 32) hx hb hts (in1 tw_X10) hown hK hP 0 rfl rfl 0 (by decide) (hts _ (List.mem_cons_of_mem _ kw_116)) (fun _ h9 => h9) rfl dX10_ridge_25 ?_
    refine lv_iconst (v := (3 : Int32)) hx hb dX10_ridge_28 (by decide) ?_
    obtain ⟨g9, hf⟩ := chk_some hf
    refine va_iald hx hb hK hP 1 0 rfl rfl (gin_in g9) dX10_ridge_29 ?_
    refine lv_iconst (v := (1 : Int32)) hx hb dX10_ridge_30 (by decide) ?_
    refine lv_isub hx hb dX10_ridge_31 ?_
    obtain ⟨rfl, rfl⟩ := inj2 hf
    subst hQ
    exact CM_iret hx hb hr rfl hlocks hAe hP hD hS dX10_ridge_32
  · replace hf := ifp c2 hf
    refine lv_bipush (v := (-4 : Int32)) hx hb dX10_ridge_11 (by decide) ?_
    obtain ⟨rfl, rfl⟩ := inj2 hf
    subst hQ
    exact CM_iret hx hb hr rfl hlocks hAe hP hD hS dX10_ridge_13
def rmX10_isFact : Room := { frames := 2, cells := 0, slots := 0, locals := 47 }
abbrev wqX10_isFact : List Cond := Cond.code yX10_isFact cX10_isFact 5 (some .boolean) :: tG
set_option maxHeartbeats 4000000 in
set_option maxRecDepth 100000 in
theorem c_X10_isFact (l : Launch) (dC : Nat → ClassId) (dI : Nat → Nat → Nat) (cI cZ : ClassId) (te : Nat → Nat) (h_t : Nat) (h_t_book : Nat) (h_t_images : Nat) (h_t_kept : Nat) (h_t_aside : Nat) (h_t_far : Nat) (h_t_then : Nat) (h_t_row : Nat) (h_t_mays : Nat) (h_t_firstRow : Nat) (h_t_low : Nat) (h_t_high : Nat) (h_t_lowOne : Nat) (h_t_highOne : Nat) (h_t_ways : Nat) (h_t_left : Nat) (h_t_text : Nat) (h_t_verbs : Nat) (h_t_nums : Nat) (t_noOlder : Int32) (t_thanThis : Int32) (t_known : Int32) (t_knownAge : Int32) (t_moved : Int32) (t_met : Int32) (t_hours : Int32) (t_greatest : Int32) (t_typed : Int32) (t_at : Int32) (t_start : Int32) (t_token : Int32) (t_value : Int32) (t_items : Int32) (t_book : Nat → Int32) (p1 : Int32) (p2 : Int32) (p3 : Int32) (p4 : Int32) (o0 : Int32) (hf : f_X10_isFact t_book p1 p2 p3 p4 = some o0) : CM l yX10_isFact wqX10_isFact rmX10_isFact (kS te) dC dI cI cZ [.ref h_t, .int p1, .int p2, .int p3, .int p4] [(h_t, .inr (8, fX10 h_t_book h_t_images h_t_kept h_t_aside h_t_far h_t_then h_t_row h_t_mays h_t_firstRow h_t_low h_t_high t_noOlder t_thanThis t_known t_knownAge t_moved h_t_lowOne h_t_highOne h_t_ways t_met h_t_left t_hours t_greatest h_t_text t_typed t_at t_start t_token t_value h_t_verbs h_t_nums t_items)), (h_t_book, .inl (cI, 460, .inl t_book))] [(h_t, .inr (8, fX10 h_t_book h_t_images h_t_kept h_t_aside h_t_far h_t_then h_t_row h_t_mays h_t_firstRow h_t_low h_t_high t_noOlder t_thanThis t_known t_knownAge t_moved h_t_lowOne h_t_highOne h_t_ways t_met h_t_left t_hours t_greatest h_t_text t_typed t_at t_start t_token t_value h_t_verbs h_t_nums t_items)), (h_t_book, .inl (cI, 460, .inl t_book))] (some (.int o0)) := by
  refine CM_of (cc := cX10_isFact) (maxL := 5) (ret := (some .boolean)) (by decide +kernel) rfl (Nat.le_of_ble_eq_true rfl) ?_
  intro p e s m args below meth c A Q hx hb hr hml hown hts hlocks hA hK hP hD hS hE hQ hAe ls hl
  have hown : s.vm.findClass RX10 = some m.cls := hown
  have hl : lv_has ls 5 [(0, .ref h_t), (1, .int p1), (2, .int p2), (3, .int p3), (4, .int p4)] := hl
  unfold f_X10_isFact at hf
  refine lv_aload_n hx hb dX10_isFact_0 rfl (lv_at hl 0 rfl) ?_
  refine lv_iconst (v := (3 : Int32)) hx hb dX10_isFact_1 (by decide) ?_
  refine lv_iload_n hx hb dX10_isFact_2 rfl (lv_at hl 2 rfl) ?_
  obtain ⟨r1, hg2, hf⟩ := bd1_some hf
  refine CM_callV (C := RX10) (As := [.int (3 : Int32), .int p2]) (rest := []) (wc := [(h_t, .inr (8, fX10 h_t_book h_t_images h_t_kept h_t_aside h_t_far h_t_then h_t_row h_t_mays h_t_firstRow h_t_low h_t_high t_noOlder t_thanThis t_known t_knownAge t_moved h_t_lowOne h_t_highOne h_t_ways t_met h_t_left t_hours t_greatest h_t_text t_typed t_at t_start t_token t_value h_t_verbs h_t_nums t_items)), (h_t_book, .inl (cI, 460, .inl t_book))]) (w1 := [(h_t, .inr (8, fX10 h_t_book h_t_images h_t_kept h_t_aside h_t_far h_t_then h_t_row h_t_mays h_t_firstRow h_t_low h_t_high t_noOlder t_thanThis t_known t_knownAge t_moved h_t_lowOne h_t_highOne h_t_ways t_met h_t_left t_hours t_greatest h_t_text t_typed t_at t_start t_token t_value h_t_verbs h_t_nums t_items)), (h_t_book, .inl (cI, 460, .inl t_book))]) (wr := []) (wo := [(h_t, .inr (8, fX10 h_t_book h_t_images h_t_kept h_t_aside h_t_far h_t_then h_t_row h_t_mays h_t_firstRow h_t_low h_t_high t_noOlder t_thanThis t_known t_knownAge t_moved h_t_lowOne h_t_highOne h_t_ways t_met h_t_left t_hours t_greatest h_t_text t_typed t_at t_start t_token t_value h_t_verbs h_t_nums t_items)), (h_t_book, .inl (cI, 460, .inl t_book))]) (v := (some (.int r1))) ⟨hx, hb, hml, hown, hts⟩ (c_X10_is l dC dI cI cZ te h_t h_t_book h_t_images h_t_kept h_t_aside h_t_far h_t_then h_t_row h_t_mays h_t_firstRow h_t_low h_t_high h_t_lowOne h_t_highOne h_t_ways h_t_left h_t_text h_t_verbs h_t_nums t_noOlder t_thanThis t_known t_knownAge t_moved t_met t_hours t_greatest t_typed t_at t_start t_token t_value t_items t_book (3 : Int32) p2 r1 hg2) (cwV 2 hts (gV kw_205 kw_206 kw_207 kw_159 kw_208) rfl rfl rfl (by decide +kernel) ⟨Nat.le_of_ble_eq_true rfl, Nat.le_of_ble_eq_true rfl⟩) (kS_env te) hK hP hD hS hA hE [0, 1] [] [0, 1] rfl rfl (by decide) (by decide) (by decide) (by decide) rfl 0 8 rfl rfl rfl rfl hl.1 rfl (Nat.le_of_ble_eq_true rfl) dX10_isFact_3 ⟨Nat.zero_le _, Nat.zero_le _⟩ (fun H locs hP hD hS => ?_)
  show W p l e rmX10_isFact s m args below meth c H locs 0 0 Q (F0 m 6 ls [.int r1])
  refine lv_if_ne (tgt := 11) hx hb dX10_isFact_6 (by decide) (fun c3 => ?_) (fun c3 => ?_)
  · replace hf := ifn c3 hf
    refine lv_iload_n hx hb dX10_isFact_11 rfl (lv_at hl 1 rfl) ?_
    by_cases c4 : p1 = (0 : Int32)
    · replace hf := ifp c4 hf
      refine lv_tableIn (tgt := 48) hx hb dX10_isFact_12 (by rw [c4]; decide) (by rw [c4]; decide) (by rw [c4]; rfl) (by decide) ?_
      refine lv_aload_n hx hb dX10_isFact_48 rfl (lv_at hl 0 rfl) ?_
      refine lv_iconst (v := (3 : Int32)) hx hb dX10_isFact_49 (by decide) ?_
      refine lv_iload_n hx hb dX10_isFact_50 rfl (lv_at hl 3 rfl) ?_
      obtain ⟨r5, hg6, hf⟩ := bd1_some hf
      refine CM_callV (C := RX10) (As := [.int (3 : Int32), .int p3]) (rest := []) (wc := [(h_t, .inr (8, fX10 h_t_book h_t_images h_t_kept h_t_aside h_t_far h_t_then h_t_row h_t_mays h_t_firstRow h_t_low h_t_high t_noOlder t_thanThis t_known t_knownAge t_moved h_t_lowOne h_t_highOne h_t_ways t_met h_t_left t_hours t_greatest h_t_text t_typed t_at t_start t_token t_value h_t_verbs h_t_nums t_items)), (h_t_book, .inl (cI, 460, .inl t_book))]) (w1 := [(h_t, .inr (8, fX10 h_t_book h_t_images h_t_kept h_t_aside h_t_far h_t_then h_t_row h_t_mays h_t_firstRow h_t_low h_t_high t_noOlder t_thanThis t_known t_knownAge t_moved h_t_lowOne h_t_highOne h_t_ways t_met h_t_left t_hours t_greatest h_t_text t_typed t_at t_start t_token t_value h_t_verbs h_t_nums t_items)), (h_t_book, .inl (cI, 460, .inl t_book))]) (wr := []) (wo := [(h_t, .inr (8, fX10 h_t_book h_t_images h_t_kept h_t_aside h_t_far h_t_then h_t_row h_t_mays h_t_firstRow h_t_low h_t_high t_noOlder t_thanThis t_known t_knownAge t_moved h_t_lowOne h_t_highOne h_t_ways t_met h_t_left t_hours t_greatest h_t_text t_typed t_at t_start t_token t_value h_t_verbs h_t_nums t_items)), (h_t_book, .inl (cI, 460, .inl t_book))]) (v := (some (.int r5))) ⟨hx, hb, hml, hown, hts⟩ (c_X10_is l dC dI cI cZ te h_t h_t_book h_t_images h_t_kept h_t_aside h_t_far h_t_then h_t_row h_t_mays h_t_firstRow h_t_low h_t_high h_t_lowOne h_t_highOne h_t_ways h_t_left h_t_text h_t_verbs h_t_nums t_noOlder t_thanThis t_known t_knownAge t_moved t_met t_hours t_greatest t_typed t_at t_start t_token t_value t_items t_book (3 : Int32) p3 r5 hg6) (cwV 2 hts (gV kw_205 kw_206 kw_207 kw_159 kw_208) rfl rfl rfl (by decide +kernel) ⟨Nat.le_of_ble_eq_true rfl, Nat.le_of_ble_eq_true rfl⟩) (kS_env te) hK hP hD hS hA hE [0, 1] [] [0, 1] rfl rfl (by decide) (by decide) (by decide) (by decide) rfl 0 8 rfl rfl rfl rfl hl.1 rfl (Nat.le_of_ble_eq_true rfl) dX10_isFact_51 ⟨Nat.zero_le _, Nat.zero_le _⟩ (fun H locs hP hD hS => ?_)
      show W p l e rmX10_isFact s m args below meth c H locs 0 0 Q (F0 m 54 ls [.int r5])
      refine lv_if_eq (tgt := 66) hx hb dX10_isFact_54 (by decide) (fun c7 => ?_) (fun c7 => ?_)
      · replace hf := ifp c7 hf
        refine lv_iconst (v := (0 : Int32)) hx hb dX10_isFact_66 (by decide) ?_
        obtain rfl := inj1 hf
        subst hQ
        exact CM_iret hx hb hr rfl hlocks hAe hP hD hS dX10_isFact_67
      · replace hf := ifn c7 hf
        refine lv_iload_n hx hb dX10_isFact_57 rfl (lv_at hl 2 rfl) ?_
        refine lv_iload_n hx hb dX10_isFact_58 rfl (lv_at hl 3 rfl) ?_
        refine lv_icmp_eq (tgt := 66) hx hb dX10_isFact_59 (by decide) (fun c8 => ?_) (fun c8 => ?_)
        · replace hf := ifp c8 hf
          refine lv_iconst (v := (0 : Int32)) hx hb dX10_isFact_66 (by decide) ?_
          obtain rfl := inj1 hf
          subst hQ
          exact CM_iret hx hb hr rfl hlocks hAe hP hD hS dX10_isFact_67
        · replace hf := ifn c8 hf
          refine lv_iconst (v := (1 : Int32)) hx hb dX10_isFact_62 (by decide) ?_
          refine lv_goto (tgt := 67) hx hb dX10_isFact_63 (by decide) ?_
          obtain rfl := inj1 hf
          subst hQ
          exact CM_iret hx hb hr rfl hlocks hAe hP hD hS dX10_isFact_67
    · replace hf := ifn c4 hf
      by_cases c9 : p1 = (1 : Int32)
      · replace hf := ifp c9 hf
        refine lv_tableIn (tgt := 68) hx hb dX10_isFact_12 (by rw [c9]; decide) (by rw [c9]; decide) (by rw [c9]; rfl) (by decide) ?_
        refine lv_iload_n hx hb dX10_isFact_68 rfl (lv_at hl 3 rfl) ?_
        refine lv_i2l hx hb dX10_isFact_69 rfl ?_
        refine lv_lconst (v := (0 : Int64)) hx hb dX10_isFact_70 (by decide) ?_
        refine lv_ldc2 (v := (999 : Int64)) hx hb hown (hts _ (List.mem_cons_of_mem _ kw_215)) dX10_isFact_71 ?_
        obtain ⟨r10, hg11, hf⟩ := bd1_some hf
        refine CM_callS (As := [.long p3.toInt64, .long (0 : Int64), .long (999 : Int64)]) (rest := []) (wc := []) (w1 := []) (wr := [(h_t, .inr (8, fX10 h_t_book h_t_images h_t_kept h_t_aside h_t_far h_t_then h_t_row h_t_mays h_t_firstRow h_t_low h_t_high t_noOlder t_thanThis t_known t_knownAge t_moved h_t_lowOne h_t_highOne h_t_ways t_met h_t_left t_hours t_greatest h_t_text t_typed t_at t_start t_token t_value h_t_verbs h_t_nums t_items)), (h_t_book, .inl (cI, 460, .inl t_book))]) (wo := [(h_t, .inr (8, fX10 h_t_book h_t_images h_t_kept h_t_aside h_t_far h_t_then h_t_row h_t_mays h_t_firstRow h_t_low h_t_high t_noOlder t_thanThis t_known t_knownAge t_moved h_t_lowOne h_t_highOne h_t_ways t_met h_t_left t_hours t_greatest h_t_text t_typed t_at t_start t_token t_value h_t_verbs h_t_nums t_items)), (h_t_book, .inl (cI, 460, .inl t_book))]) (v := (some (.int r10))) ⟨hx, hb, hml, hown, hts⟩ (c_X10_in l dC dI cI cZ te (p3.toInt64) (0 : Int64) (999 : Int64) r10 hg11) (va_cwS 3 hts (gS kw_157 kw_158 kw_159 kw_160) rfl rfl rfl (by decide +kernel) ⟨Nat.le_of_ble_eq_true rfl, Nat.le_of_ble_eq_true rfl⟩) (kS_env te) hK hP hD hS hA hE [] [0, 1] [0, 1] rfl rfl (by decide) (by decide) (by decide) (by decide) rfl rfl hl.1 rfl (Nat.le_of_ble_eq_true rfl) dX10_isFact_74 ⟨Nat.zero_le _, Nat.zero_le _⟩ (fun H locs hP hD hS => ?_)
        show W p l e rmX10_isFact s m args below meth c H locs 0 0 Q (F0 m 77 ls [.int r10])
        refine lv_if_eq (tgt := 98) hx hb dX10_isFact_77 (by decide) (fun c12 => ?_) (fun c12 => ?_)
        · replace hf := ifp c12 hf
          refine lv_iconst (v := (0 : Int32)) hx hb dX10_isFact_98 (by decide) ?_
          obtain rfl := inj1 hf
          subst hQ
          exact CM_iret hx hb hr rfl hlocks hAe hP hD hS dX10_isFact_99
        · replace hf := ifn c12 hf
          refine lv_iload hx hb dX10_isFact_80 (lv_at hl 4 rfl) ?_
          refine lv_i2l hx hb dX10_isFact_82 rfl ?_
          refine lv_iload_n hx hb dX10_isFact_83 rfl (lv_at hl 3 rfl) ?_
          refine lv_i2l hx hb dX10_isFact_84 rfl ?_
          refine lv_ldc2 (v := (999 : Int64)) hx hb hown (hts _ (List.mem_cons_of_mem _ kw_215)) dX10_isFact_85 ?_
          obtain ⟨r13, hg14, hf⟩ := bd1_some hf
          refine CM_callS (As := [.long p4.toInt64, .long p3.toInt64, .long (999 : Int64)]) (rest := []) (wc := []) (w1 := []) (wr := [(h_t, .inr (8, fX10 h_t_book h_t_images h_t_kept h_t_aside h_t_far h_t_then h_t_row h_t_mays h_t_firstRow h_t_low h_t_high t_noOlder t_thanThis t_known t_knownAge t_moved h_t_lowOne h_t_highOne h_t_ways t_met h_t_left t_hours t_greatest h_t_text t_typed t_at t_start t_token t_value h_t_verbs h_t_nums t_items)), (h_t_book, .inl (cI, 460, .inl t_book))]) (wo := [(h_t, .inr (8, fX10 h_t_book h_t_images h_t_kept h_t_aside h_t_far h_t_then h_t_row h_t_mays h_t_firstRow h_t_low h_t_high t_noOlder t_thanThis t_known t_knownAge t_moved h_t_lowOne h_t_highOne h_t_ways t_met h_t_left t_hours t_greatest h_t_text t_typed t_at t_start t_token t_value h_t_verbs h_t_nums t_items)), (h_t_book, .inl (cI, 460, .inl t_book))]) (v := (some (.int r13))) ⟨hx, hb, hml, hown, hts⟩ (c_X10_in l dC dI cI cZ te (p4.toInt64) (p3.toInt64) (999 : Int64) r13 hg14) (va_cwS 3 hts (gS kw_157 kw_158 kw_159 kw_160) rfl rfl rfl (by decide +kernel) ⟨Nat.le_of_ble_eq_true rfl, Nat.le_of_ble_eq_true rfl⟩) (kS_env te) hK hP hD hS hA hE [] [0, 1] [0, 1] rfl rfl (by decide) (by decide) (by decide) (by decide) rfl rfl hl.1 rfl (Nat.le_of_ble_eq_true rfl) dX10_isFact_88 ⟨Nat.zero_le _, Nat.zero_le _⟩ (fun H locs hP hD hS => ?_)
          show W p l e rmX10_isFact s m args below meth c H locs 0 0 Q (F0 m 91 ls [.int r13])
          refine lv_if_eq (tgt := 98) hx hb dX10_isFact_91 (by decide) (fun c15 => ?_) (fun c15 => ?_)
          · replace hf := ifp c15 hf
            refine lv_iconst (v := (0 : Int32)) hx hb dX10_isFact_98 (by decide) ?_
            obtain rfl := inj1 hf
            subst hQ
            exact CM_iret hx hb hr rfl hlocks hAe hP hD hS dX10_isFact_99
          · replace hf := ifn c15 hf
            refine lv_iconst (v := (1 : Int32)) hx hb dX10_isFact_94 (by decide) ?_
            refine lv_goto (tgt := 99) hx hb dX10_isFact_95 (by decide) ?_
            obtain rfl := inj1 hf
            subst hQ
            exact CM_iret hx hb hr rfl hlocks hAe hP hD hS dX10_isFact_99
      · replace hf := ifn c9 hf
        by_cases c16 : p1 = (2 : Int32)
        · replace hf := ifp c16 hf
          refine lv_tableIn (tgt := 100) hx hb dX10_isFact_12 (by rw [c16]; decide) (by rw [c16]; decide) (by rw [c16]; rfl) (by decide) ?_
          refine lv_iload_n hx hb dX10_isFact_100 rfl (lv_at hl 3 rfl) ?_
          refine lv_i2l hx hb dX10_isFact_101 rfl ?_
          refine lv_lconst (v := (1 : Int64)) hx hb dX10_isFact_102 (by decide) ?_
          refine lv_ldc2 (v := (300 : Int64)) hx hb hown (hts _ (List.mem_cons_of_mem _ kw_229)) dX10_isFact_103 ?_
          obtain ⟨r17, hg18, hf⟩ := bd1_some hf
          refine CM_callS (As := [.long p3.toInt64, .long (1 : Int64), .long (300 : Int64)]) (rest := []) (wc := []) (w1 := []) (wr := [(h_t, .inr (8, fX10 h_t_book h_t_images h_t_kept h_t_aside h_t_far h_t_then h_t_row h_t_mays h_t_firstRow h_t_low h_t_high t_noOlder t_thanThis t_known t_knownAge t_moved h_t_lowOne h_t_highOne h_t_ways t_met h_t_left t_hours t_greatest h_t_text t_typed t_at t_start t_token t_value h_t_verbs h_t_nums t_items)), (h_t_book, .inl (cI, 460, .inl t_book))]) (wo := [(h_t, .inr (8, fX10 h_t_book h_t_images h_t_kept h_t_aside h_t_far h_t_then h_t_row h_t_mays h_t_firstRow h_t_low h_t_high t_noOlder t_thanThis t_known t_knownAge t_moved h_t_lowOne h_t_highOne h_t_ways t_met h_t_left t_hours t_greatest h_t_text t_typed t_at t_start t_token t_value h_t_verbs h_t_nums t_items)), (h_t_book, .inl (cI, 460, .inl t_book))]) (v := (some (.int r17))) ⟨hx, hb, hml, hown, hts⟩ (c_X10_in l dC dI cI cZ te (p3.toInt64) (1 : Int64) (300 : Int64) r17 hg18) (va_cwS 3 hts (gS kw_157 kw_158 kw_159 kw_160) rfl rfl rfl (by decide +kernel) ⟨Nat.le_of_ble_eq_true rfl, Nat.le_of_ble_eq_true rfl⟩) (kS_env te) hK hP hD hS hA hE [] [0, 1] [0, 1] rfl rfl (by decide) (by decide) (by decide) (by decide) rfl rfl hl.1 rfl (Nat.le_of_ble_eq_true rfl) dX10_isFact_106 ⟨Nat.zero_le _, Nat.zero_le _⟩ (fun H locs hP hD hS => ?_)
          show W p l e rmX10_isFact s m args below meth c H locs 0 0 Q (F0 m 109 ls [.int r17])
          obtain ⟨g19, hf⟩ := chk_some hf
          obtain rfl := inj1 hf
          subst hQ
          exact CM_iret hx hb hr (gz_n g19) hlocks hAe hP hD hS dX10_isFact_109
        · replace hf := ifn c16 hf
          by_cases c20 : p1 = (3 : Int32)
          · replace hf := ifp c20 hf
            refine lv_tableIn (tgt := 110) hx hb dX10_isFact_12 (by rw [c20]; decide) (by rw [c20]; decide) (by rw [c20]; rfl) (by decide) ?_
            refine lv_iload_n hx hb dX10_isFact_110 rfl (lv_at hl 3 rfl) ?_
            refine lv_i2l hx hb dX10_isFact_111 rfl ?_
            refine lv_lconst (v := (0 : Int64)) hx hb dX10_isFact_112 (by decide) ?_
            refine lv_ldc2 (v := (999 : Int64)) hx hb hown (hts _ (List.mem_cons_of_mem _ kw_215)) dX10_isFact_113 ?_
            obtain ⟨r21, hg22, hf⟩ := bd1_some hf
            refine CM_callS (As := [.long p3.toInt64, .long (0 : Int64), .long (999 : Int64)]) (rest := []) (wc := []) (w1 := []) (wr := [(h_t, .inr (8, fX10 h_t_book h_t_images h_t_kept h_t_aside h_t_far h_t_then h_t_row h_t_mays h_t_firstRow h_t_low h_t_high t_noOlder t_thanThis t_known t_knownAge t_moved h_t_lowOne h_t_highOne h_t_ways t_met h_t_left t_hours t_greatest h_t_text t_typed t_at t_start t_token t_value h_t_verbs h_t_nums t_items)), (h_t_book, .inl (cI, 460, .inl t_book))]) (wo := [(h_t, .inr (8, fX10 h_t_book h_t_images h_t_kept h_t_aside h_t_far h_t_then h_t_row h_t_mays h_t_firstRow h_t_low h_t_high t_noOlder t_thanThis t_known t_knownAge t_moved h_t_lowOne h_t_highOne h_t_ways t_met h_t_left t_hours t_greatest h_t_text t_typed t_at t_start t_token t_value h_t_verbs h_t_nums t_items)), (h_t_book, .inl (cI, 460, .inl t_book))]) (v := (some (.int r21))) ⟨hx, hb, hml, hown, hts⟩ (c_X10_in l dC dI cI cZ te (p3.toInt64) (0 : Int64) (999 : Int64) r21 hg22) (va_cwS 3 hts (gS kw_157 kw_158 kw_159 kw_160) rfl rfl rfl (by decide +kernel) ⟨Nat.le_of_ble_eq_true rfl, Nat.le_of_ble_eq_true rfl⟩) (kS_env te) hK hP hD hS hA hE [] [0, 1] [0, 1] rfl rfl (by decide) (by decide) (by decide) (by decide) rfl rfl hl.1 rfl (Nat.le_of_ble_eq_true rfl) dX10_isFact_116 ⟨Nat.zero_le _, Nat.zero_le _⟩ (fun H locs hP hD hS => ?_)
            show W p l e rmX10_isFact s m args below meth c H locs 0 0 Q (F0 m 119 ls [.int r21])
            obtain ⟨g23, hf⟩ := chk_some hf
            obtain rfl := inj1 hf
            subst hQ
            exact CM_iret hx hb hr (gz_n g23) hlocks hAe hP hD hS dX10_isFact_119
          · replace hf := ifn c20 hf
            by_cases c24 : p1 = (4 : Int32)
            · replace hf := ifp c24 hf
              refine lv_tableIn (tgt := 110) hx hb dX10_isFact_12 (by rw [c24]; decide) (by rw [c24]; decide) (by rw [c24]; rfl) (by decide) ?_
              refine lv_iload_n hx hb dX10_isFact_110 rfl (lv_at hl 3 rfl) ?_
              refine lv_i2l hx hb dX10_isFact_111 rfl ?_
              refine lv_lconst (v := (0 : Int64)) hx hb dX10_isFact_112 (by decide) ?_
              refine lv_ldc2 (v := (999 : Int64)) hx hb hown (hts _ (List.mem_cons_of_mem _ kw_215)) dX10_isFact_113 ?_
              obtain ⟨r25, hg26, hf⟩ := bd1_some hf
              refine CM_callS (As := [.long p3.toInt64, .long (0 : Int64), .long (999 : Int64)]) (rest := []) (wc := []) (w1 := []) (wr := [(h_t, .inr (8, fX10 h_t_book h_t_images h_t_kept h_t_aside h_t_far h_t_then h_t_row h_t_mays h_t_firstRow h_t_low h_t_high t_noOlder t_thanThis t_known t_knownAge t_moved h_t_lowOne h_t_highOne h_t_ways t_met h_t_left t_hours t_greatest h_t_text t_typed t_at t_start t_token t_value h_t_verbs h_t_nums t_items)), (h_t_book, .inl (cI, 460, .inl t_book))]) (wo := [(h_t, .inr (8, fX10 h_t_book h_t_images h_t_kept h_t_aside h_t_far h_t_then h_t_row h_t_mays h_t_firstRow h_t_low h_t_high t_noOlder t_thanThis t_known t_knownAge t_moved h_t_lowOne h_t_highOne h_t_ways t_met h_t_left t_hours t_greatest h_t_text t_typed t_at t_start t_token t_value h_t_verbs h_t_nums t_items)), (h_t_book, .inl (cI, 460, .inl t_book))]) (v := (some (.int r25))) ⟨hx, hb, hml, hown, hts⟩ (c_X10_in l dC dI cI cZ te (p3.toInt64) (0 : Int64) (999 : Int64) r25 hg26) (va_cwS 3 hts (gS kw_157 kw_158 kw_159 kw_160) rfl rfl rfl (by decide +kernel) ⟨Nat.le_of_ble_eq_true rfl, Nat.le_of_ble_eq_true rfl⟩) (kS_env te) hK hP hD hS hA hE [] [0, 1] [0, 1] rfl rfl (by decide) (by decide) (by decide) (by decide) rfl rfl hl.1 rfl (Nat.le_of_ble_eq_true rfl) dX10_isFact_116 ⟨Nat.zero_le _, Nat.zero_le _⟩ (fun H locs hP hD hS => ?_)
              show W p l e rmX10_isFact s m args below meth c H locs 0 0 Q (F0 m 119 ls [.int r25])
              obtain ⟨g27, hf⟩ := chk_some hf
              obtain rfl := inj1 hf
              subst hQ
              exact CM_iret hx hb hr (gz_n g27) hlocks hAe hP hD hS dX10_isFact_119
            · replace hf := ifn c24 hf
              refine lv_tableOut (tgt := 120) hx hb dX10_isFact_12 (by have nc4 := lv_neT c4 (a := 0) rfl; have nc9 := lv_neT c9 (a := 1) rfl; have nc16 := lv_neT c16 (a := 2) rfl; have nc20 := lv_neT c20 (a := 3) rfl; have nc24 := lv_neT c24 (a := 4) rfl; omega) (by decide) ?_
              refine lv_iconst (v := (0 : Int32)) hx hb dX10_isFact_120 (by decide) ?_
              obtain rfl := inj1 hf
              subst hQ
              exact CM_iret hx hb hr rfl hlocks hAe hP hD hS dX10_isFact_121
  · replace hf := ifp c3 hf
    refine lv_iconst (v := (0 : Int32)) hx hb dX10_isFact_9 (by decide) ?_
    obtain rfl := inj1 hf
    subst hQ
    exact CM_iret hx hb hr rfl hlocks hAe hP hD hS dX10_isFact_10
def rmX10_fact : Room := { frames := 3, cells := 0, slots := 0, locals := 71 }
abbrev wqX10_fact : List Cond := Cond.code yX10_fact cX10_fact 7 (some .int) :: tG
set_option maxHeartbeats 4000000 in
set_option maxRecDepth 100000 in
theorem c_X10_fact (l : Launch) (dC : Nat → ClassId) (dI : Nat → Nat → Nat) (cI cZ : ClassId) (te : Nat → Nat) (h_t : Nat) (h_t_book : Nat) (h_t_images : Nat) (h_t_kept : Nat) (h_t_aside : Nat) (h_t_far : Nat) (h_t_then : Nat) (h_t_row : Nat) (h_t_mays : Nat) (h_t_firstRow : Nat) (h_t_low : Nat) (h_t_high : Nat) (h_t_lowOne : Nat) (h_t_highOne : Nat) (h_t_ways : Nat) (h_t_left : Nat) (h_t_text : Nat) (h_t_verbs : Nat) (h_t_nums : Nat) (t_noOlder : Int32) (t_thanThis : Int32) (t_known : Int32) (t_knownAge : Int32) (t_moved : Int32) (t_met : Int32) (t_hours : Int32) (t_greatest : Int32) (t_typed : Int32) (t_at : Int32) (t_start : Int32) (t_token : Int32) (t_value : Int32) (t_items : Int32) (t_book : Nat → Int32) (p1 : Int32) (p2 : Int32) (p3 : Int32) (p4 : Int32) (p5 : Int32) (o0 : Int32) (o1 : Nat → Int32) (hf : f_X10_fact t_book p1 p2 p3 p4 p5 = some (o0, o1)) : CM l yX10_fact wqX10_fact rmX10_fact (kS te) dC dI cI cZ [.ref h_t, .int p1, .int p2, .int p3, .int p4, .int p5] [(h_t, .inr (8, fX10 h_t_book h_t_images h_t_kept h_t_aside h_t_far h_t_then h_t_row h_t_mays h_t_firstRow h_t_low h_t_high t_noOlder t_thanThis t_known t_knownAge t_moved h_t_lowOne h_t_highOne h_t_ways t_met h_t_left t_hours t_greatest h_t_text t_typed t_at t_start t_token t_value h_t_verbs h_t_nums t_items)), (h_t_book, .inl (cI, 460, .inl t_book))] [(h_t, .inr (8, fX10 h_t_book h_t_images h_t_kept h_t_aside h_t_far h_t_then h_t_row h_t_mays h_t_firstRow h_t_low h_t_high t_noOlder t_thanThis t_known t_knownAge t_moved h_t_lowOne h_t_highOne h_t_ways t_met h_t_left t_hours t_greatest h_t_text t_typed t_at t_start t_token t_value h_t_verbs h_t_nums t_items)), (h_t_book, .inl (cI, 460, .inl o1))] (some (.int o0)) := by
  refine CM_of (cc := cX10_fact) (maxL := 7) (ret := (some .int)) (by decide +kernel) rfl (Nat.le_of_ble_eq_true rfl) ?_
  intro p e s m args below meth c A Q hx hb hr hml hown hts hlocks hA hK hP hD hS hE hQ hAe ls hl
  have hown : s.vm.findClass RX10 = some m.cls := hown
  have hl : lv_has ls 7 [(0, .ref h_t), (1, .int p1), (2, .int p2), (3, .int p3), (4, .int p4), (5, .int p5)] := hl
  unfold f_X10_fact at hf
  refine lv_iload_n hx hb dX10_fact_0 rfl (lv_at hl 1 rfl) ?_
  refine lv_i2l hx hb dX10_fact_1 rfl ?_
  refine lv_lconst (v := (0 : Int64)) hx hb dX10_fact_2 (by decide) ?_
  refine lv_lconst (v := (1 : Int64)) hx hb dX10_fact_3 (by decide) ?_
  obtain ⟨r1, hg2, hf⟩ := bd1_some hf
  refine CM_callS (As := [.long p1.toInt64, .long (0 : Int64), .long (1 : Int64)]) (rest := []) (wc := []) (w1 := []) (wr := [(h_t, .inr (8, fX10 h_t_book h_t_images h_t_kept h_t_aside h_t_far h_t_then h_t_row h_t_mays h_t_firstRow h_t_low h_t_high t_noOlder t_thanThis t_known t_knownAge t_moved h_t_lowOne h_t_highOne h_t_ways t_met h_t_left t_hours t_greatest h_t_text t_typed t_at t_start t_token t_value h_t_verbs h_t_nums t_items)), (h_t_book, .inl (cI, 460, .inl t_book))]) (wo := [(h_t, .inr (8, fX10 h_t_book h_t_images h_t_kept h_t_aside h_t_far h_t_then h_t_row h_t_mays h_t_firstRow h_t_low h_t_high t_noOlder t_thanThis t_known t_knownAge t_moved h_t_lowOne h_t_highOne h_t_ways t_met h_t_left t_hours t_greatest h_t_text t_typed t_at t_start t_token t_value h_t_verbs h_t_nums t_items)), (h_t_book, .inl (cI, 460, .inl t_book))]) (v := (some (.int r1))) ⟨hx, hb, hml, hown, hts⟩ (c_X10_in l dC dI cI cZ te (p1.toInt64) (0 : Int64) (1 : Int64) r1 hg2) (va_cwS 3 hts (gS kw_157 kw_158 kw_159 kw_160) rfl rfl rfl (by decide +kernel) ⟨Nat.le_of_ble_eq_true rfl, Nat.le_of_ble_eq_true rfl⟩) (kS_env te) hK hP hD hS hA hE [] [0, 1] [0, 1] rfl rfl (by decide) (by decide) (by decide) (by decide) rfl rfl hl.1 rfl (Nat.le_of_ble_eq_true rfl) dX10_fact_4 ⟨Nat.zero_le _, Nat.zero_le _⟩ (fun H locs hP hD hS => ?_)
  show W p l e rmX10_fact s m args below meth c H locs 0 0 Q (F0 m 7 ls [.int r1])
  refine lv_if_eq (tgt := 23) hx hb dX10_fact_7 (by decide) (fun c3 => ?_) (fun c3 => ?_)
  · replace hf := ifp c3 hf
    refine lv_bipush (v := (-2 : Int32)) hx hb dX10_fact_23 (by decide) ?_
    obtain ⟨rfl, rfl⟩ := inj2 hf
    subst hQ
    exact CM_iret hx hb hr rfl hlocks hAe hP hD hS dX10_fact_25
  · replace hf := ifn c3 hf
    refine lv_aload_n hx hb dX10_fact_10 rfl (lv_at hl 0 rfl) ?_
    refine lv_iload_n hx hb dX10_fact_11 rfl (lv_at hl 2 rfl) ?_
    refine lv_iload_n hx hb dX10_fact_12 rfl (lv_at hl 3 rfl) ?_
    refine lv_iload hx hb dX10_fact_13 (lv_at hl 4 rfl) ?_
    refine lv_iload hx hb dX10_fact_15 (lv_at hl 5 rfl) ?_
    obtain ⟨r4, hg5, hf⟩ := bd1_some hf
    refine CM_callV (C := RX10) (As := [.int p2, .int p3, .int p4, .int p5]) (rest := []) (wc := [(h_t, .inr (8, fX10 h_t_book h_t_images h_t_kept h_t_aside h_t_far h_t_then h_t_row h_t_mays h_t_firstRow h_t_low h_t_high t_noOlder t_thanThis t_known t_knownAge t_moved h_t_lowOne h_t_highOne h_t_ways t_met h_t_left t_hours t_greatest h_t_text t_typed t_at t_start t_token t_value h_t_verbs h_t_nums t_items)), (h_t_book, .inl (cI, 460, .inl t_book))]) (w1 := [(h_t, .inr (8, fX10 h_t_book h_t_images h_t_kept h_t_aside h_t_far h_t_then h_t_row h_t_mays h_t_firstRow h_t_low h_t_high t_noOlder t_thanThis t_known t_knownAge t_moved h_t_lowOne h_t_highOne h_t_ways t_met h_t_left t_hours t_greatest h_t_text t_typed t_at t_start t_token t_value h_t_verbs h_t_nums t_items)), (h_t_book, .inl (cI, 460, .inl t_book))]) (wr := []) (wo := [(h_t, .inr (8, fX10 h_t_book h_t_images h_t_kept h_t_aside h_t_far h_t_then h_t_row h_t_mays h_t_firstRow h_t_low h_t_high t_noOlder t_thanThis t_known t_knownAge t_moved h_t_lowOne h_t_highOne h_t_ways t_met h_t_left t_hours t_greatest h_t_text t_typed t_at t_start t_token t_value h_t_verbs h_t_nums t_items)), (h_t_book, .inl (cI, 460, .inl t_book))]) (v := (some (.int r4))) ⟨hx, hb, hml, hown, hts⟩ (c_X10_isFact l dC dI cI cZ te h_t h_t_book h_t_images h_t_kept h_t_aside h_t_far h_t_then h_t_row h_t_mays h_t_firstRow h_t_low h_t_high h_t_lowOne h_t_highOne h_t_ways h_t_left h_t_text h_t_verbs h_t_nums t_noOlder t_thanThis t_known t_knownAge t_moved t_met t_hours t_greatest t_typed t_at t_start t_token t_value t_items t_book p2 p3 p4 p5 r4 hg5) (cwV 4 hts (gV kw_230 kw_231 kw_232 kw_159 kw_233) rfl rfl rfl (by decide +kernel) ⟨Nat.le_of_ble_eq_true rfl, Nat.le_of_ble_eq_true rfl⟩) (kS_env te) hK hP hD hS hA hE [0, 1] [] [0, 1] rfl rfl (by decide) (by decide) (by decide) (by decide) rfl 0 8 rfl rfl rfl rfl hl.1 rfl (Nat.le_of_ble_eq_true rfl) dX10_fact_17 ⟨Nat.zero_le _, Nat.zero_le _⟩ (fun H locs hP hD hS => ?_)
    show W p l e rmX10_fact s m args below meth c H locs 0 0 Q (F0 m 20 ls [.int r4])
    refine lv_if_ne (tgt := 26) hx hb dX10_fact_20 (by decide) (fun c6 => ?_) (fun c6 => ?_)
    · replace hf := ifn c6 hf
      refine lv_aload_n hx hb dX10_fact_26 rfl (lv_at hl 0 rfl) ?_
      refine va_get (D := (dC, dI)) (ci := 8) (v := .ref h_t_book) (C := RX10) (T := TX10) (N := 32) hx hb hts (in1 tw_X10) hown hK hP 0 rfl rfl 0 (by decide) (hts _ (List.mem_cons_of_mem _ kw_116)) (fun _ h9 => h9) rfl dX10_fact_27 ?_
      refine lv_iconst (v := (4 : Int32)) hx hb dX10_fact_30 (by decide) ?_
      obtain ⟨g7, hf⟩ := chk_some hf
      refine va_iald hx hb hK hP 1 0 rfl rfl (gin_in g7) dX10_fact_31 ?_
      refine lv_bipush (v := (16 : Int32)) hx hb dX10_fact_32 (by decide) ?_
      refine lv_icmp_ne (tgt := 40) hx hb dX10_fact_34 (by decide) (fun c8 => ?_) (fun c8 => ?_)
      · replace hf := ifn c8 hf
        refine lv_sipush (v := (290 : Int32)) hx hb dX10_fact_40 (by decide) ?_
        refine lv_iconst (v := (5 : Int32)) hx hb dX10_fact_43 (by decide) ?_
        refine lv_aload_n hx hb dX10_fact_44 rfl (lv_at hl 0 rfl) ?_
        refine va_get (D := (dC, dI)) (ci := 8) (v := .ref h_t_book) (C := RX10) (T := TX10) (N := 32) hx hb hts (in1 tw_X10) hown hK hP 0 rfl rfl 0 (by decide) (hts _ (List.mem_cons_of_mem _ kw_116)) (fun _ h9 => h9) rfl dX10_fact_45 ?_
        refine lv_iconst (v := (4 : Int32)) hx hb dX10_fact_48 (by decide) ?_
        obtain ⟨g9, hf⟩ := chk_some hf
        refine va_iald hx hb hK hP 1 0 rfl rfl (gin_in g9) dX10_fact_49 ?_
        refine lv_imul hx hb dX10_fact_50 ?_
        refine lv_iadd hx hb dX10_fact_51 ?_
        obtain ⟨x10, e11, hf⟩ := nm_some hf
        refine lv_tope e11 ?_
        refine lv_istore (lv' := [(6, .int x10), (0, .ref h_t), (1, .int p1), (2, .int p2), (3, .int p3), (4, .int p4), (5, .int p5)]) hx hb dX10_fact_52 hl (by decide) rfl (fun ls hl => ?_)
        refine lv_aload_n hx hb dX10_fact_54 rfl (lv_at hl 1 rfl) ?_
        refine va_get (D := (dC, dI)) (ci := 8) (v := .ref h_t_book) (C := RX10) (T := TX10) (N := 32) hx hb hts (in1 tw_X10) hown hK hP 0 rfl rfl 0 (by decide) (hts _ (List.mem_cons_of_mem _ kw_116)) (fun _ h9 => h9) rfl dX10_fact_55 ?_
        refine lv_iload hx hb dX10_fact_58 (lv_at hl 0 rfl) ?_
        refine lv_iload_n hx hb dX10_fact_60 rfl (lv_at hl 2 rfl) ?_
        obtain ⟨g12, hf⟩ := chk_some hf
        obtain ⟨y13, e14, hf⟩ := nm_some hf
        refine va_iast hx hb hK hP hD hS 1 0 rfl rfl (gin_in g12) dX10_fact_61 (fun H locs hP hD hS => ?_)
        have hP : va_P (dC, dI) vwCl [(h_t, .inr (8, fX10 h_t_book h_t_images h_t_kept h_t_aside h_t_far h_t_then h_t_row h_t_mays h_t_firstRow h_t_low h_t_high t_noOlder t_thanThis t_known t_knownAge t_moved h_t_lowOne h_t_highOne h_t_ways t_met h_t_left t_hours t_greatest h_t_text t_typed t_at t_start t_token t_value h_t_verbs h_t_nums t_items)), (h_t_book, .inl (cI, 460, .inl y13))] H := by rw [e14]; exact hP
        have hD : va_D A [(h_t, .inr (8, fX10 h_t_book h_t_images h_t_kept h_t_aside h_t_far h_t_then h_t_row h_t_mays h_t_firstRow h_t_low h_t_high t_noOlder t_thanThis t_known t_knownAge t_moved h_t_lowOne h_t_highOne h_t_ways t_met h_t_left t_hours t_greatest h_t_text t_typed t_at t_start t_token t_value h_t_verbs h_t_nums t_items)), (h_t_book, .inl (cI, 460, .inl y13))] := by rw [e14]; exact hD
        refine lv_aload_n hx hb dX10_fact_62 rfl (lv_at hl 1 rfl) ?_
        refine va_get (D := (dC, dI)) (ci := 8) (v := .ref h_t_book) (C := RX10) (T := TX10) (N := 32) hx hb hts (in1 tw_X10) hown hK hP 0 rfl rfl 0 (by decide) (hts _ (List.mem_cons_of_mem _ kw_116)) (fun _ h9 => h9) rfl dX10_fact_63 ?_
        refine lv_iload hx hb dX10_fact_66 (lv_at hl 0 rfl) ?_
        refine lv_iconst (v := (1 : Int32)) hx hb dX10_fact_68 (by decide) ?_
        refine lv_iadd hx hb dX10_fact_69 ?_
        refine lv_iload_n hx hb dX10_fact_70 rfl (lv_at hl 3 rfl) ?_
        obtain ⟨g15, hf⟩ := chk_some hf
        obtain ⟨y16, e17, hf⟩ := nm_some hf
        refine va_iast hx hb hK hP hD hS 1 0 rfl rfl (gin_in g15) dX10_fact_71 (fun H locs hP hD hS => ?_)
        have hP : va_P (dC, dI) vwCl [(h_t, .inr (8, fX10 h_t_book h_t_images h_t_kept h_t_aside h_t_far h_t_then h_t_row h_t_mays h_t_firstRow h_t_low h_t_high t_noOlder t_thanThis t_known t_knownAge t_moved h_t_lowOne h_t_highOne h_t_ways t_met h_t_left t_hours t_greatest h_t_text t_typed t_at t_start t_token t_value h_t_verbs h_t_nums t_items)), (h_t_book, .inl (cI, 460, .inl y16))] H := by rw [e17]; exact hP
        have hD : va_D A [(h_t, .inr (8, fX10 h_t_book h_t_images h_t_kept h_t_aside h_t_far h_t_then h_t_row h_t_mays h_t_firstRow h_t_low h_t_high t_noOlder t_thanThis t_known t_knownAge t_moved h_t_lowOne h_t_highOne h_t_ways t_met h_t_left t_hours t_greatest h_t_text t_typed t_at t_start t_token t_value h_t_verbs h_t_nums t_items)), (h_t_book, .inl (cI, 460, .inl y16))] := by rw [e17]; exact hD
        refine lv_aload_n hx hb dX10_fact_72 rfl (lv_at hl 1 rfl) ?_
        refine va_get (D := (dC, dI)) (ci := 8) (v := .ref h_t_book) (C := RX10) (T := TX10) (N := 32) hx hb hts (in1 tw_X10) hown hK hP 0 rfl rfl 0 (by decide) (hts _ (List.mem_cons_of_mem _ kw_116)) (fun _ h9 => h9) rfl dX10_fact_73 ?_
        refine lv_iload hx hb dX10_fact_76 (lv_at hl 0 rfl) ?_
        refine lv_iconst (v := (2 : Int32)) hx hb dX10_fact_78 (by decide) ?_
        refine lv_iadd hx hb dX10_fact_79 ?_
        refine lv_iload_n hx hb dX10_fact_80 rfl (lv_at hl 4 rfl) ?_
        obtain ⟨g18, hf⟩ := chk_some hf
        obtain ⟨y19, e20, hf⟩ := nm_some hf
        refine va_iast hx hb hK hP hD hS 1 0 rfl rfl (gin_in g18) dX10_fact_81 (fun H locs hP hD hS => ?_)
        have hP : va_P (dC, dI) vwCl [(h_t, .inr (8, fX10 h_t_book h_t_images h_t_kept h_t_aside h_t_far h_t_then h_t_row h_t_mays h_t_firstRow h_t_low h_t_high t_noOlder t_thanThis t_known t_knownAge t_moved h_t_lowOne h_t_highOne h_t_ways t_met h_t_left t_hours t_greatest h_t_text t_typed t_at t_start t_token t_value h_t_verbs h_t_nums t_items)), (h_t_book, .inl (cI, 460, .inl y19))] H := by rw [e20]; exact hP
        have hD : va_D A [(h_t, .inr (8, fX10 h_t_book h_t_images h_t_kept h_t_aside h_t_far h_t_then h_t_row h_t_mays h_t_firstRow h_t_low h_t_high t_noOlder t_thanThis t_known t_knownAge t_moved h_t_lowOne h_t_highOne h_t_ways t_met h_t_left t_hours t_greatest h_t_text t_typed t_at t_start t_token t_value h_t_verbs h_t_nums t_items)), (h_t_book, .inl (cI, 460, .inl y19))] := by rw [e20]; exact hD
        refine lv_aload_n hx hb dX10_fact_82 rfl (lv_at hl 1 rfl) ?_
        refine va_get (D := (dC, dI)) (ci := 8) (v := .ref h_t_book) (C := RX10) (T := TX10) (N := 32) hx hb hts (in1 tw_X10) hown hK hP 0 rfl rfl 0 (by decide) (hts _ (List.mem_cons_of_mem _ kw_116)) (fun _ h9 => h9) rfl dX10_fact_83 ?_
        refine lv_iload hx hb dX10_fact_86 (lv_at hl 0 rfl) ?_
        refine lv_iconst (v := (3 : Int32)) hx hb dX10_fact_88 (by decide) ?_
        refine lv_iadd hx hb dX10_fact_89 ?_
        refine lv_iload hx hb dX10_fact_90 (lv_at hl 5 rfl) ?_
        obtain ⟨g21, hf⟩ := chk_some hf
        obtain ⟨y22, e23, hf⟩ := nm_some hf
        refine va_iast hx hb hK hP hD hS 1 0 rfl rfl (gin_in g21) dX10_fact_92 (fun H locs hP hD hS => ?_)
        have hP : va_P (dC, dI) vwCl [(h_t, .inr (8, fX10 h_t_book h_t_images h_t_kept h_t_aside h_t_far h_t_then h_t_row h_t_mays h_t_firstRow h_t_low h_t_high t_noOlder t_thanThis t_known t_knownAge t_moved h_t_lowOne h_t_highOne h_t_ways t_met h_t_left t_hours t_greatest h_t_text t_typed t_at t_start t_token t_value h_t_verbs h_t_nums t_items)), (h_t_book, .inl (cI, 460, .inl y22))] H := by rw [e23]; exact hP
        have hD : va_D A [(h_t, .inr (8, fX10 h_t_book h_t_images h_t_kept h_t_aside h_t_far h_t_then h_t_row h_t_mays h_t_firstRow h_t_low h_t_high t_noOlder t_thanThis t_known t_knownAge t_moved h_t_lowOne h_t_highOne h_t_ways t_met h_t_left t_hours t_greatest h_t_text t_typed t_at t_start t_token t_value h_t_verbs h_t_nums t_items)), (h_t_book, .inl (cI, 460, .inl y22))] := by rw [e23]; exact hD
        refine lv_aload_n hx hb dX10_fact_93 rfl (lv_at hl 1 rfl) ?_
        refine va_get (D := (dC, dI)) (ci := 8) (v := .ref h_t_book) (C := RX10) (T := TX10) (N := 32) hx hb hts (in1 tw_X10) hown hK hP 0 rfl rfl 0 (by decide) (hts _ (List.mem_cons_of_mem _ kw_116)) (fun _ h9 => h9) rfl dX10_fact_94 ?_
        refine lv_iload hx hb dX10_fact_97 (lv_at hl 0 rfl) ?_
        refine lv_iconst (v := (4 : Int32)) hx hb dX10_fact_99 (by decide) ?_
        refine lv_iadd hx hb dX10_fact_100 ?_
        refine lv_iload_n hx hb dX10_fact_101 rfl (lv_at hl 3 rfl) ?_
        refine lv_iconst (v := (1 : Int32)) hx hb dX10_fact_102 (by decide) ?_
        obtain ⟨x24, hg, hf⟩ := bd1_some hf
        have J25 : ∀ (H : Heap) (locs : List Loc), va_P (dC, dI) vwCl [(h_t, .inr (8, fX10 h_t_book h_t_images h_t_kept h_t_aside h_t_far h_t_then h_t_row h_t_mays h_t_firstRow h_t_low h_t_high t_noOlder t_thanThis t_known t_knownAge t_moved h_t_lowOne h_t_highOne h_t_ways t_met h_t_left t_hours t_greatest h_t_text t_typed t_at t_start t_token t_value h_t_verbs h_t_nums t_items)), (h_t_book, .inl (cI, 460, .inl y22))] H → va_D A [(h_t, .inr (8, fX10 h_t_book h_t_images h_t_kept h_t_aside h_t_far h_t_then h_t_row h_t_mays h_t_firstRow h_t_low h_t_high t_noOlder t_thanThis t_known t_knownAge t_moved h_t_lowOne h_t_highOne h_t_ways t_met h_t_left t_hours t_greatest h_t_text t_typed t_at t_start t_token t_value h_t_verbs h_t_nums t_items)), (h_t_book, .inl (cI, 460, .inl y22))] → va_S A s.heap H locs → ∀ ls : Array Slot, lv_has ls 7 [(0, .ref h_t)] → W p l e rmX10_fact s m args below meth c H locs 0 0 Q (F0 m 112 ls [.int x24, .int (x10 + (4 : Int32)), .ref h_t_book]) := by
          intro H locs hP hD hS ls hl
          obtain ⟨g26, hf⟩ := chk_some hf
          obtain ⟨y27, e28, hf⟩ := nm_some hf
          refine va_iast hx hb hK hP hD hS 1 0 rfl rfl (gin_in g26) dX10_fact_112 (fun H locs hP hD hS => ?_)
          have hP : va_P (dC, dI) vwCl [(h_t, .inr (8, fX10 h_t_book h_t_images h_t_kept h_t_aside h_t_far h_t_then h_t_row h_t_mays h_t_firstRow h_t_low h_t_high t_noOlder t_thanThis t_known t_knownAge t_moved h_t_lowOne h_t_highOne h_t_ways t_met h_t_left t_hours t_greatest h_t_text t_typed t_at t_start t_token t_value h_t_verbs h_t_nums t_items)), (h_t_book, .inl (cI, 460, .inl y27))] H := by rw [e28]; exact hP
          have hD : va_D A [(h_t, .inr (8, fX10 h_t_book h_t_images h_t_kept h_t_aside h_t_far h_t_then h_t_row h_t_mays h_t_firstRow h_t_low h_t_high t_noOlder t_thanThis t_known t_knownAge t_moved h_t_lowOne h_t_highOne h_t_ways t_met h_t_left t_hours t_greatest h_t_text t_typed t_at t_start t_token t_value h_t_verbs h_t_nums t_items)), (h_t_book, .inl (cI, 460, .inl y27))] := by rw [e28]; exact hD
          refine lv_aload_n hx hb dX10_fact_113 rfl (lv_at hl 0 rfl) ?_
          refine va_get (D := (dC, dI)) (ci := 8) (v := .ref h_t_book) (C := RX10) (T := TX10) (N := 32) hx hb hts (in1 tw_X10) hown hK hP 0 rfl rfl 0 (by decide) (hts _ (List.mem_cons_of_mem _ kw_116)) (fun _ h9 => h9) rfl dX10_fact_114 ?_
          refine lv_iconst (v := (4 : Int32)) hx hb dX10_fact_117 (by decide) ?_
          refine lv_dup2_11 hx hb dX10_fact_118 rfl rfl ?_
          obtain ⟨g29, hf⟩ := chk_some hf
          refine va_iald hx hb hK hP 1 0 rfl rfl (gin_in g29) dX10_fact_119 ?_
          refine lv_iconst (v := (1 : Int32)) hx hb dX10_fact_120 (by decide) ?_
          refine lv_iadd hx hb dX10_fact_121 ?_
          obtain ⟨x30, e31, hf⟩ := nm_some hf
          refine lv_tope e31 ?_
          obtain ⟨g32, hf⟩ := chk_some hf
          obtain ⟨y33, e34, hf⟩ := nm_some hf
          refine va_iast hx hb hK hP hD hS 1 0 rfl rfl (gin_in g32) dX10_fact_122 (fun H locs hP hD hS => ?_)
          have hP : va_P (dC, dI) vwCl [(h_t, .inr (8, fX10 h_t_book h_t_images h_t_kept h_t_aside h_t_far h_t_then h_t_row h_t_mays h_t_firstRow h_t_low h_t_high t_noOlder t_thanThis t_known t_knownAge t_moved h_t_lowOne h_t_highOne h_t_ways t_met h_t_left t_hours t_greatest h_t_text t_typed t_at t_start t_token t_value h_t_verbs h_t_nums t_items)), (h_t_book, .inl (cI, 460, .inl y33))] H := by rw [e34]; exact hP
          have hD : va_D A [(h_t, .inr (8, fX10 h_t_book h_t_images h_t_kept h_t_aside h_t_far h_t_then h_t_row h_t_mays h_t_firstRow h_t_low h_t_high t_noOlder t_thanThis t_known t_knownAge t_moved h_t_lowOne h_t_highOne h_t_ways t_met h_t_left t_hours t_greatest h_t_text t_typed t_at t_start t_token t_value h_t_verbs h_t_nums t_items)), (h_t_book, .inl (cI, 460, .inl y33))] := by rw [e34]; exact hD
          refine lv_aload_n hx hb dX10_fact_123 rfl (lv_at hl 0 rfl) ?_
          refine va_get (D := (dC, dI)) (ci := 8) (v := .ref h_t_book) (C := RX10) (T := TX10) (N := 32) hx hb hts (in1 tw_X10) hown hK hP 0 rfl rfl 0 (by decide) (hts _ (List.mem_cons_of_mem _ kw_116)) (fun _ h9 => h9) rfl dX10_fact_124 ?_
          refine lv_iconst (v := (4 : Int32)) hx hb dX10_fact_127 (by decide) ?_
          obtain ⟨g35, hf⟩ := chk_some hf
          refine va_iald hx hb hK hP 1 0 rfl rfl (gin_in g35) dX10_fact_128 ?_
          refine lv_iconst (v := (1 : Int32)) hx hb dX10_fact_129 (by decide) ?_
          refine lv_isub hx hb dX10_fact_130 ?_
          obtain ⟨rfl, rfl⟩ := inj2 hf
          subst hQ
          exact CM_iret hx hb hr rfl hlocks hAe hP hD hS dX10_fact_131
        clear hf
        have hf := hg
        refine lv_icmp_ne (tgt := 111) hx hb dX10_fact_103 (by decide) (fun c36 => ?_) (fun c36 => ?_)
        · replace hf := ifn c36 hf
          refine lv_iconst (v := (0 : Int32)) hx hb dX10_fact_111 (by decide) ?_
          obtain rfl := inj1 hf
          exact J25 _ _ hP hD hS _ (lv_sub hl [1] rfl)
        · replace hf := ifp c36 hf
          refine lv_iload hx hb dX10_fact_106 (lv_at hl 6 rfl) ?_
          refine lv_goto (tgt := 112) hx hb dX10_fact_108 (by decide) ?_
          obtain rfl := inj1 hf
          exact J25 _ _ hP hD hS _ (lv_sub hl [1] rfl)
      · replace hf := ifp c8 hf
        refine lv_bipush (v := (-4 : Int32)) hx hb dX10_fact_37 (by decide) ?_
        obtain ⟨rfl, rfl⟩ := inj2 hf
        subst hQ
        exact CM_iret hx hb hr rfl hlocks hAe hP hD hS dX10_fact_39
    · replace hf := ifp c6 hf
      refine lv_bipush (v := (-2 : Int32)) hx hb dX10_fact_23 (by decide) ?_
      obtain ⟨rfl, rfl⟩ := inj2 hf
      subst hQ
      exact CM_iret hx hb hr rfl hlocks hAe hP hD hS dX10_fact_25
def rmX10_factAt : Room := { frames := 0, cells := 0, slots := 0, locals := 0 }
abbrev wqX10_factAt : List Cond := Cond.code yX10_factAt cX10_factAt 3 (some .int) :: tG
set_option maxHeartbeats 4000000 in
set_option maxRecDepth 100000 in
theorem c_X10_factAt (l : Launch) (dC : Nat → ClassId) (dI : Nat → Nat → Nat) (cI cZ : ClassId) (te : Nat → Nat) (h_t : Nat) (h_t_book : Nat) (h_t_images : Nat) (h_t_kept : Nat) (h_t_aside : Nat) (h_t_far : Nat) (h_t_then : Nat) (h_t_row : Nat) (h_t_mays : Nat) (h_t_firstRow : Nat) (h_t_low : Nat) (h_t_high : Nat) (h_t_lowOne : Nat) (h_t_highOne : Nat) (h_t_ways : Nat) (h_t_left : Nat) (h_t_text : Nat) (h_t_verbs : Nat) (h_t_nums : Nat) (t_noOlder : Int32) (t_thanThis : Int32) (t_known : Int32) (t_knownAge : Int32) (t_moved : Int32) (t_met : Int32) (t_hours : Int32) (t_greatest : Int32) (t_typed : Int32) (t_at : Int32) (t_start : Int32) (t_token : Int32) (t_value : Int32) (t_items : Int32) (t_book : Nat → Int32) (p1 : Int32) (p2 : Int32) (o0 : Int32) (hf : f_X10_factAt t_book p1 p2 = some o0) : CM l yX10_factAt wqX10_factAt rmX10_factAt (kS te) dC dI cI cZ [.ref h_t, .int p1, .int p2] [(h_t, .inr (8, fX10 h_t_book h_t_images h_t_kept h_t_aside h_t_far h_t_then h_t_row h_t_mays h_t_firstRow h_t_low h_t_high t_noOlder t_thanThis t_known t_knownAge t_moved h_t_lowOne h_t_highOne h_t_ways t_met h_t_left t_hours t_greatest h_t_text t_typed t_at t_start t_token t_value h_t_verbs h_t_nums t_items)), (h_t_book, .inl (cI, 460, .inl t_book))] [(h_t, .inr (8, fX10 h_t_book h_t_images h_t_kept h_t_aside h_t_far h_t_then h_t_row h_t_mays h_t_firstRow h_t_low h_t_high t_noOlder t_thanThis t_known t_knownAge t_moved h_t_lowOne h_t_highOne h_t_ways t_met h_t_left t_hours t_greatest h_t_text t_typed t_at t_start t_token t_value h_t_verbs h_t_nums t_items)), (h_t_book, .inl (cI, 460, .inl t_book))] (some (.int o0)) := by
  refine CM_of (cc := cX10_factAt) (maxL := 3) (ret := (some .int)) (by decide +kernel) rfl (Nat.le_of_ble_eq_true rfl) ?_
  intro p e s m args below meth c A Q hx hb hr hml hown hts hlocks hA hK hP hD hS hE hQ hAe ls hl
  have hown : s.vm.findClass RX10 = some m.cls := hown
  have hl : lv_has ls 3 [(0, .ref h_t), (1, .int p1), (2, .int p2)] := hl
  unfold f_X10_factAt at hf
  refine lv_aload_n hx hb dX10_factAt_0 rfl (lv_at hl 0 rfl) ?_
  refine va_get (D := (dC, dI)) (ci := 8) (v := .ref h_t_book) (C := RX10) (T := TX10) (N := 32) hx hb hts (in1 tw_X10) hown hK hP 0 rfl rfl 0 (by decide) (hts _ (List.mem_cons_of_mem _ kw_116)) (fun _ h9 => h9) rfl dX10_factAt_1 ?_
  refine lv_sipush (v := (290 : Int32)) hx hb dX10_factAt_4 (by decide) ?_
  refine lv_iconst (v := (5 : Int32)) hx hb dX10_factAt_7 (by decide) ?_
  refine lv_iload_n hx hb dX10_factAt_8 rfl (lv_at hl 1 rfl) ?_
  refine lv_imul hx hb dX10_factAt_9 ?_
  refine lv_iadd hx hb dX10_factAt_10 ?_
  refine lv_iload_n hx hb dX10_factAt_11 rfl (lv_at hl 2 rfl) ?_
  refine lv_iadd hx hb dX10_factAt_12 ?_
  obtain ⟨g1, hf⟩ := chk_some hf
  refine va_iald hx hb hK hP 1 0 rfl rfl (gin_in g1) dX10_factAt_13 ?_
  obtain rfl := inj1 hf
  subst hQ
  exact CM_iret hx hb hr rfl hlocks hAe hP hD hS dX10_factAt_14
def rmX10_atLeast : Room := { frames := 0, cells := 0, slots := 0, locals := 0 }
abbrev wqX10_atLeast : List Cond := Cond.code yX10_atLeast cX10_atLeast 3 none :: tG
set_option maxHeartbeats 4000000 in
set_option maxRecDepth 100000 in
theorem c_X10_atLeast (l : Launch) (dC : Nat → ClassId) (dI : Nat → Nat → Nat) (cI cZ : ClassId) (te : Nat → Nat) (h_t : Nat) (h_t_book : Nat) (h_t_images : Nat) (h_t_kept : Nat) (h_t_aside : Nat) (h_t_far : Nat) (h_t_then : Nat) (h_t_row : Nat) (h_t_mays : Nat) (h_t_firstRow : Nat) (h_t_low : Nat) (h_t_high : Nat) (h_t_lowOne : Nat) (h_t_highOne : Nat) (h_t_ways : Nat) (h_t_left : Nat) (h_t_text : Nat) (h_t_verbs : Nat) (h_t_nums : Nat) (t_noOlder : Int32) (t_thanThis : Int32) (t_known : Int32) (t_knownAge : Int32) (t_moved : Int32) (t_met : Int32) (t_hours : Int32) (t_greatest : Int32) (t_typed : Int32) (t_at : Int32) (t_start : Int32) (t_token : Int32) (t_value : Int32) (t_items : Int32) (t_low : Nat → Int32) (p1 : Int32) (p2 : Int32) (o0 : Int32) (o1 : Nat → Int32) (hf : f_X10_atLeast t_moved t_low p1 p2 = some (o0, o1)) : CM l yX10_atLeast wqX10_atLeast rmX10_atLeast (kS te) dC dI cI cZ [.ref h_t, .int p1, .int p2] [(h_t, .inr (8, fX10 h_t_book h_t_images h_t_kept h_t_aside h_t_far h_t_then h_t_row h_t_mays h_t_firstRow h_t_low h_t_high t_noOlder t_thanThis t_known t_knownAge t_moved h_t_lowOne h_t_highOne h_t_ways t_met h_t_left t_hours t_greatest h_t_text t_typed t_at t_start t_token t_value h_t_verbs h_t_nums t_items)), (h_t_low, .inl (cI, 8, .inl t_low))] [(h_t, .inr (8, fX10 h_t_book h_t_images h_t_kept h_t_aside h_t_far h_t_then h_t_row h_t_mays h_t_firstRow h_t_low h_t_high t_noOlder t_thanThis t_known t_knownAge o0 h_t_lowOne h_t_highOne h_t_ways t_met h_t_left t_hours t_greatest h_t_text t_typed t_at t_start t_token t_value h_t_verbs h_t_nums t_items)), (h_t_low, .inl (cI, 8, .inl o1))] none := by
  refine CM_of (cc := cX10_atLeast) (maxL := 3) (ret := none) (by decide +kernel) rfl (Nat.le_of_ble_eq_true rfl) ?_
  intro p e s m args below meth c A Q hx hb hr hml hown hts hlocks hA hK hP hD hS hE hQ hAe ls hl
  have hown : s.vm.findClass RX10 = some m.cls := hown
  have hl : lv_has ls 3 [(0, .ref h_t), (1, .int p1), (2, .int p2)] := hl
  unfold f_X10_atLeast at hf
  refine lv_aload_n hx hb dX10_atLeast_0 rfl (lv_at hl 0 rfl) ?_
  refine lv_aload_n hx hb dX10_atLeast_1 rfl (lv_at hl 0 rfl) ?_
  refine va_get (D := (dC, dI)) (ci := 8) (v := .int t_moved) (C := RX10) (T := TX10) (N := 32) hx hb hts (in1 tw_X10) hown hK hP 0 rfl rfl 15 (by decide) (hts _ (List.mem_cons_of_mem _ kw_234)) (fun _ h9 => h9) rfl dX10_atLeast_2 ?_
  obtain ⟨x1, hg, hf⟩ := bd1_some hf
  have J2 : ∀ (H : Heap) (locs : List Loc), va_P (dC, dI) vwCl [(h_t, .inr (8, fX10 h_t_book h_t_images h_t_kept h_t_aside h_t_far h_t_then h_t_row h_t_mays h_t_firstRow h_t_low h_t_high t_noOlder t_thanThis t_known t_knownAge t_moved h_t_lowOne h_t_highOne h_t_ways t_met h_t_left t_hours t_greatest h_t_text t_typed t_at t_start t_token t_value h_t_verbs h_t_nums t_items)), (h_t_low, .inl (cI, 8, .inl t_low))] H → va_D A [(h_t, .inr (8, fX10 h_t_book h_t_images h_t_kept h_t_aside h_t_far h_t_then h_t_row h_t_mays h_t_firstRow h_t_low h_t_high t_noOlder t_thanThis t_known t_knownAge t_moved h_t_lowOne h_t_highOne h_t_ways t_met h_t_left t_hours t_greatest h_t_text t_typed t_at t_start t_token t_value h_t_verbs h_t_nums t_items)), (h_t_low, .inl (cI, 8, .inl t_low))] → va_S A s.heap H locs → ∀ ls : Array Slot, lv_has ls 3 [(0, .ref h_t), (1, .int p1), (2, .int p2)] → W p l e rmX10_atLeast s m args below meth c H locs 0 0 Q (F0 m 23 ls [.int x1, .ref h_t]) := by
    intro H locs hP hD hS ls hl
    obtain ⟨g3, hf⟩ := chk_some hf
    refine va_put (D := (dC, dI)) (ci := 8) (v := .int x1) (ty := tyX10 15) (C := RX10) (T := TX10) (N := 32) hx hb hts (in1 tw_X10) tyX10 tyX10_ok nmX10 hown hK hP hD hS 0 rfl rfl 15 (by decide) (hts _ (List.mem_cons_of_mem _ kw_234)) (fun _ h9 => h9) rfl (tyX10_ok 15 (by decide)) (gz_n g3) (gz_f g3) (Nat.le_of_ble_eq_true rfl) dX10_atLeast_23 (fun H locs hP hD hS => ?_)
    have hP : va_P (dC, dI) vwCl [(h_t, .inr (8, fX10 h_t_book h_t_images h_t_kept h_t_aside h_t_far h_t_then h_t_row h_t_mays h_t_firstRow h_t_low h_t_high t_noOlder t_thanThis t_known t_knownAge x1 h_t_lowOne h_t_highOne h_t_ways t_met h_t_left t_hours t_greatest h_t_text t_typed t_at t_start t_token t_value h_t_verbs h_t_nums t_items)), (h_t_low, .inl (cI, 8, .inl t_low))] H := hP
    have hD : va_D A [(h_t, .inr (8, fX10 h_t_book h_t_images h_t_kept h_t_aside h_t_far h_t_then h_t_row h_t_mays h_t_firstRow h_t_low h_t_high t_noOlder t_thanThis t_known t_knownAge x1 h_t_lowOne h_t_highOne h_t_ways t_met h_t_left t_hours t_greatest h_t_text t_typed t_at t_start t_token t_value h_t_verbs h_t_nums t_items)), (h_t_low, .inl (cI, 8, .inl t_low))] := hD
    refine lv_aload_n hx hb dX10_atLeast_26 rfl (lv_at hl 0 rfl) ?_
    refine va_get (D := (dC, dI)) (ci := 8) (v := .ref h_t_low) (C := RX10) (T := TX10) (N := 32) hx hb hts (in1 tw_X10) hown hK hP 0 rfl rfl 9 (by decide) (hts _ (List.mem_cons_of_mem _ kw_126)) (fun _ h9 => h9) rfl dX10_atLeast_27 ?_
    refine lv_iload_n hx hb dX10_atLeast_30 rfl (lv_at hl 1 rfl) ?_
    refine lv_iload_n hx hb dX10_atLeast_31 rfl (lv_at hl 2 rfl) ?_
    refine lv_aload_n hx hb dX10_atLeast_32 rfl (lv_at hl 0 rfl) ?_
    refine va_get (D := (dC, dI)) (ci := 8) (v := .ref h_t_low) (C := RX10) (T := TX10) (N := 32) hx hb hts (in1 tw_X10) hown hK hP 0 rfl rfl 9 (by decide) (hts _ (List.mem_cons_of_mem _ kw_126)) (fun _ h9 => h9) rfl dX10_atLeast_33 ?_
    refine lv_iload_n hx hb dX10_atLeast_36 rfl (lv_at hl 1 rfl) ?_
    obtain ⟨g4, hf⟩ := chk_some hf
    refine va_iald hx hb hK hP 1 0 rfl rfl (gin_in g4) dX10_atLeast_37 ?_
    obtain ⟨x5, hg, hf⟩ := bd1_some hf
    have J6 : ∀ (H : Heap) (locs : List Loc), va_P (dC, dI) vwCl [(h_t, .inr (8, fX10 h_t_book h_t_images h_t_kept h_t_aside h_t_far h_t_then h_t_row h_t_mays h_t_firstRow h_t_low h_t_high t_noOlder t_thanThis t_known t_knownAge x1 h_t_lowOne h_t_highOne h_t_ways t_met h_t_left t_hours t_greatest h_t_text t_typed t_at t_start t_token t_value h_t_verbs h_t_nums t_items)), (h_t_low, .inl (cI, 8, .inl t_low))] H → va_D A [(h_t, .inr (8, fX10 h_t_book h_t_images h_t_kept h_t_aside h_t_far h_t_then h_t_row h_t_mays h_t_firstRow h_t_low h_t_high t_noOlder t_thanThis t_known t_knownAge x1 h_t_lowOne h_t_highOne h_t_ways t_met h_t_left t_hours t_greatest h_t_text t_typed t_at t_start t_token t_value h_t_verbs h_t_nums t_items)), (h_t_low, .inl (cI, 8, .inl t_low))] → va_S A s.heap H locs → ∀ ls : Array Slot, lv_has ls 3 [] → W p l e rmX10_atLeast s m args below meth c H locs 0 0 Q (F0 m 51 ls [.int x5, .int p1, .ref h_t_low]) := by
      intro H locs hP hD hS ls hl
      obtain ⟨g7, hf⟩ := chk_some hf
      obtain ⟨y8, e9, hf⟩ := nm_some hf
      refine va_iast hx hb hK hP hD hS 1 0 rfl rfl (gin_in g7) dX10_atLeast_51 (fun H locs hP hD hS => ?_)
      have hP : va_P (dC, dI) vwCl [(h_t, .inr (8, fX10 h_t_book h_t_images h_t_kept h_t_aside h_t_far h_t_then h_t_row h_t_mays h_t_firstRow h_t_low h_t_high t_noOlder t_thanThis t_known t_knownAge x1 h_t_lowOne h_t_highOne h_t_ways t_met h_t_left t_hours t_greatest h_t_text t_typed t_at t_start t_token t_value h_t_verbs h_t_nums t_items)), (h_t_low, .inl (cI, 8, .inl y8))] H := by rw [e9]; exact hP
      have hD : va_D A [(h_t, .inr (8, fX10 h_t_book h_t_images h_t_kept h_t_aside h_t_far h_t_then h_t_row h_t_mays h_t_firstRow h_t_low h_t_high t_noOlder t_thanThis t_known t_knownAge x1 h_t_lowOne h_t_highOne h_t_ways t_met h_t_left t_hours t_greatest h_t_text t_typed t_at t_start t_token t_value h_t_verbs h_t_nums t_items)), (h_t_low, .inl (cI, 8, .inl y8))] := by rw [e9]; exact hD
      obtain ⟨rfl, rfl⟩ := inj2 hf
      subst hQ
      exact CM_vret hx hb hr hlocks hAe hP hD hS dX10_atLeast_52
    clear hf
    have hf := hg
    refine lv_icmp_le (tgt := 45) hx hb dX10_atLeast_38 (by decide) (fun c10 => ?_) (fun c10 => ?_)
    · replace hf := ifp c10 hf
      refine lv_aload_n hx hb dX10_atLeast_45 rfl (lv_at hl 0 rfl) ?_
      refine va_get (D := (dC, dI)) (ci := 8) (v := .ref h_t_low) (C := RX10) (T := TX10) (N := 32) hx hb hts (in1 tw_X10) hown hK hP 0 rfl rfl 9 (by decide) (hts _ (List.mem_cons_of_mem _ kw_126)) (fun _ h9 => h9) rfl dX10_atLeast_46 ?_
      refine lv_iload_n hx hb dX10_atLeast_49 rfl (lv_at hl 1 rfl) ?_
      obtain ⟨g11, hf⟩ := chk_some hf
      refine va_iald hx hb hK hP 1 0 rfl rfl (gin_in g11) dX10_atLeast_50 ?_
      obtain rfl := inj1 hf
      exact J6 _ _ hP hD hS _ (lv_sub hl [] rfl)
    · replace hf := ifn c10 hf
      refine lv_iload_n hx hb dX10_atLeast_41 rfl (lv_at hl 2 rfl) ?_
      refine lv_goto (tgt := 51) hx hb dX10_atLeast_42 (by decide) ?_
      obtain rfl := inj1 hf
      exact J6 _ _ hP hD hS _ (lv_sub hl [] rfl)
  clear hf
  have hf := hg
  refine lv_if_ne (tgt := 18) hx hb dX10_atLeast_5 (by decide) (fun c12 => ?_) (fun c12 => ?_)
  · replace hf := ifn c12 hf
    refine lv_iconst (v := (1 : Int32)) hx hb dX10_atLeast_18 (by decide) ?_
    refine lv_goto (tgt := 23) hx hb dX10_atLeast_19 (by decide) ?_
    obtain rfl := inj1 hf
    exact J2 _ _ hP hD hS _ (lv_sub hl [0, 1, 2] rfl)
  · replace hf := ifp c12 hf
    refine lv_iload_n hx hb dX10_atLeast_8 rfl (lv_at hl 2 rfl) ?_
    refine lv_aload_n hx hb dX10_atLeast_9 rfl (lv_at hl 0 rfl) ?_
    refine va_get (D := (dC, dI)) (ci := 8) (v := .ref h_t_low) (C := RX10) (T := TX10) (N := 32) hx hb hts (in1 tw_X10) hown hK hP 0 rfl rfl 9 (by decide) (hts _ (List.mem_cons_of_mem _ kw_126)) (fun _ h9 => h9) rfl dX10_atLeast_10 ?_
    refine lv_iload_n hx hb dX10_atLeast_13 rfl (lv_at hl 1 rfl) ?_
    obtain ⟨g13, hf⟩ := chk_some hf
    refine va_iald hx hb hK hP 1 0 rfl rfl (gin_in g13) dX10_atLeast_14 ?_
    refine lv_icmp_le (tgt := 22) hx hb dX10_atLeast_15 (by decide) (fun c14 => ?_) (fun c14 => ?_)
    · replace hf := ifp c14 hf
      refine lv_iconst (v := (0 : Int32)) hx hb dX10_atLeast_22 (by decide) ?_
      obtain rfl := inj1 hf
      exact J2 _ _ hP hD hS _ (lv_sub hl [0, 1, 2] rfl)
    · replace hf := ifn c14 hf
      refine lv_iconst (v := (1 : Int32)) hx hb dX10_atLeast_18 (by decide) ?_
      refine lv_goto (tgt := 23) hx hb dX10_atLeast_19 (by decide) ?_
      obtain rfl := inj1 hf
      exact J2 _ _ hP hD hS _ (lv_sub hl [0, 1, 2] rfl)
