def rmX10_carries : Room := { frames := 3, cells := 0, slots := 0, locals := 74 }
abbrev wqX10_carries : List Cond := Cond.code yX10_carries cX10_carries 7 none :: tG
set_option maxHeartbeats 4000000 in
set_option maxRecDepth 100000 in
theorem c_X10_carries (l : Launch) (dC : Nat → ClassId) (dI : Nat → Nat → Nat) (cI cZ : ClassId) (te : Nat → Nat) (h_t : Nat) (h_t_book : Nat) (h_t_images : Nat) (h_t_kept : Nat) (h_t_aside : Nat) (h_t_far : Nat) (h_t_then : Nat) (h_t_row : Nat) (h_t_mays : Nat) (h_t_firstRow : Nat) (h_t_low : Nat) (h_t_high : Nat) (h_t_lowOne : Nat) (h_t_highOne : Nat) (h_t_ways : Nat) (h_t_left : Nat) (h_t_text : Nat) (h_t_verbs : Nat) (h_t_nums : Nat) (t_noOlder : Int32) (t_thanThis : Int32) (t_known : Int32) (t_knownAge : Int32) (t_moved : Int32) (t_met : Int32) (t_hours : Int32) (t_greatest : Int32) (t_typed : Int32) (t_at : Int32) (t_start : Int32) (t_token : Int32) (t_value : Int32) (t_items : Int32) (t_far : Nat → Int32) (t_then : Nat → Int32) (t_book : Nat → Int32) (p1 : Int32) (o0 : Nat → Int32) (o1 : Nat → Int32) (hf : f_X10_carries t_far t_then t_book p1 = some (o0, o1)) : CM l yX10_carries wqX10_carries rmX10_carries (kS te) dC dI cI cZ [.ref h_t, .int p1] [(h_t, .inr (8, fX10 h_t_book h_t_images h_t_kept h_t_aside h_t_far h_t_then h_t_row h_t_mays h_t_firstRow h_t_low h_t_high t_noOlder t_thanThis t_known t_knownAge t_moved h_t_lowOne h_t_highOne h_t_ways t_met h_t_left t_hours t_greatest h_t_text t_typed t_at t_start t_token t_value h_t_verbs h_t_nums t_items)), (h_t_far, .inl (cI, 64, .inl t_far)), (h_t_then, .inl (cI, 64, .inl t_then)), (h_t_book, .inl (cI, 460, .inl t_book))] [(h_t, .inr (8, fX10 h_t_book h_t_images h_t_kept h_t_aside h_t_far h_t_then h_t_row h_t_mays h_t_firstRow h_t_low h_t_high t_noOlder t_thanThis t_known t_knownAge t_moved h_t_lowOne h_t_highOne h_t_ways t_met h_t_left t_hours t_greatest h_t_text t_typed t_at t_start t_token t_value h_t_verbs h_t_nums t_items)), (h_t_far, .inl (cI, 64, .inl o0)), (h_t_then, .inl (cI, 64, .inl o1)), (h_t_book, .inl (cI, 460, .inl t_book))] none := by
  refine CM_of (cc := cX10_carries) (maxL := 7) (ret := none) (by decide +kernel) rfl (Nat.le_of_ble_eq_true rfl) ?_
  intro p e s m args below meth c A Q hx hb hr hml hown hts hlocks hA hK hP hD hS hE hQ hAe ls hl
  have hown : s.vm.findClass RX10 = some m.cls := hown
  have hl : lv_has ls 7 [(0, .ref h_t), (1, .int p1)] := hl
  unfold f_X10_carries at hf
  refine lv_iconst (v := (0 : Int32)) hx hb dX10_carries_0 (by decide) ?_
  refine lv_istore_n (lv' := [(2, .int (0 : Int32)), (0, .ref h_t), (1, .int p1)]) hx hb dX10_carries_1 rfl hl (by decide) rfl (fun ls hl => ?_)
  have L23 : ∀ (fu14 : Nat) (y11 : Nat → Int32) (x12 : Int32) (y10 : Nat → Int32), f_X10_carries_L1 p1 fu14 y11 x12 = some y10 → (∀ (H : Heap) (locs : List Loc), va_P (dC, dI) vwCl [(h_t, .inr (8, fX10 h_t_book h_t_images h_t_kept h_t_aside h_t_far h_t_then h_t_row h_t_mays h_t_firstRow h_t_low h_t_high t_noOlder t_thanThis t_known t_knownAge t_moved h_t_lowOne h_t_highOne h_t_ways t_met h_t_left t_hours t_greatest h_t_text t_typed t_at t_start t_token t_value h_t_verbs h_t_nums t_items)), (h_t_far, .inl (cI, 64, .inl y10)), (h_t_then, .inl (cI, 64, .inl t_then)), (h_t_book, .inl (cI, 460, .inl t_book))] H → va_D A [(h_t, .inr (8, fX10 h_t_book h_t_images h_t_kept h_t_aside h_t_far h_t_then h_t_row h_t_mays h_t_firstRow h_t_low h_t_high t_noOlder t_thanThis t_known t_knownAge t_moved h_t_lowOne h_t_highOne h_t_ways t_met h_t_left t_hours t_greatest h_t_text t_typed t_at t_start t_token t_value h_t_verbs h_t_nums t_items)), (h_t_far, .inl (cI, 64, .inl y10)), (h_t_then, .inl (cI, 64, .inl t_then)), (h_t_book, .inl (cI, 460, .inl t_book))] → va_S A s.heap H locs → ∀ ls : Array Slot, lv_has ls 7 [(0, .ref h_t)] → W p l e rmX10_carries s m args below meth c H locs 0 0 Q (F0 m 31 ls [])) → ∀ (H : Heap) (locs : List Loc), va_P (dC, dI) vwCl [(h_t, .inr (8, fX10 h_t_book h_t_images h_t_kept h_t_aside h_t_far h_t_then h_t_row h_t_mays h_t_firstRow h_t_low h_t_high t_noOlder t_thanThis t_known t_knownAge t_moved h_t_lowOne h_t_highOne h_t_ways t_met h_t_left t_hours t_greatest h_t_text t_typed t_at t_start t_token t_value h_t_verbs h_t_nums t_items)), (h_t_far, .inl (cI, 64, .inl y11)), (h_t_then, .inl (cI, 64, .inl t_then)), (h_t_book, .inl (cI, 460, .inl t_book))] H → va_D A [(h_t, .inr (8, fX10 h_t_book h_t_images h_t_kept h_t_aside h_t_far h_t_then h_t_row h_t_mays h_t_firstRow h_t_low h_t_high t_noOlder t_thanThis t_known t_knownAge t_moved h_t_lowOne h_t_highOne h_t_ways t_met h_t_left t_hours t_greatest h_t_text t_typed t_at t_start t_token t_value h_t_verbs h_t_nums t_items)), (h_t_far, .inl (cI, 64, .inl y11)), (h_t_then, .inl (cI, 64, .inl t_then)), (h_t_book, .inl (cI, 460, .inl t_book))] → va_S A s.heap H locs → ∀ ls : Array Slot, lv_has ls 7 [(0, .ref h_t), (1, .int p1), (2, .int x12)] → W p l e rmX10_carries s m args below meth c H locs 0 0 Q (F0 m 2 ls []) := by
    intro fu14
    induction fu14 with
    | zero =>
      intro y11 x12 y10 hf
      unfold f_X10_carries_L1 at hf
      exact none_ne hf
    | succ fu14 ih13 =>
      intro y11 x12 y10 hf hX15 H locs hP hD hS ls hl
      unfold f_X10_carries_L1 at hf
      refine lv_iload_n hx hb dX10_carries_2 rfl (lv_at hl 2 rfl) ?_
      refine lv_bipush (v := (64 : Int32)) hx hb dX10_carries_3 (by decide) ?_
      refine lv_icmp_ge (tgt := 31) hx hb dX10_carries_5 (by decide) (fun c16 => ?_) (fun c16 => ?_)
      · replace hf := ifp c16 hf
        obtain rfl := inj1 hf
        exact hX15 _ _ hP hD hS _ (lv_sub hl [0] rfl)
      · replace hf := ifn c16 hf
        refine lv_aload_n hx hb dX10_carries_8 rfl (lv_at hl 0 rfl) ?_
        refine va_get (D := (dC, dI)) (ci := 8) (v := .ref h_t_far) (C := RX10) (T := TX10) (N := 32) hx hb hts (in1 tw_X10) hown hK hP 0 rfl rfl 4 (by decide) (hts _ (List.mem_cons_of_mem _ kw_121)) (fun _ h9 => h9) rfl dX10_carries_9 ?_
        refine lv_iload_n hx hb dX10_carries_12 rfl (lv_at hl 2 rfl) ?_
        refine lv_iload_n hx hb dX10_carries_13 rfl (lv_at hl 2 rfl) ?_
        refine lv_iload_n hx hb dX10_carries_14 rfl (lv_at hl 1 rfl) ?_
        obtain ⟨x17, hg, hf⟩ := bd1_some hf
        have J18 : ∀ (H : Heap) (locs : List Loc), va_P (dC, dI) vwCl [(h_t, .inr (8, fX10 h_t_book h_t_images h_t_kept h_t_aside h_t_far h_t_then h_t_row h_t_mays h_t_firstRow h_t_low h_t_high t_noOlder t_thanThis t_known t_knownAge t_moved h_t_lowOne h_t_highOne h_t_ways t_met h_t_left t_hours t_greatest h_t_text t_typed t_at t_start t_token t_value h_t_verbs h_t_nums t_items)), (h_t_far, .inl (cI, 64, .inl y11)), (h_t_then, .inl (cI, 64, .inl t_then)), (h_t_book, .inl (cI, 460, .inl t_book))] H → va_D A [(h_t, .inr (8, fX10 h_t_book h_t_images h_t_kept h_t_aside h_t_far h_t_then h_t_row h_t_mays h_t_firstRow h_t_low h_t_high t_noOlder t_thanThis t_known t_knownAge t_moved h_t_lowOne h_t_highOne h_t_ways t_met h_t_left t_hours t_greatest h_t_text t_typed t_at t_start t_token t_value h_t_verbs h_t_nums t_items)), (h_t_far, .inl (cI, 64, .inl y11)), (h_t_then, .inl (cI, 64, .inl t_then)), (h_t_book, .inl (cI, 460, .inl t_book))] → va_S A s.heap H locs → ∀ ls : Array Slot, lv_has ls 7 [(0, .ref h_t), (1, .int p1), (2, .int x12)] → W p l e rmX10_carries s m args below meth c H locs 0 0 Q (F0 m 24 ls [.int x17, .int x12, .ref h_t_far]) := by
          intro H locs hP hD hS ls hl
          obtain ⟨g19, hf⟩ := chk_some hf
          obtain ⟨y20, e21, hf⟩ := nm_some hf
          refine va_iast hx hb hK hP hD hS 1 0 rfl rfl (gin_in g19) dX10_carries_24 (fun H locs hP hD hS => ?_)
          have hP : va_P (dC, dI) vwCl [(h_t, .inr (8, fX10 h_t_book h_t_images h_t_kept h_t_aside h_t_far h_t_then h_t_row h_t_mays h_t_firstRow h_t_low h_t_high t_noOlder t_thanThis t_known t_knownAge t_moved h_t_lowOne h_t_highOne h_t_ways t_met h_t_left t_hours t_greatest h_t_text t_typed t_at t_start t_token t_value h_t_verbs h_t_nums t_items)), (h_t_far, .inl (cI, 64, .inl y20)), (h_t_then, .inl (cI, 64, .inl t_then)), (h_t_book, .inl (cI, 460, .inl t_book))] H := by rw [e21]; exact hP
          have hD : va_D A [(h_t, .inr (8, fX10 h_t_book h_t_images h_t_kept h_t_aside h_t_far h_t_then h_t_row h_t_mays h_t_firstRow h_t_low h_t_high t_noOlder t_thanThis t_known t_knownAge t_moved h_t_lowOne h_t_highOne h_t_ways t_met h_t_left t_hours t_greatest h_t_text t_typed t_at t_start t_token t_value h_t_verbs h_t_nums t_items)), (h_t_far, .inl (cI, 64, .inl y20)), (h_t_then, .inl (cI, 64, .inl t_then)), (h_t_book, .inl (cI, 460, .inl t_book))] := by rw [e21]; exact hD
          refine lv_iinc (v := (x12 + (1 : Int32))) (lv' := [(2, .int (x12 + (1 : Int32))), (0, .ref h_t), (1, .int p1)]) hx hb dX10_carries_25 hl (k := 2) rfl rfl (by decide) rfl (fun ls hl => ?_)
          refine lv_goto (tgt := 2) hx hb dX10_carries_28 (by decide) ?_
          exact ih13 _ _ _ hf hX15 _ _ hP hD hS _ (lv_sub hl [1, 2, 0] rfl)
        clear hf
        have hf := hg
        refine lv_icmp_ne (tgt := 22) hx hb dX10_carries_15 (by decide) (fun c22 => ?_) (fun c22 => ?_)
        · replace hf := ifn c22 hf
          refine lv_ldc (v := (1000000 : Int32)) hx hb hown (hts _ (List.mem_cons_of_mem _ kw_192)) dX10_carries_22 ?_
          obtain rfl := inj1 hf
          exact J18 _ _ hP hD hS _ (lv_sub hl [0, 1, 2] rfl)
        · replace hf := ifp c22 hf
          refine lv_iconst (v := (0 : Int32)) hx hb dX10_carries_18 (by decide) ?_
          refine lv_goto (tgt := 24) hx hb dX10_carries_19 (by decide) ?_
          obtain rfl := inj1 hf
          exact J18 _ _ hP hD hS _ (lv_sub hl [0, 1, 2] rfl)
  obtain ⟨y10, hg, hf⟩ := bd1_some hf
  refine L23 FU _ _ _ hg ?_ _ _ hP hD hS _ (lv_sub hl [1, 2, 0] rfl)
  · intro H locs hP hD hS ls hl
    refine lv_iconst (v := (0 : Int32)) hx hb dX10_carries_31 (by decide) ?_
    refine lv_istore_n (lv' := [(2, .int (0 : Int32)), (0, .ref h_t)]) hx hb dX10_carries_32 rfl hl (by decide) rfl (fun ls hl => ?_)
    have L323 : ∀ (fu177 : Nat) (y173 : Nat → Int32) (y174 : Nat → Int32) (x175 : Int32) (y171 : Nat → Int32) (y172 : Nat → Int32), f_X10_carries_L14 t_book fu177 y173 y174 x175 = some (y171, y172) → (∀ (H : Heap) (locs : List Loc), va_P (dC, dI) vwCl [(h_t, .inr (8, fX10 h_t_book h_t_images h_t_kept h_t_aside h_t_far h_t_then h_t_row h_t_mays h_t_firstRow h_t_low h_t_high t_noOlder t_thanThis t_known t_knownAge t_moved h_t_lowOne h_t_highOne h_t_ways t_met h_t_left t_hours t_greatest h_t_text t_typed t_at t_start t_token t_value h_t_verbs h_t_nums t_items)), (h_t_far, .inl (cI, 64, .inl y171)), (h_t_then, .inl (cI, 64, .inl y172)), (h_t_book, .inl (cI, 460, .inl t_book))] H → va_D A [(h_t, .inr (8, fX10 h_t_book h_t_images h_t_kept h_t_aside h_t_far h_t_then h_t_row h_t_mays h_t_firstRow h_t_low h_t_high t_noOlder t_thanThis t_known t_knownAge t_moved h_t_lowOne h_t_highOne h_t_ways t_met h_t_left t_hours t_greatest h_t_text t_typed t_at t_start t_token t_value h_t_verbs h_t_nums t_items)), (h_t_far, .inl (cI, 64, .inl y171)), (h_t_then, .inl (cI, 64, .inl y172)), (h_t_book, .inl (cI, 460, .inl t_book))] → va_S A s.heap H locs → ∀ ls : Array Slot, lv_has ls 7 [] → W p l e rmX10_carries s m args below meth c H locs 0 0 Q (F0 m 203 ls [])) → ∀ (H : Heap) (locs : List Loc), va_P (dC, dI) vwCl [(h_t, .inr (8, fX10 h_t_book h_t_images h_t_kept h_t_aside h_t_far h_t_then h_t_row h_t_mays h_t_firstRow h_t_low h_t_high t_noOlder t_thanThis t_known t_knownAge t_moved h_t_lowOne h_t_highOne h_t_ways t_met h_t_left t_hours t_greatest h_t_text t_typed t_at t_start t_token t_value h_t_verbs h_t_nums t_items)), (h_t_far, .inl (cI, 64, .inl y173)), (h_t_then, .inl (cI, 64, .inl y174)), (h_t_book, .inl (cI, 460, .inl t_book))] H → va_D A [(h_t, .inr (8, fX10 h_t_book h_t_images h_t_kept h_t_aside h_t_far h_t_then h_t_row h_t_mays h_t_firstRow h_t_low h_t_high t_noOlder t_thanThis t_known t_knownAge t_moved h_t_lowOne h_t_highOne h_t_ways t_met h_t_left t_hours t_greatest h_t_text t_typed t_at t_start t_token t_value h_t_verbs h_t_nums t_items)), (h_t_far, .inl (cI, 64, .inl y173)), (h_t_then, .inl (cI, 64, .inl y174)), (h_t_book, .inl (cI, 460, .inl t_book))] → va_S A s.heap H locs → ∀ ls : Array Slot, lv_has ls 7 [(0, .ref h_t), (2, .int x175)] → W p l e rmX10_carries s m args below meth c H locs 0 0 Q (F0 m 33 ls []) := by
      intro fu177
      induction fu177 with
      | zero =>
        intro y173 y174 x175 y171 y172 hf
        unfold f_X10_carries_L14 at hf
        exact none_ne hf
      | succ fu177 ih176 =>
        intro y173 y174 x175 y171 y172 hf hX178 H locs hP hD hS ls hl
        unfold f_X10_carries_L14 at hf
        refine lv_iload_n hx hb dX10_carries_33 rfl (lv_at hl 1 rfl) ?_
        refine lv_iconst (v := (3 : Int32)) hx hb dX10_carries_34 (by decide) ?_
        refine lv_icmp_ge (tgt := 203) hx hb dX10_carries_35 (by decide) (fun c179 => ?_) (fun c179 => ?_)
        · replace hf := ifp c179 hf
          obtain ⟨rfl, rfl⟩ := inj2 hf
          exact hX178 _ _ hP hD hS _ (lv_sub hl [] rfl)
        · replace hf := ifn c179 hf
          refine lv_iconst (v := (0 : Int32)) hx hb dX10_carries_38 (by decide) ?_
          refine lv_istore_n (lv' := [(3, .int (0 : Int32)), (0, .ref h_t), (2, .int x175)]) hx hb dX10_carries_39 rfl hl (by decide) rfl (fun ls hl => ?_)
          have L196 : ∀ (fu190 : Nat) (y187 : Nat → Int32) (x188 : Int32) (y186 : Nat → Int32), f_X10_carries_L15 fu190 y187 x188 = some y186 → (∀ (H : Heap) (locs : List Loc), va_P (dC, dI) vwCl [(h_t, .inr (8, fX10 h_t_book h_t_images h_t_kept h_t_aside h_t_far h_t_then h_t_row h_t_mays h_t_firstRow h_t_low h_t_high t_noOlder t_thanThis t_known t_knownAge t_moved h_t_lowOne h_t_highOne h_t_ways t_met h_t_left t_hours t_greatest h_t_text t_typed t_at t_start t_token t_value h_t_verbs h_t_nums t_items)), (h_t_far, .inl (cI, 64, .inl y173)), (h_t_then, .inl (cI, 64, .inl y186)), (h_t_book, .inl (cI, 460, .inl t_book))] H → va_D A [(h_t, .inr (8, fX10 h_t_book h_t_images h_t_kept h_t_aside h_t_far h_t_then h_t_row h_t_mays h_t_firstRow h_t_low h_t_high t_noOlder t_thanThis t_known t_knownAge t_moved h_t_lowOne h_t_highOne h_t_ways t_met h_t_left t_hours t_greatest h_t_text t_typed t_at t_start t_token t_value h_t_verbs h_t_nums t_items)), (h_t_far, .inl (cI, 64, .inl y173)), (h_t_then, .inl (cI, 64, .inl y186)), (h_t_book, .inl (cI, 460, .inl t_book))] → va_S A s.heap H locs → ∀ ls : Array Slot, lv_has ls 7 [(0, .ref h_t), (2, .int x175)] → W p l e rmX10_carries s m args below meth c H locs 0 0 Q (F0 m 60 ls [])) → ∀ (H : Heap) (locs : List Loc), va_P (dC, dI) vwCl [(h_t, .inr (8, fX10 h_t_book h_t_images h_t_kept h_t_aside h_t_far h_t_then h_t_row h_t_mays h_t_firstRow h_t_low h_t_high t_noOlder t_thanThis t_known t_knownAge t_moved h_t_lowOne h_t_highOne h_t_ways t_met h_t_left t_hours t_greatest h_t_text t_typed t_at t_start t_token t_value h_t_verbs h_t_nums t_items)), (h_t_far, .inl (cI, 64, .inl y173)), (h_t_then, .inl (cI, 64, .inl y187)), (h_t_book, .inl (cI, 460, .inl t_book))] H → va_D A [(h_t, .inr (8, fX10 h_t_book h_t_images h_t_kept h_t_aside h_t_far h_t_then h_t_row h_t_mays h_t_firstRow h_t_low h_t_high t_noOlder t_thanThis t_known t_knownAge t_moved h_t_lowOne h_t_highOne h_t_ways t_met h_t_left t_hours t_greatest h_t_text t_typed t_at t_start t_token t_value h_t_verbs h_t_nums t_items)), (h_t_far, .inl (cI, 64, .inl y173)), (h_t_then, .inl (cI, 64, .inl y187)), (h_t_book, .inl (cI, 460, .inl t_book))] → va_S A s.heap H locs → ∀ ls : Array Slot, lv_has ls 7 [(0, .ref h_t), (2, .int x175), (3, .int x188)] → W p l e rmX10_carries s m args below meth c H locs 0 0 Q (F0 m 40 ls []) := by
            intro fu190
            induction fu190 with
            | zero =>
              intro y187 x188 y186 hf
              unfold f_X10_carries_L15 at hf
              exact none_ne hf
            | succ fu190 ih189 =>
              intro y187 x188 y186 hf hX191 H locs hP hD hS ls hl
              unfold f_X10_carries_L15 at hf
              refine lv_iload_n hx hb dX10_carries_40 rfl (lv_at hl 2 rfl) ?_
              refine lv_bipush (v := (64 : Int32)) hx hb dX10_carries_41 (by decide) ?_
              refine lv_icmp_ge (tgt := 60) hx hb dX10_carries_43 (by decide) (fun c192 => ?_) (fun c192 => ?_)
              · replace hf := ifp c192 hf
                obtain rfl := inj1 hf
                exact hX191 _ _ hP hD hS _ (lv_sub hl [0, 1] rfl)
              · replace hf := ifn c192 hf
                refine lv_aload_n hx hb dX10_carries_46 rfl (lv_at hl 0 rfl) ?_
                refine va_get (D := (dC, dI)) (ci := 8) (v := .ref h_t_then) (C := RX10) (T := TX10) (N := 32) hx hb hts (in1 tw_X10) hown hK hP 0 rfl rfl 5 (by decide) (hts _ (List.mem_cons_of_mem _ kw_122)) (fun _ h9 => h9) rfl dX10_carries_47 ?_
                refine lv_iload_n hx hb dX10_carries_50 rfl (lv_at hl 2 rfl) ?_
                refine lv_ldc (v := (1000000 : Int32)) hx hb hown (hts _ (List.mem_cons_of_mem _ kw_192)) dX10_carries_51 ?_
                obtain ⟨g193, hf⟩ := chk_some hf
                obtain ⟨y194, e195, hf⟩ := nm_some hf
                refine va_iast hx hb hK hP hD hS 2 0 rfl rfl (gin_in g193) dX10_carries_53 (fun H locs hP hD hS => ?_)
                have hP : va_P (dC, dI) vwCl [(h_t, .inr (8, fX10 h_t_book h_t_images h_t_kept h_t_aside h_t_far h_t_then h_t_row h_t_mays h_t_firstRow h_t_low h_t_high t_noOlder t_thanThis t_known t_knownAge t_moved h_t_lowOne h_t_highOne h_t_ways t_met h_t_left t_hours t_greatest h_t_text t_typed t_at t_start t_token t_value h_t_verbs h_t_nums t_items)), (h_t_far, .inl (cI, 64, .inl y173)), (h_t_then, .inl (cI, 64, .inl y194)), (h_t_book, .inl (cI, 460, .inl t_book))] H := by rw [e195]; exact hP
                have hD : va_D A [(h_t, .inr (8, fX10 h_t_book h_t_images h_t_kept h_t_aside h_t_far h_t_then h_t_row h_t_mays h_t_firstRow h_t_low h_t_high t_noOlder t_thanThis t_known t_knownAge t_moved h_t_lowOne h_t_highOne h_t_ways t_met h_t_left t_hours t_greatest h_t_text t_typed t_at t_start t_token t_value h_t_verbs h_t_nums t_items)), (h_t_far, .inl (cI, 64, .inl y173)), (h_t_then, .inl (cI, 64, .inl y194)), (h_t_book, .inl (cI, 460, .inl t_book))] := by rw [e195]; exact hD
                refine lv_iinc (v := (x188 + (1 : Int32))) (lv' := [(3, .int (x188 + (1 : Int32))), (0, .ref h_t), (2, .int x175)]) hx hb dX10_carries_54 hl (k := 2) rfl rfl (by decide) rfl (fun ls hl => ?_)
                refine lv_goto (tgt := 40) hx hb dX10_carries_57 (by decide) ?_
                exact ih189 _ _ _ hf hX191 _ _ hP hD hS _ (lv_sub hl [1, 2, 0] rfl)
          obtain ⟨y186, hg, hf⟩ := bd1_some hf
          refine L196 FU _ _ _ hg ?_ _ _ hP hD hS _ (lv_sub hl [1, 2, 0] rfl)
          · intro H locs hP hD hS ls hl
            refine lv_iconst (v := (0 : Int32)) hx hb dX10_carries_60 (by decide) ?_
            refine lv_istore_n (lv' := [(3, .int (0 : Int32)), (0, .ref h_t), (2, .int x175)]) hx hb dX10_carries_61 rfl hl (by decide) rfl (fun ls hl => ?_)
            have L299 : ∀ (fu250 : Nat) (y247 : Nat → Int32) (x248 : Int32) (y246 : Nat → Int32), f_X10_carries_L18 y173 t_book x175 fu250 y247 x248 = some y246 → (∀ (H : Heap) (locs : List Loc), va_P (dC, dI) vwCl [(h_t, .inr (8, fX10 h_t_book h_t_images h_t_kept h_t_aside h_t_far h_t_then h_t_row h_t_mays h_t_firstRow h_t_low h_t_high t_noOlder t_thanThis t_known t_knownAge t_moved h_t_lowOne h_t_highOne h_t_ways t_met h_t_left t_hours t_greatest h_t_text t_typed t_at t_start t_token t_value h_t_verbs h_t_nums t_items)), (h_t_far, .inl (cI, 64, .inl y173)), (h_t_then, .inl (cI, 64, .inl y246)), (h_t_book, .inl (cI, 460, .inl t_book))] H → va_D A [(h_t, .inr (8, fX10 h_t_book h_t_images h_t_kept h_t_aside h_t_far h_t_then h_t_row h_t_mays h_t_firstRow h_t_low h_t_high t_noOlder t_thanThis t_known t_knownAge t_moved h_t_lowOne h_t_highOne h_t_ways t_met h_t_left t_hours t_greatest h_t_text t_typed t_at t_start t_token t_value h_t_verbs h_t_nums t_items)), (h_t_far, .inl (cI, 64, .inl y173)), (h_t_then, .inl (cI, 64, .inl y246)), (h_t_book, .inl (cI, 460, .inl t_book))] → va_S A s.heap H locs → ∀ ls : Array Slot, lv_has ls 7 [(0, .ref h_t), (2, .int x175)] → W p l e rmX10_carries s m args below meth c H locs 0 0 Q (F0 m 171 ls [])) → ∀ (H : Heap) (locs : List Loc), va_P (dC, dI) vwCl [(h_t, .inr (8, fX10 h_t_book h_t_images h_t_kept h_t_aside h_t_far h_t_then h_t_row h_t_mays h_t_firstRow h_t_low h_t_high t_noOlder t_thanThis t_known t_knownAge t_moved h_t_lowOne h_t_highOne h_t_ways t_met h_t_left t_hours t_greatest h_t_text t_typed t_at t_start t_token t_value h_t_verbs h_t_nums t_items)), (h_t_far, .inl (cI, 64, .inl y173)), (h_t_then, .inl (cI, 64, .inl y247)), (h_t_book, .inl (cI, 460, .inl t_book))] H → va_D A [(h_t, .inr (8, fX10 h_t_book h_t_images h_t_kept h_t_aside h_t_far h_t_then h_t_row h_t_mays h_t_firstRow h_t_low h_t_high t_noOlder t_thanThis t_known t_knownAge t_moved h_t_lowOne h_t_highOne h_t_ways t_met h_t_left t_hours t_greatest h_t_text t_typed t_at t_start t_token t_value h_t_verbs h_t_nums t_items)), (h_t_far, .inl (cI, 64, .inl y173)), (h_t_then, .inl (cI, 64, .inl y247)), (h_t_book, .inl (cI, 460, .inl t_book))] → va_S A s.heap H locs → ∀ ls : Array Slot, lv_has ls 7 [(0, .ref h_t), (2, .int x175), (3, .int x248)] → W p l e rmX10_carries s m args below meth c H locs 0 0 Q (F0 m 62 ls []) := by
              intro fu250
              induction fu250 with
              | zero =>
                intro y247 x248 y246 hf
                unfold f_X10_carries_L18 at hf
                exact none_ne hf
              | succ fu250 ih249 =>
                intro y247 x248 y246 hf hX251 H locs hP hD hS ls hl
                unfold f_X10_carries_L18 at hf
                refine lv_iload_n hx hb dX10_carries_62 rfl (lv_at hl 2 rfl) ?_
                refine lv_bipush (v := (64 : Int32)) hx hb dX10_carries_63 (by decide) ?_
                refine lv_icmp_ge (tgt := 171) hx hb dX10_carries_65 (by decide) (fun c252 => ?_) (fun c252 => ?_)
                · replace hf := ifp c252 hf
                  obtain rfl := inj1 hf
                  exact hX251 _ _ hP hD hS _ (lv_sub hl [0, 1] rfl)
                · replace hf := ifn c252 hf
                  refine lv_aload_n hx hb dX10_carries_68 rfl (lv_at hl 0 rfl) ?_
                  refine va_get (D := (dC, dI)) (ci := 8) (v := .ref h_t_far) (C := RX10) (T := TX10) (N := 32) hx hb hts (in1 tw_X10) hown hK hP 0 rfl rfl 4 (by decide) (hts _ (List.mem_cons_of_mem _ kw_121)) (fun _ h9 => h9) rfl dX10_carries_69 ?_
                  refine lv_iload_n hx hb dX10_carries_72 rfl (lv_at hl 2 rfl) ?_
                  obtain ⟨g253, hf⟩ := chk_some hf
                  refine va_iald hx hb hK hP 1 0 rfl rfl (gin_in g253) dX10_carries_73 ?_
                  refine lv_ldc (v := (1000000 : Int32)) hx hb hown (hts _ (List.mem_cons_of_mem _ kw_192)) dX10_carries_74 ?_
                  obtain ⟨x254, hg, hf⟩ := bd1_some hf
                  have J255 : ∀ (H : Heap) (locs : List Loc), va_P (dC, dI) vwCl [(h_t, .inr (8, fX10 h_t_book h_t_images h_t_kept h_t_aside h_t_far h_t_then h_t_row h_t_mays h_t_firstRow h_t_low h_t_high t_noOlder t_thanThis t_known t_knownAge t_moved h_t_lowOne h_t_highOne h_t_ways t_met h_t_left t_hours t_greatest h_t_text t_typed t_at t_start t_token t_value h_t_verbs h_t_nums t_items)), (h_t_far, .inl (cI, 64, .inl y173)), (h_t_then, .inl (cI, 64, .inl y247)), (h_t_book, .inl (cI, 460, .inl t_book))] H → va_D A [(h_t, .inr (8, fX10 h_t_book h_t_images h_t_kept h_t_aside h_t_far h_t_then h_t_row h_t_mays h_t_firstRow h_t_low h_t_high t_noOlder t_thanThis t_known t_knownAge t_moved h_t_lowOne h_t_highOne h_t_ways t_met h_t_left t_hours t_greatest h_t_text t_typed t_at t_start t_token t_value h_t_verbs h_t_nums t_items)), (h_t_far, .inl (cI, 64, .inl y173)), (h_t_then, .inl (cI, 64, .inl y247)), (h_t_book, .inl (cI, 460, .inl t_book))] → va_S A s.heap H locs → ∀ ls : Array Slot, lv_has ls 7 [(0, .ref h_t), (2, .int x175), (3, .int x248)] → W p l e rmX10_carries s m args below meth c H locs 0 0 Q (F0 m 84 ls [.int x254]) := by
                    intro H locs hP hD hS ls hl
                    refine lv_istore (lv' := [(4, .int x254), (0, .ref h_t), (2, .int x175), (3, .int x248)]) hx hb dX10_carries_84 hl (by decide) rfl (fun ls hl => ?_)
                    refine lv_aload_n hx hb dX10_carries_86 rfl (lv_at hl 1 rfl) ?_
                    refine va_get (D := (dC, dI)) (ci := 8) (v := .ref h_t_far) (C := RX10) (T := TX10) (N := 32) hx hb hts (in1 tw_X10) hown hK hP 0 rfl rfl 4 (by decide) (hts _ (List.mem_cons_of_mem _ kw_121)) (fun _ h9 => h9) rfl dX10_carries_87 ?_
                    refine lv_iload_n hx hb dX10_carries_90 rfl (lv_at hl 3 rfl) ?_
                    obtain ⟨g256, hf⟩ := chk_some hf
                    refine va_iald hx hb hK hP 1 0 rfl rfl (gin_in g256) dX10_carries_91 ?_
                    obtain ⟨x257, e258, hf⟩ := nm_some hf
                    refine lv_tope e258 ?_
                    refine lv_istore (lv' := [(5, .int x257), (4, .int x254), (0, .ref h_t), (2, .int x175), (3, .int x248)]) hx hb dX10_carries_92 hl (by decide) rfl (fun ls hl => ?_)
                    have L297 : ∀ (fu281 : Nat) (y277 : Nat → Int32) (x278 : Int32) (x279 : Int32) (y276 : Nat → Int32), f_X10_carries_L19 t_book x175 fu281 y277 x278 x279 = some y276 → (∀ (H : Heap) (locs : List Loc), va_P (dC, dI) vwCl [(h_t, .inr (8, fX10 h_t_book h_t_images h_t_kept h_t_aside h_t_far h_t_then h_t_row h_t_mays h_t_firstRow h_t_low h_t_high t_noOlder t_thanThis t_known t_knownAge t_moved h_t_lowOne h_t_highOne h_t_ways t_met h_t_left t_hours t_greatest h_t_text t_typed t_at t_start t_token t_value h_t_verbs h_t_nums t_items)), (h_t_far, .inl (cI, 64, .inl y173)), (h_t_then, .inl (cI, 64, .inl y276)), (h_t_book, .inl (cI, 460, .inl t_book))] H → va_D A [(h_t, .inr (8, fX10 h_t_book h_t_images h_t_kept h_t_aside h_t_far h_t_then h_t_row h_t_mays h_t_firstRow h_t_low h_t_high t_noOlder t_thanThis t_known t_knownAge t_moved h_t_lowOne h_t_highOne h_t_ways t_met h_t_left t_hours t_greatest h_t_text t_typed t_at t_start t_token t_value h_t_verbs h_t_nums t_items)), (h_t_far, .inl (cI, 64, .inl y173)), (h_t_then, .inl (cI, 64, .inl y276)), (h_t_book, .inl (cI, 460, .inl t_book))] → va_S A s.heap H locs → ∀ ls : Array Slot, lv_has ls 7 [(0, .ref h_t), (2, .int x175), (3, .int x248)] → W p l e rmX10_carries s m args below meth c H locs 0 0 Q (F0 m 165 ls [])) → ∀ (H : Heap) (locs : List Loc), va_P (dC, dI) vwCl [(h_t, .inr (8, fX10 h_t_book h_t_images h_t_kept h_t_aside h_t_far h_t_then h_t_row h_t_mays h_t_firstRow h_t_low h_t_high t_noOlder t_thanThis t_known t_knownAge t_moved h_t_lowOne h_t_highOne h_t_ways t_met h_t_left t_hours t_greatest h_t_text t_typed t_at t_start t_token t_value h_t_verbs h_t_nums t_items)), (h_t_far, .inl (cI, 64, .inl y173)), (h_t_then, .inl (cI, 64, .inl y277)), (h_t_book, .inl (cI, 460, .inl t_book))] H → va_D A [(h_t, .inr (8, fX10 h_t_book h_t_images h_t_kept h_t_aside h_t_far h_t_then h_t_row h_t_mays h_t_firstRow h_t_low h_t_high t_noOlder t_thanThis t_known t_knownAge t_moved h_t_lowOne h_t_highOne h_t_ways t_met h_t_left t_hours t_greatest h_t_text t_typed t_at t_start t_token t_value h_t_verbs h_t_nums t_items)), (h_t_far, .inl (cI, 64, .inl y173)), (h_t_then, .inl (cI, 64, .inl y277)), (h_t_book, .inl (cI, 460, .inl t_book))] → va_S A s.heap H locs → ∀ ls : Array Slot, lv_has ls 7 [(0, .ref h_t), (2, .int x175), (3, .int x248), (4, .int x278), (5, .int x279)] → W p l e rmX10_carries s m args below meth c H locs 0 0 Q (F0 m 94 ls []) := by
                      intro fu281
                      induction fu281 with
                      | zero =>
                        intro y277 x278 x279 y276 hf
                        unfold f_X10_carries_L19 at hf
                        exact none_ne hf
                      | succ fu281 ih280 =>
                        intro y277 x278 x279 y276 hf hX282 H locs hP hD hS ls hl
                        unfold f_X10_carries_L19 at hf
                        refine lv_iload hx hb dX10_carries_94 (lv_at hl 3 rfl) ?_
                        refine lv_iconst (v := (-1 : Int32)) hx hb dX10_carries_96 (by decide) ?_
                        refine lv_icmp_eq (tgt := 165) hx hb dX10_carries_97 (by decide) (fun c283 => ?_) (fun c283 => ?_)
                        · replace hf := ifp c283 hf
                          obtain rfl := inj1 hf
                          exact hX282 _ _ hP hD hS _ (lv_sub hl [0, 1, 2] rfl)
                        · replace hf := ifn c283 hf
                          refine lv_aload_n hx hb dX10_carries_100 rfl (lv_at hl 0 rfl) ?_
                          refine va_get (D := (dC, dI)) (ci := 8) (v := .ref h_t_then) (C := RX10) (T := TX10) (N := 32) hx hb hts (in1 tw_X10) hown hK hP 0 rfl rfl 5 (by decide) (hts _ (List.mem_cons_of_mem _ kw_122)) (fun _ h9 => h9) rfl dX10_carries_101 ?_
                          refine lv_iload hx hb dX10_carries_104 (lv_at hl 3 rfl) ?_
                          refine lv_iload hx hb dX10_carries_106 (lv_at hl 4 rfl) ?_
                          refine lv_aload_n hx hb dX10_carries_108 rfl (lv_at hl 0 rfl) ?_
                          refine va_get (D := (dC, dI)) (ci := 8) (v := .ref h_t_then) (C := RX10) (T := TX10) (N := 32) hx hb hts (in1 tw_X10) hown hK hP 0 rfl rfl 5 (by decide) (hts _ (List.mem_cons_of_mem _ kw_122)) (fun _ h9 => h9) rfl dX10_carries_109 ?_
                          refine lv_iload hx hb dX10_carries_112 (lv_at hl 3 rfl) ?_
                          obtain ⟨g284, hf⟩ := chk_some hf
                          refine va_iald hx hb hK hP 2 0 rfl rfl (gin_in g284) dX10_carries_114 ?_
                          obtain ⟨x285, hg, hf⟩ := bd1_some hf
                          have J286 : ∀ (H : Heap) (locs : List Loc), va_P (dC, dI) vwCl [(h_t, .inr (8, fX10 h_t_book h_t_images h_t_kept h_t_aside h_t_far h_t_then h_t_row h_t_mays h_t_firstRow h_t_low h_t_high t_noOlder t_thanThis t_known t_knownAge t_moved h_t_lowOne h_t_highOne h_t_ways t_met h_t_left t_hours t_greatest h_t_text t_typed t_at t_start t_token t_value h_t_verbs h_t_nums t_items)), (h_t_far, .inl (cI, 64, .inl y173)), (h_t_then, .inl (cI, 64, .inl y277)), (h_t_book, .inl (cI, 460, .inl t_book))] H → va_D A [(h_t, .inr (8, fX10 h_t_book h_t_images h_t_kept h_t_aside h_t_far h_t_then h_t_row h_t_mays h_t_firstRow h_t_low h_t_high t_noOlder t_thanThis t_known t_knownAge t_moved h_t_lowOne h_t_highOne h_t_ways t_met h_t_left t_hours t_greatest h_t_text t_typed t_at t_start t_token t_value h_t_verbs h_t_nums t_items)), (h_t_far, .inl (cI, 64, .inl y173)), (h_t_then, .inl (cI, 64, .inl y277)), (h_t_book, .inl (cI, 460, .inl t_book))] → va_S A s.heap H locs → ∀ ls : Array Slot, lv_has ls 7 [(0, .ref h_t), (2, .int x175), (3, .int x248), (4, .int x278), (5, .int x279)] → W p l e rmX10_carries s m args below meth c H locs 0 0 Q (F0 m 130 ls [.int x285, .int x278, .ref h_t_then]) := by
                            intro H locs hP hD hS ls hl
                            obtain ⟨g287, hf⟩ := chk_some hf
                            obtain ⟨y288, e289, hf⟩ := nm_some hf
                            refine va_iast hx hb hK hP hD hS 2 0 rfl rfl (gin_in g287) dX10_carries_130 (fun H locs hP hD hS => ?_)
                            have hP : va_P (dC, dI) vwCl [(h_t, .inr (8, fX10 h_t_book h_t_images h_t_kept h_t_aside h_t_far h_t_then h_t_row h_t_mays h_t_firstRow h_t_low h_t_high t_noOlder t_thanThis t_known t_knownAge t_moved h_t_lowOne h_t_highOne h_t_ways t_met h_t_left t_hours t_greatest h_t_text t_typed t_at t_start t_token t_value h_t_verbs h_t_nums t_items)), (h_t_far, .inl (cI, 64, .inl y173)), (h_t_then, .inl (cI, 64, .inl y288)), (h_t_book, .inl (cI, 460, .inl t_book))] H := by rw [e289]; exact hP
                            have hD : va_D A [(h_t, .inr (8, fX10 h_t_book h_t_images h_t_kept h_t_aside h_t_far h_t_then h_t_row h_t_mays h_t_firstRow h_t_low h_t_high t_noOlder t_thanThis t_known t_knownAge t_moved h_t_lowOne h_t_highOne h_t_ways t_met h_t_left t_hours t_greatest h_t_text t_typed t_at t_start t_token t_value h_t_verbs h_t_nums t_items)), (h_t_far, .inl (cI, 64, .inl y173)), (h_t_then, .inl (cI, 64, .inl y288)), (h_t_book, .inl (cI, 460, .inl t_book))] := by rw [e289]; exact hD
                            refine lv_aload_n hx hb dX10_carries_131 rfl (lv_at hl 0 rfl) ?_
                            refine lv_iload_n hx hb dX10_carries_132 rfl (lv_at hl 1 rfl) ?_
                            refine lv_iload hx hb dX10_carries_133 (lv_at hl 3 rfl) ?_
                            obtain ⟨r290, hg291, hf⟩ := bd1_some hf
                            refine CM_callV (C := RX10) (As := [.int x175, .int x278]) (rest := []) (wc := [(h_t, .inr (8, fX10 h_t_book h_t_images h_t_kept h_t_aside h_t_far h_t_then h_t_row h_t_mays h_t_firstRow h_t_low h_t_high t_noOlder t_thanThis t_known t_knownAge t_moved h_t_lowOne h_t_highOne h_t_ways t_met h_t_left t_hours t_greatest h_t_text t_typed t_at t_start t_token t_value h_t_verbs h_t_nums t_items)), (h_t_book, .inl (cI, 460, .inl t_book))]) (w1 := [(h_t, .inr (8, fX10 h_t_book h_t_images h_t_kept h_t_aside h_t_far h_t_then h_t_row h_t_mays h_t_firstRow h_t_low h_t_high t_noOlder t_thanThis t_known t_knownAge t_moved h_t_lowOne h_t_highOne h_t_ways t_met h_t_left t_hours t_greatest h_t_text t_typed t_at t_start t_token t_value h_t_verbs h_t_nums t_items)), (h_t_book, .inl (cI, 460, .inl t_book))]) (wr := [(h_t_far, .inl (cI, 64, .inl y173)), (h_t_then, .inl (cI, 64, .inl y288))]) (wo := [(h_t, .inr (8, fX10 h_t_book h_t_images h_t_kept h_t_aside h_t_far h_t_then h_t_row h_t_mays h_t_firstRow h_t_low h_t_high t_noOlder t_thanThis t_known t_knownAge t_moved h_t_lowOne h_t_highOne h_t_ways t_met h_t_left t_hours t_greatest h_t_text t_typed t_at t_start t_token t_value h_t_verbs h_t_nums t_items)), (h_t_far, .inl (cI, 64, .inl y173)), (h_t_then, .inl (cI, 64, .inl y288)), (h_t_book, .inl (cI, 460, .inl t_book))]) (v := (some (.int r290))) ⟨hx, hb, hml, hown, hts⟩ (c_X10_flowOf l dC dI cI cZ te h_t h_t_book h_t_images h_t_kept h_t_aside h_t_far h_t_then h_t_row h_t_mays h_t_firstRow h_t_low h_t_high h_t_lowOne h_t_highOne h_t_ways h_t_left h_t_text h_t_verbs h_t_nums t_noOlder t_thanThis t_known t_knownAge t_moved t_met t_hours t_greatest t_typed t_at t_start t_token t_value t_items t_book x175 x278 r290 hg291) (cwV 2 hts (gV kw_183 kw_184 kw_185 kw_159 kw_186) rfl rfl rfl (by decide +kernel) ⟨Nat.le_of_ble_eq_true rfl, Nat.le_of_ble_eq_true rfl⟩) (kS_env te) hK hP hD hS hA hE [0, 3] [1, 2] [2, 0, 1, 3] rfl rfl (by decide) (by decide) (by decide) (by decide) rfl 0 8 rfl rfl rfl rfl hl.1 rfl (Nat.le_of_ble_eq_true rfl) dX10_carries_135 ⟨Nat.zero_le _, Nat.zero_le _⟩ (fun H locs hP hD hS => ?_)
                            show W p l e rmX10_carries s m args below meth c H locs 0 0 Q (F0 m 138 ls [.int r290])
                            refine lv_istore (lv' := [(6, .int r290), (0, .ref h_t), (2, .int x175), (3, .int x248), (4, .int x278), (5, .int x279)]) hx hb dX10_carries_138 hl (by decide) rfl (fun ls hl => ?_)
                            refine lv_iload hx hb dX10_carries_140 (lv_at hl 0 rfl) ?_
                            refine lv_iconst (v := (-1 : Int32)) hx hb dX10_carries_142 (by decide) ?_
                            refine lv_icmp_ne (tgt := 150) hx hb dX10_carries_143 (by decide) (fun c292 => ?_) (fun c292 => ?_)
                            · replace hf := ifn c292 hf
                              refine lv_iload hx hb dX10_carries_150 (lv_at hl 4 rfl) ?_
                              refine lv_iload hx hb dX10_carries_152 (lv_at hl 0 rfl) ?_
                              obtain ⟨r293, hg294, hf⟩ := bd1_some hf
                              refine CM_callS (As := [.int x278, .int r290]) (rest := []) (wc := []) (w1 := []) (wr := [(h_t, .inr (8, fX10 h_t_book h_t_images h_t_kept h_t_aside h_t_far h_t_then h_t_row h_t_mays h_t_firstRow h_t_low h_t_high t_noOlder t_thanThis t_known t_knownAge t_moved h_t_lowOne h_t_highOne h_t_ways t_met h_t_left t_hours t_greatest h_t_text t_typed t_at t_start t_token t_value h_t_verbs h_t_nums t_items)), (h_t_far, .inl (cI, 64, .inl y173)), (h_t_then, .inl (cI, 64, .inl y288)), (h_t_book, .inl (cI, 460, .inl t_book))]) (wo := [(h_t, .inr (8, fX10 h_t_book h_t_images h_t_kept h_t_aside h_t_far h_t_then h_t_row h_t_mays h_t_firstRow h_t_low h_t_high t_noOlder t_thanThis t_known t_knownAge t_moved h_t_lowOne h_t_highOne h_t_ways t_met h_t_left t_hours t_greatest h_t_text t_typed t_at t_start t_token t_value h_t_verbs h_t_nums t_items)), (h_t_far, .inl (cI, 64, .inl y173)), (h_t_then, .inl (cI, 64, .inl y288)), (h_t_book, .inl (cI, 460, .inl t_book))]) (v := (some (.int r293))) ⟨hx, hb, hml, hown, hts⟩ (c_X10_beside l dC dI cI cZ te x278 r290 r293 hg294) (va_cwS 2 hts (gS kw_180 kw_181 kw_159 kw_182) rfl rfl rfl (by decide +kernel) ⟨Nat.le_of_ble_eq_true rfl, Nat.le_of_ble_eq_true rfl⟩) (kS_env te) hK hP hD hS hA hE [] [0, 1, 2, 3] [0, 1, 2, 3] rfl rfl (by decide) (by decide) (by decide) (by decide) rfl rfl hl.1 rfl (Nat.le_of_ble_eq_true rfl) dX10_carries_154 ⟨Nat.zero_le _, Nat.zero_le _⟩ (fun H locs hP hD hS => ?_)
                              show W p l e rmX10_carries s m args below meth c H locs 0 0 Q (F0 m 157 ls [.int r293])
                              refine lv_istore (lv' := [(4, .int r293), (6, .int r290), (0, .ref h_t), (2, .int x175), (3, .int x248), (5, .int x279)]) hx hb dX10_carries_157 hl (by decide) rfl (fun ls hl => ?_)
                              refine lv_iinc (v := (x279 + (1 : Int32))) (lv' := [(5, .int (x279 + (1 : Int32))), (4, .int r293), (6, .int r290), (0, .ref h_t), (2, .int x175), (3, .int x248)]) hx hb dX10_carries_159 hl (k := 5) rfl rfl (by decide) rfl (fun ls hl => ?_)
                              refine lv_goto (tgt := 94) hx hb dX10_carries_162 (by decide) ?_
                              exact ih280 _ _ _ _ hf hX282 _ _ hP hD hS _ (lv_sub hl [3, 4, 5, 1, 0] rfl)
                            · replace hf := ifp c292 hf
                              refine lv_iconst (v := (-1 : Int32)) hx hb dX10_carries_146 (by decide) ?_
                              refine lv_goto (tgt := 157) hx hb dX10_carries_147 (by decide) ?_
                              refine lv_istore (lv' := [(4, .int (-1 : Int32)), (6, .int r290), (0, .ref h_t), (2, .int x175), (3, .int x248), (5, .int x279)]) hx hb dX10_carries_157 hl (by decide) rfl (fun ls hl => ?_)
                              refine lv_iinc (v := (x279 + (1 : Int32))) (lv' := [(5, .int (x279 + (1 : Int32))), (4, .int (-1 : Int32)), (6, .int r290), (0, .ref h_t), (2, .int x175), (3, .int x248)]) hx hb dX10_carries_159 hl (k := 5) rfl rfl (by decide) rfl (fun ls hl => ?_)
                              refine lv_goto (tgt := 94) hx hb dX10_carries_162 (by decide) ?_
                              exact ih280 _ _ _ _ hf hX282 _ _ hP hD hS _ (lv_sub hl [3, 4, 5, 1, 0] rfl)
                          clear hf
                          have hf := hg
                          refine lv_icmp_ge (tgt := 123) hx hb dX10_carries_115 (by decide) (fun c295 => ?_) (fun c295 => ?_)
                          · replace hf := ifp c295 hf
                            refine lv_aload_n hx hb dX10_carries_123 rfl (lv_at hl 0 rfl) ?_
                            refine va_get (D := (dC, dI)) (ci := 8) (v := .ref h_t_then) (C := RX10) (T := TX10) (N := 32) hx hb hts (in1 tw_X10) hown hK hP 0 rfl rfl 5 (by decide) (hts _ (List.mem_cons_of_mem _ kw_122)) (fun _ h9 => h9) rfl dX10_carries_124 ?_
                            refine lv_iload hx hb dX10_carries_127 (lv_at hl 3 rfl) ?_
                            obtain ⟨g296, hf⟩ := chk_some hf
                            refine va_iald hx hb hK hP 2 0 rfl rfl (gin_in g296) dX10_carries_129 ?_
                            obtain rfl := inj1 hf
                            exact J286 _ _ hP hD hS _ (lv_sub hl [0, 1, 2, 3, 4] rfl)
                          · replace hf := ifn c295 hf
                            refine lv_iload hx hb dX10_carries_118 (lv_at hl 4 rfl) ?_
                            refine lv_goto (tgt := 130) hx hb dX10_carries_120 (by decide) ?_
                            obtain rfl := inj1 hf
                            exact J286 _ _ hP hD hS _ (lv_sub hl [0, 1, 2, 3, 4] rfl)
                    obtain ⟨y276, hg, hf⟩ := bd1_some hf
                    refine L297 FU _ _ _ _ hg ?_ _ _ hP hD hS _ (lv_sub hl [2, 3, 4, 1, 0] rfl)
                    · intro H locs hP hD hS ls hl
                      refine lv_iinc (v := (x248 + (1 : Int32))) (lv' := [(3, .int (x248 + (1 : Int32))), (0, .ref h_t), (2, .int x175)]) hx hb dX10_carries_165 hl (k := 2) rfl rfl (by decide) rfl (fun ls hl => ?_)
                      refine lv_goto (tgt := 62) hx hb dX10_carries_168 (by decide) ?_
                      exact ih249 _ _ _ hf hX251 _ _ hP hD hS _ (lv_sub hl [1, 2, 0] rfl)
                  clear hf
                  have hf := hg
                  refine lv_icmp_ge (tgt := 83) hx hb dX10_carries_76 (by decide) (fun c298 => ?_) (fun c298 => ?_)
                  · replace hf := ifp c298 hf
                    refine lv_iconst (v := (-1 : Int32)) hx hb dX10_carries_83 (by decide) ?_
                    obtain rfl := inj1 hf
                    exact J255 _ _ hP hD hS _ (lv_sub hl [0, 1, 2] rfl)
                  · replace hf := ifn c298 hf
                    refine lv_iload_n hx hb dX10_carries_79 rfl (lv_at hl 2 rfl) ?_
                    refine lv_goto (tgt := 84) hx hb dX10_carries_80 (by decide) ?_
                    obtain rfl := inj1 hf
                    exact J255 _ _ hP hD hS _ (lv_sub hl [0, 1, 2] rfl)
            obtain ⟨y246, hg, hf⟩ := bd1_some hf
            refine L299 FU _ _ _ hg ?_ _ _ hP hD hS _ (lv_sub hl [1, 2, 0] rfl)
            · intro H locs hP hD hS ls hl
              refine lv_iconst (v := (0 : Int32)) hx hb dX10_carries_171 (by decide) ?_
              refine lv_istore_n (lv' := [(3, .int (0 : Int32)), (0, .ref h_t), (2, .int x175)]) hx hb dX10_carries_172 rfl hl (by decide) rfl (fun ls hl => ?_)
              have L322 : ∀ (fu313 : Nat) (y310 : Nat → Int32) (x311 : Int32) (y309 : Nat → Int32), f_X10_carries_L20 y246 fu313 y310 x311 = some y309 → (∀ (H : Heap) (locs : List Loc), va_P (dC, dI) vwCl [(h_t, .inr (8, fX10 h_t_book h_t_images h_t_kept h_t_aside h_t_far h_t_then h_t_row h_t_mays h_t_firstRow h_t_low h_t_high t_noOlder t_thanThis t_known t_knownAge t_moved h_t_lowOne h_t_highOne h_t_ways t_met h_t_left t_hours t_greatest h_t_text t_typed t_at t_start t_token t_value h_t_verbs h_t_nums t_items)), (h_t_far, .inl (cI, 64, .inl y309)), (h_t_then, .inl (cI, 64, .inl y246)), (h_t_book, .inl (cI, 460, .inl t_book))] H → va_D A [(h_t, .inr (8, fX10 h_t_book h_t_images h_t_kept h_t_aside h_t_far h_t_then h_t_row h_t_mays h_t_firstRow h_t_low h_t_high t_noOlder t_thanThis t_known t_knownAge t_moved h_t_lowOne h_t_highOne h_t_ways t_met h_t_left t_hours t_greatest h_t_text t_typed t_at t_start t_token t_value h_t_verbs h_t_nums t_items)), (h_t_far, .inl (cI, 64, .inl y309)), (h_t_then, .inl (cI, 64, .inl y246)), (h_t_book, .inl (cI, 460, .inl t_book))] → va_S A s.heap H locs → ∀ ls : Array Slot, lv_has ls 7 [(0, .ref h_t), (2, .int x175)] → W p l e rmX10_carries s m args below meth c H locs 0 0 Q (F0 m 197 ls [])) → ∀ (H : Heap) (locs : List Loc), va_P (dC, dI) vwCl [(h_t, .inr (8, fX10 h_t_book h_t_images h_t_kept h_t_aside h_t_far h_t_then h_t_row h_t_mays h_t_firstRow h_t_low h_t_high t_noOlder t_thanThis t_known t_knownAge t_moved h_t_lowOne h_t_highOne h_t_ways t_met h_t_left t_hours t_greatest h_t_text t_typed t_at t_start t_token t_value h_t_verbs h_t_nums t_items)), (h_t_far, .inl (cI, 64, .inl y310)), (h_t_then, .inl (cI, 64, .inl y246)), (h_t_book, .inl (cI, 460, .inl t_book))] H → va_D A [(h_t, .inr (8, fX10 h_t_book h_t_images h_t_kept h_t_aside h_t_far h_t_then h_t_row h_t_mays h_t_firstRow h_t_low h_t_high t_noOlder t_thanThis t_known t_knownAge t_moved h_t_lowOne h_t_highOne h_t_ways t_met h_t_left t_hours t_greatest h_t_text t_typed t_at t_start t_token t_value h_t_verbs h_t_nums t_items)), (h_t_far, .inl (cI, 64, .inl y310)), (h_t_then, .inl (cI, 64, .inl y246)), (h_t_book, .inl (cI, 460, .inl t_book))] → va_S A s.heap H locs → ∀ ls : Array Slot, lv_has ls 7 [(0, .ref h_t), (2, .int x175), (3, .int x311)] → W p l e rmX10_carries s m args below meth c H locs 0 0 Q (F0 m 173 ls []) := by
                intro fu313
                induction fu313 with
                | zero =>
                  intro y310 x311 y309 hf
                  unfold f_X10_carries_L20 at hf
                  exact none_ne hf
                | succ fu313 ih312 =>
                  intro y310 x311 y309 hf hX314 H locs hP hD hS ls hl
                  unfold f_X10_carries_L20 at hf
                  refine lv_iload_n hx hb dX10_carries_173 rfl (lv_at hl 2 rfl) ?_
                  refine lv_bipush (v := (64 : Int32)) hx hb dX10_carries_174 (by decide) ?_
                  refine lv_icmp_ge (tgt := 197) hx hb dX10_carries_176 (by decide) (fun c315 => ?_) (fun c315 => ?_)
                  · replace hf := ifp c315 hf
                    obtain rfl := inj1 hf
                    exact hX314 _ _ hP hD hS _ (lv_sub hl [0, 1] rfl)
                  · replace hf := ifn c315 hf
                    refine lv_aload_n hx hb dX10_carries_179 rfl (lv_at hl 0 rfl) ?_
                    refine va_get (D := (dC, dI)) (ci := 8) (v := .ref h_t_far) (C := RX10) (T := TX10) (N := 32) hx hb hts (in1 tw_X10) hown hK hP 0 rfl rfl 4 (by decide) (hts _ (List.mem_cons_of_mem _ kw_121)) (fun _ h9 => h9) rfl dX10_carries_180 ?_
                    refine lv_iload_n hx hb dX10_carries_183 rfl (lv_at hl 2 rfl) ?_
                    refine lv_aload_n hx hb dX10_carries_184 rfl (lv_at hl 0 rfl) ?_
                    refine va_get (D := (dC, dI)) (ci := 8) (v := .ref h_t_then) (C := RX10) (T := TX10) (N := 32) hx hb hts (in1 tw_X10) hown hK hP 0 rfl rfl 5 (by decide) (hts _ (List.mem_cons_of_mem _ kw_122)) (fun _ h9 => h9) rfl dX10_carries_185 ?_
                    refine lv_iload_n hx hb dX10_carries_188 rfl (lv_at hl 2 rfl) ?_
                    obtain ⟨g316, hf⟩ := chk_some hf
                    refine va_iald hx hb hK hP 2 0 rfl rfl (gin_in g316) dX10_carries_189 ?_
                    obtain ⟨x317, e318, hf⟩ := nm_some hf
                    refine lv_tope e318 ?_
                    obtain ⟨g319, hf⟩ := chk_some hf
                    obtain ⟨y320, e321, hf⟩ := nm_some hf
                    refine va_iast hx hb hK hP hD hS 1 0 rfl rfl (gin_in g319) dX10_carries_190 (fun H locs hP hD hS => ?_)
                    have hP : va_P (dC, dI) vwCl [(h_t, .inr (8, fX10 h_t_book h_t_images h_t_kept h_t_aside h_t_far h_t_then h_t_row h_t_mays h_t_firstRow h_t_low h_t_high t_noOlder t_thanThis t_known t_knownAge t_moved h_t_lowOne h_t_highOne h_t_ways t_met h_t_left t_hours t_greatest h_t_text t_typed t_at t_start t_token t_value h_t_verbs h_t_nums t_items)), (h_t_far, .inl (cI, 64, .inl y320)), (h_t_then, .inl (cI, 64, .inl y246)), (h_t_book, .inl (cI, 460, .inl t_book))] H := by rw [e321]; exact hP
                    have hD : va_D A [(h_t, .inr (8, fX10 h_t_book h_t_images h_t_kept h_t_aside h_t_far h_t_then h_t_row h_t_mays h_t_firstRow h_t_low h_t_high t_noOlder t_thanThis t_known t_knownAge t_moved h_t_lowOne h_t_highOne h_t_ways t_met h_t_left t_hours t_greatest h_t_text t_typed t_at t_start t_token t_value h_t_verbs h_t_nums t_items)), (h_t_far, .inl (cI, 64, .inl y320)), (h_t_then, .inl (cI, 64, .inl y246)), (h_t_book, .inl (cI, 460, .inl t_book))] := by rw [e321]; exact hD
                    refine lv_iinc (v := (x311 + (1 : Int32))) (lv' := [(3, .int (x311 + (1 : Int32))), (0, .ref h_t), (2, .int x175)]) hx hb dX10_carries_191 hl (k := 2) rfl rfl (by decide) rfl (fun ls hl => ?_)
                    refine lv_goto (tgt := 173) hx hb dX10_carries_194 (by decide) ?_
                    exact ih312 _ _ _ hf hX314 _ _ hP hD hS _ (lv_sub hl [1, 2, 0] rfl)
              obtain ⟨y309, hg, hf⟩ := bd1_some hf
              refine L322 FU _ _ _ hg ?_ _ _ hP hD hS _ (lv_sub hl [1, 2, 0] rfl)
              · intro H locs hP hD hS ls hl
                refine lv_iinc (v := (x175 + (1 : Int32))) (lv' := [(2, .int (x175 + (1 : Int32))), (0, .ref h_t)]) hx hb dX10_carries_197 hl (k := 1) rfl rfl (by decide) rfl (fun ls hl => ?_)
                refine lv_goto (tgt := 33) hx hb dX10_carries_200 (by decide) ?_
                exact ih176 _ _ _ _ _ hf hX178 _ _ hP hD hS _ (lv_sub hl [1, 0] rfl)
    obtain ⟨y171, y172, hg, hf⟩ := bd2_some hf
    refine L323 FU _ _ _ _ _ hg ?_ _ _ hP hD hS _ (lv_sub hl [1, 0] rfl)
    · intro H locs hP hD hS ls hl
      obtain ⟨rfl, rfl⟩ := inj2 hf
      subst hQ
      exact CM_vret hx hb hr hlocks hAe hP hD hS dX10_carries_203
def rmX10_stepsOf : Room := { frames := 4, cells := 0, slots := 0, locals := 100 }
abbrev wqX10_stepsOf : List Cond := Cond.code yX10_stepsOf cX10_stepsOf 4 (some .int) :: tG
set_option maxHeartbeats 4000000 in
set_option maxRecDepth 100000 in
theorem c_X10_stepsOf (l : Launch) (dC : Nat → ClassId) (dI : Nat → Nat → Nat) (cI cZ : ClassId) (te : Nat → Nat) (h_t : Nat) (h_t_book : Nat) (h_t_images : Nat) (h_t_kept : Nat) (h_t_aside : Nat) (h_t_far : Nat) (h_t_then : Nat) (h_t_row : Nat) (h_t_mays : Nat) (h_t_firstRow : Nat) (h_t_low : Nat) (h_t_high : Nat) (h_t_lowOne : Nat) (h_t_highOne : Nat) (h_t_ways : Nat) (h_t_left : Nat) (h_t_text : Nat) (h_t_verbs : Nat) (h_t_nums : Nat) (t_noOlder : Int32) (t_thanThis : Int32) (t_known : Int32) (t_knownAge : Int32) (t_moved : Int32) (t_met : Int32) (t_hours : Int32) (t_greatest : Int32) (t_typed : Int32) (t_at : Int32) (t_start : Int32) (t_token : Int32) (t_value : Int32) (t_items : Int32) (t_book : Nat → Int32) (t_far : Nat → Int32) (t_then : Nat → Int32) (p1 : Int32) (p2 : Int32) (o0 : Int32) (o1 : Nat → Int32) (o2 : Nat → Int32) (hf : f_X10_stepsOf t_book t_far t_then p1 p2 = some (o0, o1, o2)) : CM l yX10_stepsOf wqX10_stepsOf rmX10_stepsOf (kS te) dC dI cI cZ [.ref h_t, .int p1, .int p2] [(h_t, .inr (8, fX10 h_t_book h_t_images h_t_kept h_t_aside h_t_far h_t_then h_t_row h_t_mays h_t_firstRow h_t_low h_t_high t_noOlder t_thanThis t_known t_knownAge t_moved h_t_lowOne h_t_highOne h_t_ways t_met h_t_left t_hours t_greatest h_t_text t_typed t_at t_start t_token t_value h_t_verbs h_t_nums t_items)), (h_t_book, .inl (cI, 460, .inl t_book)), (h_t_far, .inl (cI, 64, .inl t_far)), (h_t_then, .inl (cI, 64, .inl t_then))] [(h_t, .inr (8, fX10 h_t_book h_t_images h_t_kept h_t_aside h_t_far h_t_then h_t_row h_t_mays h_t_firstRow h_t_low h_t_high t_noOlder t_thanThis t_known t_knownAge t_moved h_t_lowOne h_t_highOne h_t_ways t_met h_t_left t_hours t_greatest h_t_text t_typed t_at t_start t_token t_value h_t_verbs h_t_nums t_items)), (h_t_book, .inl (cI, 460, .inl t_book)), (h_t_far, .inl (cI, 64, .inl o1)), (h_t_then, .inl (cI, 64, .inl o2))] (some (.int o0)) := by
  refine CM_of (cc := cX10_stepsOf) (maxL := 4) (ret := (some .int)) (by decide +kernel) rfl (Nat.le_of_ble_eq_true rfl) ?_
  intro p e s m args below meth c A Q hx hb hr hml hown hts hlocks hA hK hP hD hS hE hQ hAe ls hl
  have hown : s.vm.findClass RX10 = some m.cls := hown
  have hl : lv_has ls 4 [(0, .ref h_t), (1, .int p1), (2, .int p2)] := hl
  unfold f_X10_stepsOf at hf
  refine lv_aload_n hx hb dX10_stepsOf_0 rfl (lv_at hl 0 rfl) ?_
  refine lv_aload_n hx hb dX10_stepsOf_1 rfl (lv_at hl 0 rfl) ?_
  refine lv_iload_n hx hb dX10_stepsOf_2 rfl (lv_at hl 2 rfl) ?_
  refine lv_iconst (v := (0 : Int32)) hx hb dX10_stepsOf_3 (by decide) ?_
  obtain ⟨r1, hg2, hf⟩ := bd1_some hf
  refine CM_callV (C := RX10) (As := [.int p2, .int (0 : Int32)]) (rest := [.ref h_t]) (wc := [(h_t, .inr (8, fX10 h_t_book h_t_images h_t_kept h_t_aside h_t_far h_t_then h_t_row h_t_mays h_t_firstRow h_t_low h_t_high t_noOlder t_thanThis t_known t_knownAge t_moved h_t_lowOne h_t_highOne h_t_ways t_met h_t_left t_hours t_greatest h_t_text t_typed t_at t_start t_token t_value h_t_verbs h_t_nums t_items)), (h_t_book, .inl (cI, 460, .inl t_book))]) (w1 := [(h_t, .inr (8, fX10 h_t_book h_t_images h_t_kept h_t_aside h_t_far h_t_then h_t_row h_t_mays h_t_firstRow h_t_low h_t_high t_noOlder t_thanThis t_known t_knownAge t_moved h_t_lowOne h_t_highOne h_t_ways t_met h_t_left t_hours t_greatest h_t_text t_typed t_at t_start t_token t_value h_t_verbs h_t_nums t_items)), (h_t_book, .inl (cI, 460, .inl t_book))]) (wr := [(h_t_far, .inl (cI, 64, .inl t_far)), (h_t_then, .inl (cI, 64, .inl t_then))]) (wo := [(h_t, .inr (8, fX10 h_t_book h_t_images h_t_kept h_t_aside h_t_far h_t_then h_t_row h_t_mays h_t_firstRow h_t_low h_t_high t_noOlder t_thanThis t_known t_knownAge t_moved h_t_lowOne h_t_highOne h_t_ways t_met h_t_left t_hours t_greatest h_t_text t_typed t_at t_start t_token t_value h_t_verbs h_t_nums t_items)), (h_t_book, .inl (cI, 460, .inl t_book)), (h_t_far, .inl (cI, 64, .inl t_far)), (h_t_then, .inl (cI, 64, .inl t_then))]) (v := (some (.int r1))) ⟨hx, hb, hml, hown, hts⟩ (c_X10_cliffAt l dC dI cI cZ te h_t h_t_book h_t_images h_t_kept h_t_aside h_t_far h_t_then h_t_row h_t_mays h_t_firstRow h_t_low h_t_high h_t_lowOne h_t_highOne h_t_ways h_t_left h_t_text h_t_verbs h_t_nums t_noOlder t_thanThis t_known t_knownAge t_moved t_met t_hours t_greatest t_typed t_at t_start t_token t_value t_items t_book p2 (0 : Int32) r1 hg2) (cwV 2 hts (gV kw_193 kw_194 kw_195 kw_159 kw_196) rfl rfl rfl (by decide +kernel) ⟨Nat.le_of_ble_eq_true rfl, Nat.le_of_ble_eq_true rfl⟩) (kS_env te) hK hP hD hS hA hE [0, 1] [2, 3] [2, 3, 0, 1] rfl rfl (by decide) (by decide) (by decide) (by decide) rfl 0 8 rfl rfl rfl rfl hl.1 rfl (Nat.le_of_ble_eq_true rfl) dX10_stepsOf_4 ⟨Nat.zero_le _, Nat.zero_le _⟩ (fun H locs hP hD hS => ?_)
  show W p l e rmX10_stepsOf s m args below meth c H locs 0 0 Q (F0 m 7 ls [.int r1, .ref h_t])
  obtain ⟨y3, y4, hg5, hf⟩ := bd2_some hf
  refine CM_callV (C := RX10) (As := [.int r1]) (rest := []) (wc := [(h_t, .inr (8, fX10 h_t_book h_t_images h_t_kept h_t_aside h_t_far h_t_then h_t_row h_t_mays h_t_firstRow h_t_low h_t_high t_noOlder t_thanThis t_known t_knownAge t_moved h_t_lowOne h_t_highOne h_t_ways t_met h_t_left t_hours t_greatest h_t_text t_typed t_at t_start t_token t_value h_t_verbs h_t_nums t_items)), (h_t_far, .inl (cI, 64, .inl t_far)), (h_t_then, .inl (cI, 64, .inl t_then)), (h_t_book, .inl (cI, 460, .inl t_book))]) (w1 := [(h_t, .inr (8, fX10 h_t_book h_t_images h_t_kept h_t_aside h_t_far h_t_then h_t_row h_t_mays h_t_firstRow h_t_low h_t_high t_noOlder t_thanThis t_known t_knownAge t_moved h_t_lowOne h_t_highOne h_t_ways t_met h_t_left t_hours t_greatest h_t_text t_typed t_at t_start t_token t_value h_t_verbs h_t_nums t_items)), (h_t_far, .inl (cI, 64, .inl y3)), (h_t_then, .inl (cI, 64, .inl y4)), (h_t_book, .inl (cI, 460, .inl t_book))]) (wr := []) (wo := [(h_t, .inr (8, fX10 h_t_book h_t_images h_t_kept h_t_aside h_t_far h_t_then h_t_row h_t_mays h_t_firstRow h_t_low h_t_high t_noOlder t_thanThis t_known t_knownAge t_moved h_t_lowOne h_t_highOne h_t_ways t_met h_t_left t_hours t_greatest h_t_text t_typed t_at t_start t_token t_value h_t_verbs h_t_nums t_items)), (h_t_book, .inl (cI, 460, .inl t_book)), (h_t_far, .inl (cI, 64, .inl y3)), (h_t_then, .inl (cI, 64, .inl y4))]) (v := (none)) ⟨hx, hb, hml, hown, hts⟩ (c_X10_carries l dC dI cI cZ te h_t h_t_book h_t_images h_t_kept h_t_aside h_t_far h_t_then h_t_row h_t_mays h_t_firstRow h_t_low h_t_high h_t_lowOne h_t_highOne h_t_ways h_t_left h_t_text h_t_verbs h_t_nums t_noOlder t_thanThis t_known t_knownAge t_moved t_met t_hours t_greatest t_typed t_at t_start t_token t_value t_items t_far t_then t_book r1 y3 y4 hg5) (cwV 1 hts (gV kw_197 kw_198 kw_199 kw_159 kw_200) rfl rfl rfl (by decide +kernel) ⟨Nat.le_of_ble_eq_true rfl, Nat.le_of_ble_eq_true rfl⟩) (kS_env te) hK hP hD hS hA hE [0, 2, 3, 1] [] [0, 3, 1, 2] rfl rfl (by decide) (by decide) (by decide) (by decide) rfl 0 8 rfl rfl rfl rfl hl.1 rfl (Nat.le_of_ble_eq_true rfl) dX10_stepsOf_7 ⟨Nat.zero_le _, Nat.zero_le _⟩ (fun H locs hP hD hS => ?_)
  show W p l e rmX10_stepsOf s m args below meth c H locs 0 0 Q (F0 m 10 ls [])
  refine lv_aload_n hx hb dX10_stepsOf_10 rfl (lv_at hl 0 rfl) ?_
  refine va_get (D := (dC, dI)) (ci := 8) (v := .ref h_t_far) (C := RX10) (T := TX10) (N := 32) hx hb hts (in1 tw_X10) hown hK hP 0 rfl rfl 4 (by decide) (hts _ (List.mem_cons_of_mem _ kw_121)) (fun _ h9 => h9) rfl dX10_stepsOf_11 ?_
  refine lv_aload_n hx hb dX10_stepsOf_14 rfl (lv_at hl 0 rfl) ?_
  refine lv_iload_n hx hb dX10_stepsOf_15 rfl (lv_at hl 1 rfl) ?_
  refine lv_iconst (v := (0 : Int32)) hx hb dX10_stepsOf_16 (by decide) ?_
  obtain ⟨r6, hg7, hf⟩ := bd1_some hf
  refine CM_callV (C := RX10) (As := [.int p1, .int (0 : Int32)]) (rest := [.ref h_t_far]) (wc := [(h_t, .inr (8, fX10 h_t_book h_t_images h_t_kept h_t_aside h_t_far h_t_then h_t_row h_t_mays h_t_firstRow h_t_low h_t_high t_noOlder t_thanThis t_known t_knownAge t_moved h_t_lowOne h_t_highOne h_t_ways t_met h_t_left t_hours t_greatest h_t_text t_typed t_at t_start t_token t_value h_t_verbs h_t_nums t_items)), (h_t_book, .inl (cI, 460, .inl t_book))]) (w1 := [(h_t, .inr (8, fX10 h_t_book h_t_images h_t_kept h_t_aside h_t_far h_t_then h_t_row h_t_mays h_t_firstRow h_t_low h_t_high t_noOlder t_thanThis t_known t_knownAge t_moved h_t_lowOne h_t_highOne h_t_ways t_met h_t_left t_hours t_greatest h_t_text t_typed t_at t_start t_token t_value h_t_verbs h_t_nums t_items)), (h_t_book, .inl (cI, 460, .inl t_book))]) (wr := [(h_t_far, .inl (cI, 64, .inl y3)), (h_t_then, .inl (cI, 64, .inl y4))]) (wo := [(h_t, .inr (8, fX10 h_t_book h_t_images h_t_kept h_t_aside h_t_far h_t_then h_t_row h_t_mays h_t_firstRow h_t_low h_t_high t_noOlder t_thanThis t_known t_knownAge t_moved h_t_lowOne h_t_highOne h_t_ways t_met h_t_left t_hours t_greatest h_t_text t_typed t_at t_start t_token t_value h_t_verbs h_t_nums t_items)), (h_t_book, .inl (cI, 460, .inl t_book)), (h_t_far, .inl (cI, 64, .inl y3)), (h_t_then, .inl (cI, 64, .inl y4))]) (v := (some (.int r6))) ⟨hx, hb, hml, hown, hts⟩ (c_X10_boulderAt l dC dI cI cZ te h_t h_t_book h_t_images h_t_kept h_t_aside h_t_far h_t_then h_t_row h_t_mays h_t_firstRow h_t_low h_t_high h_t_lowOne h_t_highOne h_t_ways h_t_left h_t_text h_t_verbs h_t_nums t_noOlder t_thanThis t_known t_knownAge t_moved t_met t_hours t_greatest t_typed t_at t_start t_token t_value t_items t_book p1 (0 : Int32) r6 hg7) (cwV 2 hts (gV kw_201 kw_202 kw_203 kw_159 kw_204) rfl rfl rfl (by decide +kernel) ⟨Nat.le_of_ble_eq_true rfl, Nat.le_of_ble_eq_true rfl⟩) (kS_env te) hK hP hD hS hA hE [0, 1] [2, 3] [2, 3, 0, 1] rfl rfl (by decide) (by decide) (by decide) (by decide) rfl 0 8 rfl rfl rfl rfl hl.1 rfl (Nat.le_of_ble_eq_true rfl) dX10_stepsOf_17 ⟨Nat.zero_le _, Nat.zero_le _⟩ (fun H locs hP hD hS => ?_)
  show W p l e rmX10_stepsOf s m args below meth c H locs 0 0 Q (F0 m 20 ls [.int r6, .ref h_t_far])
  obtain ⟨g8, hf⟩ := chk_some hf
  refine va_iald hx hb hK hP 2 0 rfl rfl (gin_in g8) dX10_stepsOf_20 ?_
  obtain ⟨x9, e10, hf⟩ := nm_some hf
  refine lv_tope e10 ?_
  refine lv_istore_n (lv' := [(3, .int x9), (0, .ref h_t), (1, .int p1), (2, .int p2)]) hx hb dX10_stepsOf_21 rfl hl (by decide) rfl (fun ls hl => ?_)
  refine lv_iload_n hx hb dX10_stepsOf_22 rfl (lv_at hl 0 rfl) ?_
  refine lv_ldc (v := (1000000 : Int32)) hx hb hown (hts _ (List.mem_cons_of_mem _ kw_192)) dX10_stepsOf_23 ?_
  refine lv_icmp_ge (tgt := 32) hx hb dX10_stepsOf_25 (by decide) (fun c11 => ?_) (fun c11 => ?_)
  · replace hf := ifp c11 hf
    refine lv_iconst (v := (-1 : Int32)) hx hb dX10_stepsOf_32 (by decide) ?_
    obtain ⟨rfl, rfl, rfl⟩ := inj3 hf
    subst hQ
    exact CM_iret hx hb hr rfl hlocks hAe hP hD hS dX10_stepsOf_33
  · replace hf := ifn c11 hf
    refine lv_iload_n hx hb dX10_stepsOf_28 rfl (lv_at hl 0 rfl) ?_
    refine lv_goto (tgt := 33) hx hb dX10_stepsOf_29 (by decide) ?_
    obtain ⟨rfl, rfl, rfl⟩ := inj3 hf
    subst hQ
    exact CM_iret hx hb hr rfl hlocks hAe hP hD hS dX10_stepsOf_33
def rmX10_fits : Room := { frames := 5, cells := 0, slots := 0, locals := 123 }
abbrev wqX10_fits : List Cond := Cond.code yX10_fits cX10_fits 4 (some .int) :: tG
set_option maxHeartbeats 4000000 in
set_option maxRecDepth 100000 in
theorem c_X10_fits (l : Launch) (dC : Nat → ClassId) (dI : Nat → Nat → Nat) (cI cZ : ClassId) (te : Nat → Nat) (h_t : Nat) (h_t_book : Nat) (h_t_images : Nat) (h_t_kept : Nat) (h_t_aside : Nat) (h_t_far : Nat) (h_t_then : Nat) (h_t_row : Nat) (h_t_mays : Nat) (h_t_firstRow : Nat) (h_t_low : Nat) (h_t_high : Nat) (h_t_lowOne : Nat) (h_t_highOne : Nat) (h_t_ways : Nat) (h_t_left : Nat) (h_t_text : Nat) (h_t_verbs : Nat) (h_t_nums : Nat) (t_noOlder : Int32) (t_thanThis : Int32) (t_known : Int32) (t_knownAge : Int32) (t_moved : Int32) (t_met : Int32) (t_hours : Int32) (t_greatest : Int32) (t_typed : Int32) (t_at : Int32) (t_start : Int32) (t_token : Int32) (t_value : Int32) (t_items : Int32) (t_book : Nat → Int32) (t_far : Nat → Int32) (t_then : Nat → Int32) (p1 : Int32) (o0 : Int32) (o1 : Nat → Int32) (o2 : Nat → Int32) (hf : f_X10_fits t_book t_far t_then p1 = some (o0, o1, o2)) : CM l yX10_fits wqX10_fits rmX10_fits (kS te) dC dI cI cZ [.ref h_t, .int p1] [(h_t, .inr (8, fX10 h_t_book h_t_images h_t_kept h_t_aside h_t_far h_t_then h_t_row h_t_mays h_t_firstRow h_t_low h_t_high t_noOlder t_thanThis t_known t_knownAge t_moved h_t_lowOne h_t_highOne h_t_ways t_met h_t_left t_hours t_greatest h_t_text t_typed t_at t_start t_token t_value h_t_verbs h_t_nums t_items)), (h_t_book, .inl (cI, 460, .inl t_book)), (h_t_far, .inl (cI, 64, .inl t_far)), (h_t_then, .inl (cI, 64, .inl t_then))] [(h_t, .inr (8, fX10 h_t_book h_t_images h_t_kept h_t_aside h_t_far h_t_then h_t_row h_t_mays h_t_firstRow h_t_low h_t_high t_noOlder t_thanThis t_known t_knownAge t_moved h_t_lowOne h_t_highOne h_t_ways t_met h_t_left t_hours t_greatest h_t_text t_typed t_at t_start t_token t_value h_t_verbs h_t_nums t_items)), (h_t_book, .inl (cI, 460, .inl t_book)), (h_t_far, .inl (cI, 64, .inl o1)), (h_t_then, .inl (cI, 64, .inl o2))] (some (.int o0)) := by
  refine CM_of (cc := cX10_fits) (maxL := 4) (ret := (some .int)) (by decide +kernel) rfl (Nat.le_of_ble_eq_true rfl) ?_
  intro p e s m args below meth c A Q hx hb hr hml hown hts hlocks hA hK hP hD hS hE hQ hAe ls hl
  have hown : s.vm.findClass RX10 = some m.cls := hown
  have hl : lv_has ls 4 [(0, .ref h_t), (1, .int p1)] := hl
  unfold f_X10_fits at hf
  refine lv_aload_n hx hb dX10_fits_0 rfl (lv_at hl 0 rfl) ?_
  refine lv_iconst (v := (1 : Int32)) hx hb dX10_fits_1 (by decide) ?_
  refine lv_iload_n hx hb dX10_fits_2 rfl (lv_at hl 1 rfl) ?_
  obtain ⟨r1, hg2, hf⟩ := bd1_some hf
  refine CM_callV (C := RX10) (As := [.int (1 : Int32), .int p1]) (rest := []) (wc := [(h_t, .inr (8, fX10 h_t_book h_t_images h_t_kept h_t_aside h_t_far h_t_then h_t_row h_t_mays h_t_firstRow h_t_low h_t_high t_noOlder t_thanThis t_known t_knownAge t_moved h_t_lowOne h_t_highOne h_t_ways t_met h_t_left t_hours t_greatest h_t_text t_typed t_at t_start t_token t_value h_t_verbs h_t_nums t_items)), (h_t_book, .inl (cI, 460, .inl t_book))]) (w1 := [(h_t, .inr (8, fX10 h_t_book h_t_images h_t_kept h_t_aside h_t_far h_t_then h_t_row h_t_mays h_t_firstRow h_t_low h_t_high t_noOlder t_thanThis t_known t_knownAge t_moved h_t_lowOne h_t_highOne h_t_ways t_met h_t_left t_hours t_greatest h_t_text t_typed t_at t_start t_token t_value h_t_verbs h_t_nums t_items)), (h_t_book, .inl (cI, 460, .inl t_book))]) (wr := [(h_t_far, .inl (cI, 64, .inl t_far)), (h_t_then, .inl (cI, 64, .inl t_then))]) (wo := [(h_t, .inr (8, fX10 h_t_book h_t_images h_t_kept h_t_aside h_t_far h_t_then h_t_row h_t_mays h_t_firstRow h_t_low h_t_high t_noOlder t_thanThis t_known t_knownAge t_moved h_t_lowOne h_t_highOne h_t_ways t_met h_t_left t_hours t_greatest h_t_text t_typed t_at t_start t_token t_value h_t_verbs h_t_nums t_items)), (h_t_book, .inl (cI, 460, .inl t_book)), (h_t_far, .inl (cI, 64, .inl t_far)), (h_t_then, .inl (cI, 64, .inl t_then))]) (v := (some (.int r1))) ⟨hx, hb, hml, hown, hts⟩ (c_X10_is l dC dI cI cZ te h_t h_t_book h_t_images h_t_kept h_t_aside h_t_far h_t_then h_t_row h_t_mays h_t_firstRow h_t_low h_t_high h_t_lowOne h_t_highOne h_t_ways h_t_left h_t_text h_t_verbs h_t_nums t_noOlder t_thanThis t_known t_knownAge t_moved t_met t_hours t_greatest t_typed t_at t_start t_token t_value t_items t_book (1 : Int32) p1 r1 hg2) (cwV 2 hts (gV kw_205 kw_206 kw_207 kw_159 kw_208) rfl rfl rfl (by decide +kernel) ⟨Nat.le_of_ble_eq_true rfl, Nat.le_of_ble_eq_true rfl⟩) (kS_env te) hK hP hD hS hA hE [0, 1] [2, 3] [2, 3, 0, 1] rfl rfl (by decide) (by decide) (by decide) (by decide) rfl 0 8 rfl rfl rfl rfl hl.1 rfl (Nat.le_of_ble_eq_true rfl) dX10_fits_3 ⟨Nat.zero_le _, Nat.zero_le _⟩ (fun H locs hP hD hS => ?_)
  show W p l e rmX10_fits s m args below meth c H locs 0 0 Q (F0 m 6 ls [.int r1])
  refine lv_if_ne (tgt := 12) hx hb dX10_fits_6 (by decide) (fun c3 => ?_) (fun c3 => ?_)
  · replace hf := ifn c3 hf
    refine lv_iconst (v := (0 : Int32)) hx hb dX10_fits_12 (by decide) ?_
    refine lv_istore_n (lv' := [(2, .int (0 : Int32)), (0, .ref h_t), (1, .int p1)]) hx hb dX10_fits_13 rfl hl (by decide) rfl (fun ls hl => ?_)
    refine lv_iconst (v := (0 : Int32)) hx hb dX10_fits_14 (by decide) ?_
    refine lv_istore_n (lv' := [(3, .int (0 : Int32)), (2, .int (0 : Int32)), (0, .ref h_t), (1, .int p1)]) hx hb dX10_fits_15 rfl hl (by decide) rfl (fun ls hl => ?_)
    have L54 : ∀ (fu34 : Nat) (y29 : Nat → Int32) (y30 : Nat → Int32) (x31 : Int32) (x32 : Int32) (y26 : Nat → Int32) (y27 : Nat → Int32) (x28 : Int32), f_X10_fits_L1 t_book p1 fu34 y29 y30 x31 x32 = some (y26, y27, x28) → (∀ (H : Heap) (locs : List Loc), va_P (dC, dI) vwCl [(h_t, .inr (8, fX10 h_t_book h_t_images h_t_kept h_t_aside h_t_far h_t_then h_t_row h_t_mays h_t_firstRow h_t_low h_t_high t_noOlder t_thanThis t_known t_knownAge t_moved h_t_lowOne h_t_highOne h_t_ways t_met h_t_left t_hours t_greatest h_t_text t_typed t_at t_start t_token t_value h_t_verbs h_t_nums t_items)), (h_t_book, .inl (cI, 460, .inl t_book)), (h_t_far, .inl (cI, 64, .inl y26)), (h_t_then, .inl (cI, 64, .inl y27))] H → va_D A [(h_t, .inr (8, fX10 h_t_book h_t_images h_t_kept h_t_aside h_t_far h_t_then h_t_row h_t_mays h_t_firstRow h_t_low h_t_high t_noOlder t_thanThis t_known t_knownAge t_moved h_t_lowOne h_t_highOne h_t_ways t_met h_t_left t_hours t_greatest h_t_text t_typed t_at t_start t_token t_value h_t_verbs h_t_nums t_items)), (h_t_book, .inl (cI, 460, .inl t_book)), (h_t_far, .inl (cI, 64, .inl y26)), (h_t_then, .inl (cI, 64, .inl y27))] → va_S A s.heap H locs → ∀ ls : Array Slot, lv_has ls 4 [(2, .int x28)] → W p l e rmX10_fits s m args below meth c H locs 0 0 Q (F0 m 67 ls [])) → ∀ (H : Heap) (locs : List Loc), va_P (dC, dI) vwCl [(h_t, .inr (8, fX10 h_t_book h_t_images h_t_kept h_t_aside h_t_far h_t_then h_t_row h_t_mays h_t_firstRow h_t_low h_t_high t_noOlder t_thanThis t_known t_knownAge t_moved h_t_lowOne h_t_highOne h_t_ways t_met h_t_left t_hours t_greatest h_t_text t_typed t_at t_start t_token t_value h_t_verbs h_t_nums t_items)), (h_t_book, .inl (cI, 460, .inl t_book)), (h_t_far, .inl (cI, 64, .inl y29)), (h_t_then, .inl (cI, 64, .inl y30))] H → va_D A [(h_t, .inr (8, fX10 h_t_book h_t_images h_t_kept h_t_aside h_t_far h_t_then h_t_row h_t_mays h_t_firstRow h_t_low h_t_high t_noOlder t_thanThis t_known t_knownAge t_moved h_t_lowOne h_t_highOne h_t_ways t_met h_t_left t_hours t_greatest h_t_text t_typed t_at t_start t_token t_value h_t_verbs h_t_nums t_items)), (h_t_book, .inl (cI, 460, .inl t_book)), (h_t_far, .inl (cI, 64, .inl y29)), (h_t_then, .inl (cI, 64, .inl y30))] → va_S A s.heap H locs → ∀ ls : Array Slot, lv_has ls 4 [(0, .ref h_t), (1, .int p1), (2, .int x31), (3, .int x32)] → W p l e rmX10_fits s m args below meth c H locs 0 0 Q (F0 m 16 ls []) := by
      intro fu34
      induction fu34 with
      | zero =>
        intro y29 y30 x31 x32 y26 y27 x28 hf
        unfold f_X10_fits_L1 at hf
        exact none_ne hf
      | succ fu34 ih33 =>
        intro y29 y30 x31 x32 y26 y27 x28 hf hX35 H locs hP hD hS ls hl
        unfold f_X10_fits_L1 at hf
        refine lv_iload_n hx hb dX10_fits_16 rfl (lv_at hl 3 rfl) ?_
        refine lv_aload_n hx hb dX10_fits_17 rfl (lv_at hl 0 rfl) ?_
        refine va_get (D := (dC, dI)) (ci := 8) (v := .ref h_t_book) (C := RX10) (T := TX10) (N := 32) hx hb hts (in1 tw_X10) hown hK hP 0 rfl rfl 0 (by decide) (hts _ (List.mem_cons_of_mem _ kw_116)) (fun _ h9 => h9) rfl dX10_fits_18 ?_
        refine lv_iconst (v := (0 : Int32)) hx hb dX10_fits_21 (by decide) ?_
        obtain ⟨g36, hf⟩ := chk_some hf
        refine va_iald hx hb hK hP 1 0 rfl rfl (gin_in g36) dX10_fits_22 ?_
        refine lv_icmp_ge (tgt := 67) hx hb dX10_fits_23 (by decide) (fun c37 => ?_) (fun c37 => ?_)
        · replace hf := ifp c37 hf
          obtain ⟨rfl, rfl, rfl⟩ := inj3 hf
          exact hX35 _ _ hP hD hS _ (lv_sub hl [2] rfl)
        · replace hf := ifn c37 hf
          refine lv_iload_n hx hb dX10_fits_26 rfl (lv_at hl 2 rfl) ?_
          refine lv_aload_n hx hb dX10_fits_27 rfl (lv_at hl 0 rfl) ?_
          refine lv_iload_n hx hb dX10_fits_28 rfl (lv_at hl 3 rfl) ?_
          refine lv_iconst (v := (1 : Int32)) hx hb dX10_fits_29 (by decide) ?_
          obtain ⟨r38, hg39, hf⟩ := bd1_some hf
          refine CM_callV (C := RX10) (As := [.int x32, .int (1 : Int32)]) (rest := [.int x31]) (wc := [(h_t, .inr (8, fX10 h_t_book h_t_images h_t_kept h_t_aside h_t_far h_t_then h_t_row h_t_mays h_t_firstRow h_t_low h_t_high t_noOlder t_thanThis t_known t_knownAge t_moved h_t_lowOne h_t_highOne h_t_ways t_met h_t_left t_hours t_greatest h_t_text t_typed t_at t_start t_token t_value h_t_verbs h_t_nums t_items)), (h_t_book, .inl (cI, 460, .inl t_book))]) (w1 := [(h_t, .inr (8, fX10 h_t_book h_t_images h_t_kept h_t_aside h_t_far h_t_then h_t_row h_t_mays h_t_firstRow h_t_low h_t_high t_noOlder t_thanThis t_known t_knownAge t_moved h_t_lowOne h_t_highOne h_t_ways t_met h_t_left t_hours t_greatest h_t_text t_typed t_at t_start t_token t_value h_t_verbs h_t_nums t_items)), (h_t_book, .inl (cI, 460, .inl t_book))]) (wr := [(h_t_far, .inl (cI, 64, .inl y29)), (h_t_then, .inl (cI, 64, .inl y30))]) (wo := [(h_t, .inr (8, fX10 h_t_book h_t_images h_t_kept h_t_aside h_t_far h_t_then h_t_row h_t_mays h_t_firstRow h_t_low h_t_high t_noOlder t_thanThis t_known t_knownAge t_moved h_t_lowOne h_t_highOne h_t_ways t_met h_t_left t_hours t_greatest h_t_text t_typed t_at t_start t_token t_value h_t_verbs h_t_nums t_items)), (h_t_book, .inl (cI, 460, .inl t_book)), (h_t_far, .inl (cI, 64, .inl y29)), (h_t_then, .inl (cI, 64, .inl y30))]) (v := (some (.int r38))) ⟨hx, hb, hml, hown, hts⟩ (c_X10_cliffAt l dC dI cI cZ te h_t h_t_book h_t_images h_t_kept h_t_aside h_t_far h_t_then h_t_row h_t_mays h_t_firstRow h_t_low h_t_high h_t_lowOne h_t_highOne h_t_ways h_t_left h_t_text h_t_verbs h_t_nums t_noOlder t_thanThis t_known t_knownAge t_moved t_met t_hours t_greatest t_typed t_at t_start t_token t_value t_items t_book x32 (1 : Int32) r38 hg39) (cwV 2 hts (gV kw_193 kw_194 kw_195 kw_159 kw_196) rfl rfl rfl (by decide +kernel) ⟨Nat.le_of_ble_eq_true rfl, Nat.le_of_ble_eq_true rfl⟩) (kS_env te) hK hP hD hS hA hE [0, 1] [2, 3] [2, 3, 0, 1] rfl rfl (by decide) (by decide) (by decide) (by decide) rfl 0 8 rfl rfl rfl rfl hl.1 rfl (Nat.le_of_ble_eq_true rfl) dX10_fits_30 ⟨Nat.zero_le _, Nat.zero_le _⟩ (fun H locs hP hD hS => ?_)
          show W p l e rmX10_fits s m args below meth c H locs 0 0 Q (F0 m 33 ls [.int r38, .int x31])
          refine lv_aload_n hx hb dX10_fits_33 rfl (lv_at hl 0 rfl) ?_
          refine lv_iload_n hx hb dX10_fits_34 rfl (lv_at hl 1 rfl) ?_
          refine lv_iconst (v := (1 : Int32)) hx hb dX10_fits_35 (by decide) ?_
          obtain ⟨r40, hg41, hf⟩ := bd1_some hf
          refine CM_callV (C := RX10) (As := [.int p1, .int (1 : Int32)]) (rest := [.int r38, .int x31]) (wc := [(h_t, .inr (8, fX10 h_t_book h_t_images h_t_kept h_t_aside h_t_far h_t_then h_t_row h_t_mays h_t_firstRow h_t_low h_t_high t_noOlder t_thanThis t_known t_knownAge t_moved h_t_lowOne h_t_highOne h_t_ways t_met h_t_left t_hours t_greatest h_t_text t_typed t_at t_start t_token t_value h_t_verbs h_t_nums t_items)), (h_t_book, .inl (cI, 460, .inl t_book))]) (w1 := [(h_t, .inr (8, fX10 h_t_book h_t_images h_t_kept h_t_aside h_t_far h_t_then h_t_row h_t_mays h_t_firstRow h_t_low h_t_high t_noOlder t_thanThis t_known t_knownAge t_moved h_t_lowOne h_t_highOne h_t_ways t_met h_t_left t_hours t_greatest h_t_text t_typed t_at t_start t_token t_value h_t_verbs h_t_nums t_items)), (h_t_book, .inl (cI, 460, .inl t_book))]) (wr := [(h_t_far, .inl (cI, 64, .inl y29)), (h_t_then, .inl (cI, 64, .inl y30))]) (wo := [(h_t, .inr (8, fX10 h_t_book h_t_images h_t_kept h_t_aside h_t_far h_t_then h_t_row h_t_mays h_t_firstRow h_t_low h_t_high t_noOlder t_thanThis t_known t_knownAge t_moved h_t_lowOne h_t_highOne h_t_ways t_met h_t_left t_hours t_greatest h_t_text t_typed t_at t_start t_token t_value h_t_verbs h_t_nums t_items)), (h_t_book, .inl (cI, 460, .inl t_book)), (h_t_far, .inl (cI, 64, .inl y29)), (h_t_then, .inl (cI, 64, .inl y30))]) (v := (some (.int r40))) ⟨hx, hb, hml, hown, hts⟩ (c_X10_boulderAt l dC dI cI cZ te h_t h_t_book h_t_images h_t_kept h_t_aside h_t_far h_t_then h_t_row h_t_mays h_t_firstRow h_t_low h_t_high h_t_lowOne h_t_highOne h_t_ways h_t_left h_t_text h_t_verbs h_t_nums t_noOlder t_thanThis t_known t_knownAge t_moved t_met t_hours t_greatest t_typed t_at t_start t_token t_value t_items t_book p1 (1 : Int32) r40 hg41) (cwV 2 hts (gV kw_201 kw_202 kw_203 kw_159 kw_204) rfl rfl rfl (by decide +kernel) ⟨Nat.le_of_ble_eq_true rfl, Nat.le_of_ble_eq_true rfl⟩) (kS_env te) hK hP hD hS hA hE [0, 1] [2, 3] [2, 3, 0, 1] rfl rfl (by decide) (by decide) (by decide) (by decide) rfl 0 8 rfl rfl rfl rfl hl.1 rfl (Nat.le_of_ble_eq_true rfl) dX10_fits_36 ⟨Nat.zero_le _, Nat.zero_le _⟩ (fun H locs hP hD hS => ?_)
          show W p l e rmX10_fits s m args below meth c H locs 0 0 Q (F0 m 39 ls [.int r40, .int r38, .int x31])
          refine lv_icmp_ne (tgt := 58) hx hb dX10_fits_39 (by decide) (fun c42 => ?_) (fun c42 => ?_)
          · replace hf := ifn c42 hf
            refine lv_iconst (v := (0 : Int32)) hx hb dX10_fits_58 (by decide) ?_
            refine lv_ior hx hb dX10_fits_59 ?_
            obtain ⟨x43, e44, hf⟩ := nm_some hf
            refine lv_tope e44 ?_
            refine lv_istore_n (lv' := [(2, .int x43), (0, .ref h_t), (1, .int p1), (3, .int x32)]) hx hb dX10_fits_60 rfl hl (by decide) rfl (fun ls hl => ?_)
            refine lv_iinc (v := (x32 + (1 : Int32))) (lv' := [(3, .int (x32 + (1 : Int32))), (2, .int x43), (0, .ref h_t), (1, .int p1)]) hx hb dX10_fits_61 hl (k := 3) rfl rfl (by decide) rfl (fun ls hl => ?_)
            refine lv_goto (tgt := 16) hx hb dX10_fits_64 (by decide) ?_
            exact ih33 _ _ _ _ _ _ _ hf hX35 _ _ hP hD hS _ (lv_sub hl [2, 3, 1, 0] rfl)
          · replace hf := ifp c42 hf
            refine lv_aload_n hx hb dX10_fits_42 rfl (lv_at hl 0 rfl) ?_
            refine lv_iload_n hx hb dX10_fits_43 rfl (lv_at hl 1 rfl) ?_
            refine lv_iload_n hx hb dX10_fits_44 rfl (lv_at hl 3 rfl) ?_
            obtain ⟨r45, y46, y47, hg48, hf⟩ := bd3_some hf
            refine CM_callV (C := RX10) (As := [.int p1, .int x32]) (rest := [.int x31]) (wc := [(h_t, .inr (8, fX10 h_t_book h_t_images h_t_kept h_t_aside h_t_far h_t_then h_t_row h_t_mays h_t_firstRow h_t_low h_t_high t_noOlder t_thanThis t_known t_knownAge t_moved h_t_lowOne h_t_highOne h_t_ways t_met h_t_left t_hours t_greatest h_t_text t_typed t_at t_start t_token t_value h_t_verbs h_t_nums t_items)), (h_t_book, .inl (cI, 460, .inl t_book)), (h_t_far, .inl (cI, 64, .inl y29)), (h_t_then, .inl (cI, 64, .inl y30))]) (w1 := [(h_t, .inr (8, fX10 h_t_book h_t_images h_t_kept h_t_aside h_t_far h_t_then h_t_row h_t_mays h_t_firstRow h_t_low h_t_high t_noOlder t_thanThis t_known t_knownAge t_moved h_t_lowOne h_t_highOne h_t_ways t_met h_t_left t_hours t_greatest h_t_text t_typed t_at t_start t_token t_value h_t_verbs h_t_nums t_items)), (h_t_book, .inl (cI, 460, .inl t_book)), (h_t_far, .inl (cI, 64, .inl y46)), (h_t_then, .inl (cI, 64, .inl y47))]) (wr := []) (wo := [(h_t, .inr (8, fX10 h_t_book h_t_images h_t_kept h_t_aside h_t_far h_t_then h_t_row h_t_mays h_t_firstRow h_t_low h_t_high t_noOlder t_thanThis t_known t_knownAge t_moved h_t_lowOne h_t_highOne h_t_ways t_met h_t_left t_hours t_greatest h_t_text t_typed t_at t_start t_token t_value h_t_verbs h_t_nums t_items)), (h_t_book, .inl (cI, 460, .inl t_book)), (h_t_far, .inl (cI, 64, .inl y46)), (h_t_then, .inl (cI, 64, .inl y47))]) (v := (some (.int r45))) ⟨hx, hb, hml, hown, hts⟩ (c_X10_stepsOf l dC dI cI cZ te h_t h_t_book h_t_images h_t_kept h_t_aside h_t_far h_t_then h_t_row h_t_mays h_t_firstRow h_t_low h_t_high h_t_lowOne h_t_highOne h_t_ways h_t_left h_t_text h_t_verbs h_t_nums t_noOlder t_thanThis t_known t_knownAge t_moved t_met t_hours t_greatest t_typed t_at t_start t_token t_value t_items t_book y29 y30 p1 x32 r45 y46 y47 hg48) (cwV 2 hts (gV kw_209 kw_210 kw_211 kw_159 kw_212) rfl rfl rfl (by decide +kernel) ⟨Nat.le_of_ble_eq_true rfl, Nat.le_of_ble_eq_true rfl⟩) (kS_env te) hK hP hD hS hA hE [0, 1, 2, 3] [] [0, 1, 2, 3] rfl rfl (by decide) (by decide) (by decide) (by decide) rfl 0 8 rfl rfl rfl rfl hl.1 rfl (Nat.le_of_ble_eq_true rfl) dX10_fits_45 ⟨Nat.zero_le _, Nat.zero_le _⟩ (fun H locs hP hD hS => ?_)
            show W p l e rmX10_fits s m args below meth c H locs 0 0 Q (F0 m 48 ls [.int r45, .int x31])
            refine lv_iconst (v := (-1 : Int32)) hx hb dX10_fits_48 (by decide) ?_
            refine lv_icmp_eq (tgt := 58) hx hb dX10_fits_49 (by decide) (fun c49 => ?_) (fun c49 => ?_)
            · replace hf := ifp c49 hf
              refine lv_iconst (v := (0 : Int32)) hx hb dX10_fits_58 (by decide) ?_
              refine lv_ior hx hb dX10_fits_59 ?_
              obtain ⟨x50, e51, hf⟩ := nm_some hf
              refine lv_tope e51 ?_
              refine lv_istore_n (lv' := [(2, .int x50), (0, .ref h_t), (1, .int p1), (3, .int x32)]) hx hb dX10_fits_60 rfl hl (by decide) rfl (fun ls hl => ?_)
              refine lv_iinc (v := (x32 + (1 : Int32))) (lv' := [(3, .int (x32 + (1 : Int32))), (2, .int x50), (0, .ref h_t), (1, .int p1)]) hx hb dX10_fits_61 hl (k := 3) rfl rfl (by decide) rfl (fun ls hl => ?_)
              refine lv_goto (tgt := 16) hx hb dX10_fits_64 (by decide) ?_
              exact ih33 _ _ _ _ _ _ _ hf hX35 _ _ hP hD hS _ (lv_sub hl [2, 3, 1, 0] rfl)
            · replace hf := ifn c49 hf
              refine lv_iconst (v := (1 : Int32)) hx hb dX10_fits_52 (by decide) ?_
              refine lv_iload_n hx hb dX10_fits_53 rfl (lv_at hl 3 rfl) ?_
              refine lv_ishl hx hb dX10_fits_54 ?_
              refine lv_goto (tgt := 59) hx hb dX10_fits_55 (by decide) ?_
              refine lv_ior hx hb dX10_fits_59 ?_
              obtain ⟨x52, e53, hf⟩ := nm_some hf
              refine lv_tope e53 ?_
              refine lv_istore_n (lv' := [(2, .int x52), (0, .ref h_t), (1, .int p1), (3, .int x32)]) hx hb dX10_fits_60 rfl hl (by decide) rfl (fun ls hl => ?_)
              refine lv_iinc (v := (x32 + (1 : Int32))) (lv' := [(3, .int (x32 + (1 : Int32))), (2, .int x52), (0, .ref h_t), (1, .int p1)]) hx hb dX10_fits_61 hl (k := 3) rfl rfl (by decide) rfl (fun ls hl => ?_)
              refine lv_goto (tgt := 16) hx hb dX10_fits_64 (by decide) ?_
              exact ih33 _ _ _ _ _ _ _ hf hX35 _ _ hP hD hS _ (lv_sub hl [2, 3, 1, 0] rfl)
    obtain ⟨y26, y27, x28, hg, hf⟩ := bd3_some hf
    refine L54 FU _ _ _ _ _ _ _ hg ?_ _ _ hP hD hS _ (lv_sub hl [2, 3, 1, 0] rfl)
    · intro H locs hP hD hS ls hl
      refine lv_iload_n hx hb dX10_fits_67 rfl (lv_at hl 0 rfl) ?_
      obtain ⟨rfl, rfl, rfl⟩ := inj3 hf
      subst hQ
      exact CM_iret hx hb hr rfl hlocks hAe hP hD hS dX10_fits_68
  · replace hf := ifp c3 hf
    refine lv_bipush (v := (-2 : Int32)) hx hb dX10_fits_9 (by decide) ?_
    obtain ⟨rfl, rfl, rfl⟩ := inj3 hf
    subst hQ
    exact CM_iret hx hb hr rfl hlocks hAe hP hD hS dX10_fits_11
def rmX10_steps : Room := { frames := 5, cells := 0, slots := 0, locals := 123 }
abbrev wqX10_steps : List Cond := Cond.code yX10_steps cX10_steps 3 (some .int) :: tG
set_option maxHeartbeats 4000000 in
set_option maxRecDepth 100000 in
theorem c_X10_steps (l : Launch) (dC : Nat → ClassId) (dI : Nat → Nat → Nat) (cI cZ : ClassId) (te : Nat → Nat) (h_t : Nat) (h_t_book : Nat) (h_t_images : Nat) (h_t_kept : Nat) (h_t_aside : Nat) (h_t_far : Nat) (h_t_then : Nat) (h_t_row : Nat) (h_t_mays : Nat) (h_t_firstRow : Nat) (h_t_low : Nat) (h_t_high : Nat) (h_t_lowOne : Nat) (h_t_highOne : Nat) (h_t_ways : Nat) (h_t_left : Nat) (h_t_text : Nat) (h_t_verbs : Nat) (h_t_nums : Nat) (t_noOlder : Int32) (t_thanThis : Int32) (t_known : Int32) (t_knownAge : Int32) (t_moved : Int32) (t_met : Int32) (t_hours : Int32) (t_greatest : Int32) (t_typed : Int32) (t_at : Int32) (t_start : Int32) (t_token : Int32) (t_value : Int32) (t_items : Int32) (t_book : Nat → Int32) (t_far : Nat → Int32) (t_then : Nat → Int32) (p1 : Int32) (p2 : Int32) (o0 : Int32) (o1 : Nat → Int32) (o2 : Nat → Int32) (hf : f_X10_steps t_book t_far t_then p1 p2 = some (o0, o1, o2)) : CM l yX10_steps wqX10_steps rmX10_steps (kS te) dC dI cI cZ [.ref h_t, .int p1, .int p2] [(h_t, .inr (8, fX10 h_t_book h_t_images h_t_kept h_t_aside h_t_far h_t_then h_t_row h_t_mays h_t_firstRow h_t_low h_t_high t_noOlder t_thanThis t_known t_knownAge t_moved h_t_lowOne h_t_highOne h_t_ways t_met h_t_left t_hours t_greatest h_t_text t_typed t_at t_start t_token t_value h_t_verbs h_t_nums t_items)), (h_t_book, .inl (cI, 460, .inl t_book)), (h_t_far, .inl (cI, 64, .inl t_far)), (h_t_then, .inl (cI, 64, .inl t_then))] [(h_t, .inr (8, fX10 h_t_book h_t_images h_t_kept h_t_aside h_t_far h_t_then h_t_row h_t_mays h_t_firstRow h_t_low h_t_high t_noOlder t_thanThis t_known t_knownAge t_moved h_t_lowOne h_t_highOne h_t_ways t_met h_t_left t_hours t_greatest h_t_text t_typed t_at t_start t_token t_value h_t_verbs h_t_nums t_items)), (h_t_book, .inl (cI, 460, .inl t_book)), (h_t_far, .inl (cI, 64, .inl o1)), (h_t_then, .inl (cI, 64, .inl o2))] (some (.int o0)) := by
  refine CM_of (cc := cX10_steps) (maxL := 3) (ret := (some .int)) (by decide +kernel) rfl (Nat.le_of_ble_eq_true rfl) ?_
  intro p e s m args below meth c A Q hx hb hr hml hown hts hlocks hA hK hP hD hS hE hQ hAe ls hl
  have hown : s.vm.findClass RX10 = some m.cls := hown
  have hl : lv_has ls 3 [(0, .ref h_t), (1, .int p1), (2, .int p2)] := hl
  unfold f_X10_steps at hf
  refine lv_aload_n hx hb dX10_steps_0 rfl (lv_at hl 0 rfl) ?_
  refine lv_iconst (v := (1 : Int32)) hx hb dX10_steps_1 (by decide) ?_
  refine lv_iload_n hx hb dX10_steps_2 rfl (lv_at hl 1 rfl) ?_
  obtain ⟨r1, hg2, hf⟩ := bd1_some hf
  refine CM_callV (C := RX10) (As := [.int (1 : Int32), .int p1]) (rest := []) (wc := [(h_t, .inr (8, fX10 h_t_book h_t_images h_t_kept h_t_aside h_t_far h_t_then h_t_row h_t_mays h_t_firstRow h_t_low h_t_high t_noOlder t_thanThis t_known t_knownAge t_moved h_t_lowOne h_t_highOne h_t_ways t_met h_t_left t_hours t_greatest h_t_text t_typed t_at t_start t_token t_value h_t_verbs h_t_nums t_items)), (h_t_book, .inl (cI, 460, .inl t_book))]) (w1 := [(h_t, .inr (8, fX10 h_t_book h_t_images h_t_kept h_t_aside h_t_far h_t_then h_t_row h_t_mays h_t_firstRow h_t_low h_t_high t_noOlder t_thanThis t_known t_knownAge t_moved h_t_lowOne h_t_highOne h_t_ways t_met h_t_left t_hours t_greatest h_t_text t_typed t_at t_start t_token t_value h_t_verbs h_t_nums t_items)), (h_t_book, .inl (cI, 460, .inl t_book))]) (wr := [(h_t_far, .inl (cI, 64, .inl t_far)), (h_t_then, .inl (cI, 64, .inl t_then))]) (wo := [(h_t, .inr (8, fX10 h_t_book h_t_images h_t_kept h_t_aside h_t_far h_t_then h_t_row h_t_mays h_t_firstRow h_t_low h_t_high t_noOlder t_thanThis t_known t_knownAge t_moved h_t_lowOne h_t_highOne h_t_ways t_met h_t_left t_hours t_greatest h_t_text t_typed t_at t_start t_token t_value h_t_verbs h_t_nums t_items)), (h_t_book, .inl (cI, 460, .inl t_book)), (h_t_far, .inl (cI, 64, .inl t_far)), (h_t_then, .inl (cI, 64, .inl t_then))]) (v := (some (.int r1))) ⟨hx, hb, hml, hown, hts⟩ (c_X10_is l dC dI cI cZ te h_t h_t_book h_t_images h_t_kept h_t_aside h_t_far h_t_then h_t_row h_t_mays h_t_firstRow h_t_low h_t_high h_t_lowOne h_t_highOne h_t_ways h_t_left h_t_text h_t_verbs h_t_nums t_noOlder t_thanThis t_known t_knownAge t_moved t_met t_hours t_greatest t_typed t_at t_start t_token t_value t_items t_book (1 : Int32) p1 r1 hg2) (cwV 2 hts (gV kw_205 kw_206 kw_207 kw_159 kw_208) rfl rfl rfl (by decide +kernel) ⟨Nat.le_of_ble_eq_true rfl, Nat.le_of_ble_eq_true rfl⟩) (kS_env te) hK hP hD hS hA hE [0, 1] [2, 3] [2, 3, 0, 1] rfl rfl (by decide) (by decide) (by decide) (by decide) rfl 0 8 rfl rfl rfl rfl hl.1 rfl (Nat.le_of_ble_eq_true rfl) dX10_steps_3 ⟨Nat.zero_le _, Nat.zero_le _⟩ (fun H locs hP hD hS => ?_)
  show W p l e rmX10_steps s m args below meth c H locs 0 0 Q (F0 m 6 ls [.int r1])
  refine lv_if_eq (tgt := 27) hx hb dX10_steps_6 (by decide) (fun c3 => ?_) (fun c3 => ?_)
  · replace hf := ifp c3 hf
    refine lv_bipush (v := (-2 : Int32)) hx hb dX10_steps_27 (by decide) ?_
    obtain ⟨rfl, rfl, rfl⟩ := inj3 hf
    subst hQ
    exact CM_iret hx hb hr rfl hlocks hAe hP hD hS dX10_steps_29
  · replace hf := ifn c3 hf
    refine lv_aload_n hx hb dX10_steps_9 rfl (lv_at hl 0 rfl) ?_
    refine lv_iconst (v := (0 : Int32)) hx hb dX10_steps_10 (by decide) ?_
    refine lv_iload_n hx hb dX10_steps_11 rfl (lv_at hl 2 rfl) ?_
    obtain ⟨r4, hg5, hf⟩ := bd1_some hf
    refine CM_callV (C := RX10) (As := [.int (0 : Int32), .int p2]) (rest := []) (wc := [(h_t, .inr (8, fX10 h_t_book h_t_images h_t_kept h_t_aside h_t_far h_t_then h_t_row h_t_mays h_t_firstRow h_t_low h_t_high t_noOlder t_thanThis t_known t_knownAge t_moved h_t_lowOne h_t_highOne h_t_ways t_met h_t_left t_hours t_greatest h_t_text t_typed t_at t_start t_token t_value h_t_verbs h_t_nums t_items)), (h_t_book, .inl (cI, 460, .inl t_book))]) (w1 := [(h_t, .inr (8, fX10 h_t_book h_t_images h_t_kept h_t_aside h_t_far h_t_then h_t_row h_t_mays h_t_firstRow h_t_low h_t_high t_noOlder t_thanThis t_known t_knownAge t_moved h_t_lowOne h_t_highOne h_t_ways t_met h_t_left t_hours t_greatest h_t_text t_typed t_at t_start t_token t_value h_t_verbs h_t_nums t_items)), (h_t_book, .inl (cI, 460, .inl t_book))]) (wr := [(h_t_far, .inl (cI, 64, .inl t_far)), (h_t_then, .inl (cI, 64, .inl t_then))]) (wo := [(h_t, .inr (8, fX10 h_t_book h_t_images h_t_kept h_t_aside h_t_far h_t_then h_t_row h_t_mays h_t_firstRow h_t_low h_t_high t_noOlder t_thanThis t_known t_knownAge t_moved h_t_lowOne h_t_highOne h_t_ways t_met h_t_left t_hours t_greatest h_t_text t_typed t_at t_start t_token t_value h_t_verbs h_t_nums t_items)), (h_t_book, .inl (cI, 460, .inl t_book)), (h_t_far, .inl (cI, 64, .inl t_far)), (h_t_then, .inl (cI, 64, .inl t_then))]) (v := (some (.int r4))) ⟨hx, hb, hml, hown, hts⟩ (c_X10_is l dC dI cI cZ te h_t h_t_book h_t_images h_t_kept h_t_aside h_t_far h_t_then h_t_row h_t_mays h_t_firstRow h_t_low h_t_high h_t_lowOne h_t_highOne h_t_ways h_t_left h_t_text h_t_verbs h_t_nums t_noOlder t_thanThis t_known t_knownAge t_moved t_met t_hours t_greatest t_typed t_at t_start t_token t_value t_items t_book (0 : Int32) p2 r4 hg5) (cwV 2 hts (gV kw_205 kw_206 kw_207 kw_159 kw_208) rfl rfl rfl (by decide +kernel) ⟨Nat.le_of_ble_eq_true rfl, Nat.le_of_ble_eq_true rfl⟩) (kS_env te) hK hP hD hS hA hE [0, 1] [2, 3] [2, 3, 0, 1] rfl rfl (by decide) (by decide) (by decide) (by decide) rfl 0 8 rfl rfl rfl rfl hl.1 rfl (Nat.le_of_ble_eq_true rfl) dX10_steps_12 ⟨Nat.zero_le _, Nat.zero_le _⟩ (fun H locs hP hD hS => ?_)
    show W p l e rmX10_steps s m args below meth c H locs 0 0 Q (F0 m 15 ls [.int r4])
    refine lv_if_eq (tgt := 27) hx hb dX10_steps_15 (by decide) (fun c6 => ?_) (fun c6 => ?_)
    · replace hf := ifp c6 hf
      refine lv_bipush (v := (-2 : Int32)) hx hb dX10_steps_27 (by decide) ?_
      obtain ⟨rfl, rfl, rfl⟩ := inj3 hf
      subst hQ
      exact CM_iret hx hb hr rfl hlocks hAe hP hD hS dX10_steps_29
    · replace hf := ifn c6 hf
      refine lv_aload_n hx hb dX10_steps_18 rfl (lv_at hl 0 rfl) ?_
      refine lv_iload_n hx hb dX10_steps_19 rfl (lv_at hl 1 rfl) ?_
      refine lv_iload_n hx hb dX10_steps_20 rfl (lv_at hl 2 rfl) ?_
      obtain ⟨r7, y8, y9, hg10, hf⟩ := bd3_some hf
      refine CM_callV (C := RX10) (As := [.int p1, .int p2]) (rest := []) (wc := [(h_t, .inr (8, fX10 h_t_book h_t_images h_t_kept h_t_aside h_t_far h_t_then h_t_row h_t_mays h_t_firstRow h_t_low h_t_high t_noOlder t_thanThis t_known t_knownAge t_moved h_t_lowOne h_t_highOne h_t_ways t_met h_t_left t_hours t_greatest h_t_text t_typed t_at t_start t_token t_value h_t_verbs h_t_nums t_items)), (h_t_book, .inl (cI, 460, .inl t_book)), (h_t_far, .inl (cI, 64, .inl t_far)), (h_t_then, .inl (cI, 64, .inl t_then))]) (w1 := [(h_t, .inr (8, fX10 h_t_book h_t_images h_t_kept h_t_aside h_t_far h_t_then h_t_row h_t_mays h_t_firstRow h_t_low h_t_high t_noOlder t_thanThis t_known t_knownAge t_moved h_t_lowOne h_t_highOne h_t_ways t_met h_t_left t_hours t_greatest h_t_text t_typed t_at t_start t_token t_value h_t_verbs h_t_nums t_items)), (h_t_book, .inl (cI, 460, .inl t_book)), (h_t_far, .inl (cI, 64, .inl y8)), (h_t_then, .inl (cI, 64, .inl y9))]) (wr := []) (wo := [(h_t, .inr (8, fX10 h_t_book h_t_images h_t_kept h_t_aside h_t_far h_t_then h_t_row h_t_mays h_t_firstRow h_t_low h_t_high t_noOlder t_thanThis t_known t_knownAge t_moved h_t_lowOne h_t_highOne h_t_ways t_met h_t_left t_hours t_greatest h_t_text t_typed t_at t_start t_token t_value h_t_verbs h_t_nums t_items)), (h_t_book, .inl (cI, 460, .inl t_book)), (h_t_far, .inl (cI, 64, .inl y8)), (h_t_then, .inl (cI, 64, .inl y9))]) (v := (some (.int r7))) ⟨hx, hb, hml, hown, hts⟩ (c_X10_stepsOf l dC dI cI cZ te h_t h_t_book h_t_images h_t_kept h_t_aside h_t_far h_t_then h_t_row h_t_mays h_t_firstRow h_t_low h_t_high h_t_lowOne h_t_highOne h_t_ways h_t_left h_t_text h_t_verbs h_t_nums t_noOlder t_thanThis t_known t_knownAge t_moved t_met t_hours t_greatest t_typed t_at t_start t_token t_value t_items t_book t_far t_then p1 p2 r7 y8 y9 hg10) (cwV 2 hts (gV kw_209 kw_210 kw_211 kw_159 kw_212) rfl rfl rfl (by decide +kernel) ⟨Nat.le_of_ble_eq_true rfl, Nat.le_of_ble_eq_true rfl⟩) (kS_env te) hK hP hD hS hA hE [0, 1, 2, 3] [] [0, 1, 2, 3] rfl rfl (by decide) (by decide) (by decide) (by decide) rfl 0 8 rfl rfl rfl rfl hl.1 rfl (Nat.le_of_ble_eq_true rfl) dX10_steps_21 ⟨Nat.zero_le _, Nat.zero_le _⟩ (fun H locs hP hD hS => ?_)
      show W p l e rmX10_steps s m args below meth c H locs 0 0 Q (F0 m 24 ls [.int r7])
      refine lv_goto (tgt := 29) hx hb dX10_steps_24 (by decide) ?_
      obtain ⟨rfl, rfl, rfl⟩ := inj3 hf
      subst hQ
      exact CM_iret hx hb hr rfl hlocks hAe hP hD hS dX10_steps_29
def rmX10_home : Room := { frames := 5, cells := 0, slots := 0, locals := 123 }
abbrev wqX10_home : List Cond := Cond.code yX10_home cX10_home 6 (some .int) :: tG
set_option maxHeartbeats 4000000 in
set_option maxRecDepth 100000 in
theorem c_X10_home (l : Launch) (dC : Nat → ClassId) (dI : Nat → Nat → Nat) (cI cZ : ClassId) (te : Nat → Nat) (h_t : Nat) (h_t_book : Nat) (h_t_images : Nat) (h_t_kept : Nat) (h_t_aside : Nat) (h_t_far : Nat) (h_t_then : Nat) (h_t_row : Nat) (h_t_mays : Nat) (h_t_firstRow : Nat) (h_t_low : Nat) (h_t_high : Nat) (h_t_lowOne : Nat) (h_t_highOne : Nat) (h_t_ways : Nat) (h_t_left : Nat) (h_t_text : Nat) (h_t_verbs : Nat) (h_t_nums : Nat) (t_noOlder : Int32) (t_thanThis : Int32) (t_known : Int32) (t_knownAge : Int32) (t_moved : Int32) (t_met : Int32) (t_hours : Int32) (t_greatest : Int32) (t_typed : Int32) (t_at : Int32) (t_start : Int32) (t_token : Int32) (t_value : Int32) (t_items : Int32) (t_book : Nat → Int32) (t_far : Nat → Int32) (t_then : Nat → Int32) (p1 : Int32) (o0 : Int32) (o1 : Nat → Int32) (o2 : Nat → Int32) (hf : f_X10_home t_book t_far t_then p1 = some (o0, o1, o2)) : CM l yX10_home wqX10_home rmX10_home (kS te) dC dI cI cZ [.ref h_t, .int p1] [(h_t, .inr (8, fX10 h_t_book h_t_images h_t_kept h_t_aside h_t_far h_t_then h_t_row h_t_mays h_t_firstRow h_t_low h_t_high t_noOlder t_thanThis t_known t_knownAge t_moved h_t_lowOne h_t_highOne h_t_ways t_met h_t_left t_hours t_greatest h_t_text t_typed t_at t_start t_token t_value h_t_verbs h_t_nums t_items)), (h_t_book, .inl (cI, 460, .inl t_book)), (h_t_far, .inl (cI, 64, .inl t_far)), (h_t_then, .inl (cI, 64, .inl t_then))] [(h_t, .inr (8, fX10 h_t_book h_t_images h_t_kept h_t_aside h_t_far h_t_then h_t_row h_t_mays h_t_firstRow h_t_low h_t_high t_noOlder t_thanThis t_known t_knownAge t_moved h_t_lowOne h_t_highOne h_t_ways t_met h_t_left t_hours t_greatest h_t_text t_typed t_at t_start t_token t_value h_t_verbs h_t_nums t_items)), (h_t_book, .inl (cI, 460, .inl t_book)), (h_t_far, .inl (cI, 64, .inl o1)), (h_t_then, .inl (cI, 64, .inl o2))] (some (.int o0)) := by
  refine CM_of (cc := cX10_home) (maxL := 6) (ret := (some .int)) (by decide +kernel) rfl (Nat.le_of_ble_eq_true rfl) ?_
  intro p e s m args below meth c A Q hx hb hr hml hown hts hlocks hA hK hP hD hS hE hQ hAe ls hl
  have hown : s.vm.findClass RX10 = some m.cls := hown
  have hl : lv_has ls 6 [(0, .ref h_t), (1, .int p1)] := hl
  unfold f_X10_home at hf
  refine lv_aload_n hx hb dX10_home_0 rfl (lv_at hl 0 rfl) ?_
  refine lv_iconst (v := (1 : Int32)) hx hb dX10_home_1 (by decide) ?_
  refine lv_iload_n hx hb dX10_home_2 rfl (lv_at hl 1 rfl) ?_
  obtain ⟨r1, hg2, hf⟩ := bd1_some hf
  refine CM_callV (C := RX10) (As := [.int (1 : Int32), .int p1]) (rest := []) (wc := [(h_t, .inr (8, fX10 h_t_book h_t_images h_t_kept h_t_aside h_t_far h_t_then h_t_row h_t_mays h_t_firstRow h_t_low h_t_high t_noOlder t_thanThis t_known t_knownAge t_moved h_t_lowOne h_t_highOne h_t_ways t_met h_t_left t_hours t_greatest h_t_text t_typed t_at t_start t_token t_value h_t_verbs h_t_nums t_items)), (h_t_book, .inl (cI, 460, .inl t_book))]) (w1 := [(h_t, .inr (8, fX10 h_t_book h_t_images h_t_kept h_t_aside h_t_far h_t_then h_t_row h_t_mays h_t_firstRow h_t_low h_t_high t_noOlder t_thanThis t_known t_knownAge t_moved h_t_lowOne h_t_highOne h_t_ways t_met h_t_left t_hours t_greatest h_t_text t_typed t_at t_start t_token t_value h_t_verbs h_t_nums t_items)), (h_t_book, .inl (cI, 460, .inl t_book))]) (wr := [(h_t_far, .inl (cI, 64, .inl t_far)), (h_t_then, .inl (cI, 64, .inl t_then))]) (wo := [(h_t, .inr (8, fX10 h_t_book h_t_images h_t_kept h_t_aside h_t_far h_t_then h_t_row h_t_mays h_t_firstRow h_t_low h_t_high t_noOlder t_thanThis t_known t_knownAge t_moved h_t_lowOne h_t_highOne h_t_ways t_met h_t_left t_hours t_greatest h_t_text t_typed t_at t_start t_token t_value h_t_verbs h_t_nums t_items)), (h_t_book, .inl (cI, 460, .inl t_book)), (h_t_far, .inl (cI, 64, .inl t_far)), (h_t_then, .inl (cI, 64, .inl t_then))]) (v := (some (.int r1))) ⟨hx, hb, hml, hown, hts⟩ (c_X10_is l dC dI cI cZ te h_t h_t_book h_t_images h_t_kept h_t_aside h_t_far h_t_then h_t_row h_t_mays h_t_firstRow h_t_low h_t_high h_t_lowOne h_t_highOne h_t_ways h_t_left h_t_text h_t_verbs h_t_nums t_noOlder t_thanThis t_known t_knownAge t_moved t_met t_hours t_greatest t_typed t_at t_start t_token t_value t_items t_book (1 : Int32) p1 r1 hg2) (cwV 2 hts (gV kw_205 kw_206 kw_207 kw_159 kw_208) rfl rfl rfl (by decide +kernel) ⟨Nat.le_of_ble_eq_true rfl, Nat.le_of_ble_eq_true rfl⟩) (kS_env te) hK hP hD hS hA hE [0, 1] [2, 3] [2, 3, 0, 1] rfl rfl (by decide) (by decide) (by decide) (by decide) rfl 0 8 rfl rfl rfl rfl hl.1 rfl (Nat.le_of_ble_eq_true rfl) dX10_home_3 ⟨Nat.zero_le _, Nat.zero_le _⟩ (fun H locs hP hD hS => ?_)
  show W p l e rmX10_home s m args below meth c H locs 0 0 Q (F0 m 6 ls [.int r1])
  refine lv_if_ne (tgt := 12) hx hb dX10_home_6 (by decide) (fun c3 => ?_) (fun c3 => ?_)
  · replace hf := ifn c3 hf
    refine lv_iconst (v := (-1 : Int32)) hx hb dX10_home_12 (by decide) ?_
    refine lv_istore_n (lv' := [(2, .int (-1 : Int32)), (0, .ref h_t), (1, .int p1)]) hx hb dX10_home_13 rfl hl (by decide) rfl (fun ls hl => ?_)
    refine lv_ldc (v := (1000000 : Int32)) hx hb hown (hts _ (List.mem_cons_of_mem _ kw_192)) dX10_home_14 ?_
    refine lv_istore_n (lv' := [(3, .int (1000000 : Int32)), (2, .int (-1 : Int32)), (0, .ref h_t), (1, .int p1)]) hx hb dX10_home_16 rfl hl (by decide) rfl (fun ls hl => ?_)
    refine lv_iconst (v := (0 : Int32)) hx hb dX10_home_17 (by decide) ?_
    refine lv_istore (lv' := [(4, .int (0 : Int32)), (3, .int (1000000 : Int32)), (2, .int (-1 : Int32)), (0, .ref h_t), (1, .int p1)]) hx hb dX10_home_18 hl (by decide) rfl (fun ls hl => ?_)
    have L54 : ∀ (fu35 : Nat) (y29 : Nat → Int32) (y30 : Nat → Int32) (x31 : Int32) (x32 : Int32) (x33 : Int32) (y26 : Nat → Int32) (y27 : Nat → Int32) (x28 : Int32), f_X10_home_L1 t_book p1 fu35 y29 y30 x31 x32 x33 = some (y26, y27, x28) → (∀ (H : Heap) (locs : List Loc), va_P (dC, dI) vwCl [(h_t, .inr (8, fX10 h_t_book h_t_images h_t_kept h_t_aside h_t_far h_t_then h_t_row h_t_mays h_t_firstRow h_t_low h_t_high t_noOlder t_thanThis t_known t_knownAge t_moved h_t_lowOne h_t_highOne h_t_ways t_met h_t_left t_hours t_greatest h_t_text t_typed t_at t_start t_token t_value h_t_verbs h_t_nums t_items)), (h_t_book, .inl (cI, 460, .inl t_book)), (h_t_far, .inl (cI, 64, .inl y26)), (h_t_then, .inl (cI, 64, .inl y27))] H → va_D A [(h_t, .inr (8, fX10 h_t_book h_t_images h_t_kept h_t_aside h_t_far h_t_then h_t_row h_t_mays h_t_firstRow h_t_low h_t_high t_noOlder t_thanThis t_known t_knownAge t_moved h_t_lowOne h_t_highOne h_t_ways t_met h_t_left t_hours t_greatest h_t_text t_typed t_at t_start t_token t_value h_t_verbs h_t_nums t_items)), (h_t_book, .inl (cI, 460, .inl t_book)), (h_t_far, .inl (cI, 64, .inl y26)), (h_t_then, .inl (cI, 64, .inl y27))] → va_S A s.heap H locs → ∀ ls : Array Slot, lv_has ls 6 [(2, .int x28)] → W p l e rmX10_home s m args below meth c H locs 0 0 Q (F0 m 84 ls [])) → ∀ (H : Heap) (locs : List Loc), va_P (dC, dI) vwCl [(h_t, .inr (8, fX10 h_t_book h_t_images h_t_kept h_t_aside h_t_far h_t_then h_t_row h_t_mays h_t_firstRow h_t_low h_t_high t_noOlder t_thanThis t_known t_knownAge t_moved h_t_lowOne h_t_highOne h_t_ways t_met h_t_left t_hours t_greatest h_t_text t_typed t_at t_start t_token t_value h_t_verbs h_t_nums t_items)), (h_t_book, .inl (cI, 460, .inl t_book)), (h_t_far, .inl (cI, 64, .inl y29)), (h_t_then, .inl (cI, 64, .inl y30))] H → va_D A [(h_t, .inr (8, fX10 h_t_book h_t_images h_t_kept h_t_aside h_t_far h_t_then h_t_row h_t_mays h_t_firstRow h_t_low h_t_high t_noOlder t_thanThis t_known t_knownAge t_moved h_t_lowOne h_t_highOne h_t_ways t_met h_t_left t_hours t_greatest h_t_text t_typed t_at t_start t_token t_value h_t_verbs h_t_nums t_items)), (h_t_book, .inl (cI, 460, .inl t_book)), (h_t_far, .inl (cI, 64, .inl y29)), (h_t_then, .inl (cI, 64, .inl y30))] → va_S A s.heap H locs → ∀ ls : Array Slot, lv_has ls 6 [(0, .ref h_t), (1, .int p1), (2, .int x31), (3, .int x32), (4, .int x33)] → W p l e rmX10_home s m args below meth c H locs 0 0 Q (F0 m 20 ls []) := by
      intro fu35
      induction fu35 with
      | zero =>
        intro y29 y30 x31 x32 x33 y26 y27 x28 hf
        unfold f_X10_home_L1 at hf
        exact none_ne hf
      | succ fu35 ih34 =>
        intro y29 y30 x31 x32 x33 y26 y27 x28 hf hX36 H locs hP hD hS ls hl
        unfold f_X10_home_L1 at hf
        refine lv_iload hx hb dX10_home_20 (lv_at hl 4 rfl) ?_
        refine lv_aload_n hx hb dX10_home_22 rfl (lv_at hl 0 rfl) ?_
        refine va_get (D := (dC, dI)) (ci := 8) (v := .ref h_t_book) (C := RX10) (T := TX10) (N := 32) hx hb hts (in1 tw_X10) hown hK hP 0 rfl rfl 0 (by decide) (hts _ (List.mem_cons_of_mem _ kw_116)) (fun _ h9 => h9) rfl dX10_home_23 ?_
        refine lv_iconst (v := (0 : Int32)) hx hb dX10_home_26 (by decide) ?_
        obtain ⟨g37, hf⟩ := chk_some hf
        refine va_iald hx hb hK hP 1 0 rfl rfl (gin_in g37) dX10_home_27 ?_
        refine lv_icmp_ge (tgt := 84) hx hb dX10_home_28 (by decide) (fun c38 => ?_) (fun c38 => ?_)
        · replace hf := ifp c38 hf
          obtain ⟨rfl, rfl, rfl⟩ := inj3 hf
          exact hX36 _ _ hP hD hS _ (lv_sub hl [2] rfl)
        · replace hf := ifn c38 hf
          refine lv_aload_n hx hb dX10_home_31 rfl (lv_at hl 0 rfl) ?_
          refine lv_iload hx hb dX10_home_32 (lv_at hl 4 rfl) ?_
          refine lv_iconst (v := (1 : Int32)) hx hb dX10_home_34 (by decide) ?_
          obtain ⟨r39, hg40, hf⟩ := bd1_some hf
          refine CM_callV (C := RX10) (As := [.int x33, .int (1 : Int32)]) (rest := []) (wc := [(h_t, .inr (8, fX10 h_t_book h_t_images h_t_kept h_t_aside h_t_far h_t_then h_t_row h_t_mays h_t_firstRow h_t_low h_t_high t_noOlder t_thanThis t_known t_knownAge t_moved h_t_lowOne h_t_highOne h_t_ways t_met h_t_left t_hours t_greatest h_t_text t_typed t_at t_start t_token t_value h_t_verbs h_t_nums t_items)), (h_t_book, .inl (cI, 460, .inl t_book))]) (w1 := [(h_t, .inr (8, fX10 h_t_book h_t_images h_t_kept h_t_aside h_t_far h_t_then h_t_row h_t_mays h_t_firstRow h_t_low h_t_high t_noOlder t_thanThis t_known t_knownAge t_moved h_t_lowOne h_t_highOne h_t_ways t_met h_t_left t_hours t_greatest h_t_text t_typed t_at t_start t_token t_value h_t_verbs h_t_nums t_items)), (h_t_book, .inl (cI, 460, .inl t_book))]) (wr := [(h_t_far, .inl (cI, 64, .inl y29)), (h_t_then, .inl (cI, 64, .inl y30))]) (wo := [(h_t, .inr (8, fX10 h_t_book h_t_images h_t_kept h_t_aside h_t_far h_t_then h_t_row h_t_mays h_t_firstRow h_t_low h_t_high t_noOlder t_thanThis t_known t_knownAge t_moved h_t_lowOne h_t_highOne h_t_ways t_met h_t_left t_hours t_greatest h_t_text t_typed t_at t_start t_token t_value h_t_verbs h_t_nums t_items)), (h_t_book, .inl (cI, 460, .inl t_book)), (h_t_far, .inl (cI, 64, .inl y29)), (h_t_then, .inl (cI, 64, .inl y30))]) (v := (some (.int r39))) ⟨hx, hb, hml, hown, hts⟩ (c_X10_cliffAt l dC dI cI cZ te h_t h_t_book h_t_images h_t_kept h_t_aside h_t_far h_t_then h_t_row h_t_mays h_t_firstRow h_t_low h_t_high h_t_lowOne h_t_highOne h_t_ways h_t_left h_t_text h_t_verbs h_t_nums t_noOlder t_thanThis t_known t_knownAge t_moved t_met t_hours t_greatest t_typed t_at t_start t_token t_value t_items t_book x33 (1 : Int32) r39 hg40) (cwV 2 hts (gV kw_193 kw_194 kw_195 kw_159 kw_196) rfl rfl rfl (by decide +kernel) ⟨Nat.le_of_ble_eq_true rfl, Nat.le_of_ble_eq_true rfl⟩) (kS_env te) hK hP hD hS hA hE [0, 1] [2, 3] [2, 3, 0, 1] rfl rfl (by decide) (by decide) (by decide) (by decide) rfl 0 8 rfl rfl rfl rfl hl.1 rfl (Nat.le_of_ble_eq_true rfl) dX10_home_35 ⟨Nat.zero_le _, Nat.zero_le _⟩ (fun H locs hP hD hS => ?_)
          show W p l e rmX10_home s m args below meth c H locs 0 0 Q (F0 m 38 ls [.int r39])
          refine lv_aload_n hx hb dX10_home_38 rfl (lv_at hl 0 rfl) ?_
          refine lv_iload_n hx hb dX10_home_39 rfl (lv_at hl 1 rfl) ?_
          refine lv_iconst (v := (1 : Int32)) hx hb dX10_home_40 (by decide) ?_
          obtain ⟨r41, hg42, hf⟩ := bd1_some hf
          refine CM_callV (C := RX10) (As := [.int p1, .int (1 : Int32)]) (rest := [.int r39]) (wc := [(h_t, .inr (8, fX10 h_t_book h_t_images h_t_kept h_t_aside h_t_far h_t_then h_t_row h_t_mays h_t_firstRow h_t_low h_t_high t_noOlder t_thanThis t_known t_knownAge t_moved h_t_lowOne h_t_highOne h_t_ways t_met h_t_left t_hours t_greatest h_t_text t_typed t_at t_start t_token t_value h_t_verbs h_t_nums t_items)), (h_t_book, .inl (cI, 460, .inl t_book))]) (w1 := [(h_t, .inr (8, fX10 h_t_book h_t_images h_t_kept h_t_aside h_t_far h_t_then h_t_row h_t_mays h_t_firstRow h_t_low h_t_high t_noOlder t_thanThis t_known t_knownAge t_moved h_t_lowOne h_t_highOne h_t_ways t_met h_t_left t_hours t_greatest h_t_text t_typed t_at t_start t_token t_value h_t_verbs h_t_nums t_items)), (h_t_book, .inl (cI, 460, .inl t_book))]) (wr := [(h_t_far, .inl (cI, 64, .inl y29)), (h_t_then, .inl (cI, 64, .inl y30))]) (wo := [(h_t, .inr (8, fX10 h_t_book h_t_images h_t_kept h_t_aside h_t_far h_t_then h_t_row h_t_mays h_t_firstRow h_t_low h_t_high t_noOlder t_thanThis t_known t_knownAge t_moved h_t_lowOne h_t_highOne h_t_ways t_met h_t_left t_hours t_greatest h_t_text t_typed t_at t_start t_token t_value h_t_verbs h_t_nums t_items)), (h_t_book, .inl (cI, 460, .inl t_book)), (h_t_far, .inl (cI, 64, .inl y29)), (h_t_then, .inl (cI, 64, .inl y30))]) (v := (some (.int r41))) ⟨hx, hb, hml, hown, hts⟩ (c_X10_boulderAt l dC dI cI cZ te h_t h_t_book h_t_images h_t_kept h_t_aside h_t_far h_t_then h_t_row h_t_mays h_t_firstRow h_t_low h_t_high h_t_lowOne h_t_highOne h_t_ways h_t_left h_t_text h_t_verbs h_t_nums t_noOlder t_thanThis t_known t_knownAge t_moved t_met t_hours t_greatest t_typed t_at t_start t_token t_value t_items t_book p1 (1 : Int32) r41 hg42) (cwV 2 hts (gV kw_201 kw_202 kw_203 kw_159 kw_204) rfl rfl rfl (by decide +kernel) ⟨Nat.le_of_ble_eq_true rfl, Nat.le_of_ble_eq_true rfl⟩) (kS_env te) hK hP hD hS hA hE [0, 1] [2, 3] [2, 3, 0, 1] rfl rfl (by decide) (by decide) (by decide) (by decide) rfl 0 8 rfl rfl rfl rfl hl.1 rfl (Nat.le_of_ble_eq_true rfl) dX10_home_41 ⟨Nat.zero_le _, Nat.zero_le _⟩ (fun H locs hP hD hS => ?_)
          show W p l e rmX10_home s m args below meth c H locs 0 0 Q (F0 m 44 ls [.int r41, .int r39])
          obtain ⟨y43, y44, x45, hg, hf⟩ := bd3_some hf
          have J46 : ∀ (H : Heap) (locs : List Loc), va_P (dC, dI) vwCl [(h_t, .inr (8, fX10 h_t_book h_t_images h_t_kept h_t_aside h_t_far h_t_then h_t_row h_t_mays h_t_firstRow h_t_low h_t_high t_noOlder t_thanThis t_known t_knownAge t_moved h_t_lowOne h_t_highOne h_t_ways t_met h_t_left t_hours t_greatest h_t_text t_typed t_at t_start t_token t_value h_t_verbs h_t_nums t_items)), (h_t_book, .inl (cI, 460, .inl t_book)), (h_t_far, .inl (cI, 64, .inl y43)), (h_t_then, .inl (cI, 64, .inl y44))] H → va_D A [(h_t, .inr (8, fX10 h_t_book h_t_images h_t_kept h_t_aside h_t_far h_t_then h_t_row h_t_mays h_t_firstRow h_t_low h_t_high t_noOlder t_thanThis t_known t_knownAge t_moved h_t_lowOne h_t_highOne h_t_ways t_met h_t_left t_hours t_greatest h_t_text t_typed t_at t_start t_token t_value h_t_verbs h_t_nums t_items)), (h_t_book, .inl (cI, 460, .inl t_book)), (h_t_far, .inl (cI, 64, .inl y43)), (h_t_then, .inl (cI, 64, .inl y44))] → va_S A s.heap H locs → ∀ ls : Array Slot, lv_has ls 6 [(0, .ref h_t), (1, .int p1), (2, .int x31), (3, .int x32), (4, .int x33)] → W p l e rmX10_home s m args below meth c H locs 0 0 Q (F0 m 58 ls [.int x45]) := by
            intro H locs hP hD hS ls hl
            refine lv_istore (lv' := [(5, .int x45), (0, .ref h_t), (1, .int p1), (2, .int x31), (3, .int x32), (4, .int x33)]) hx hb dX10_home_58 hl (by decide) rfl (fun ls hl => ?_)
            refine lv_iload hx hb dX10_home_60 (lv_at hl 0 rfl) ?_
            refine lv_iconst (v := (-1 : Int32)) hx hb dX10_home_62 (by decide) ?_
            refine lv_icmp_eq (tgt := 78) hx hb dX10_home_63 (by decide) (fun c47 => ?_) (fun c47 => ?_)
            · replace hf := ifp c47 hf
              refine lv_iinc (v := (x33 + (1 : Int32))) (lv' := [(4, .int (x33 + (1 : Int32))), (5, .int x45), (0, .ref h_t), (1, .int p1), (2, .int x31), (3, .int x32)]) hx hb dX10_home_78 hl (k := 5) rfl rfl (by decide) rfl (fun ls hl => ?_)
              refine lv_goto (tgt := 20) hx hb dX10_home_81 (by decide) ?_
              exact ih34 _ _ _ _ _ _ _ _ hf hX36 _ _ hP hD hS _ (lv_sub hl [2, 3, 4, 5, 0] rfl)
            · replace hf := ifn c47 hf
              refine lv_iload hx hb dX10_home_66 (lv_at hl 0 rfl) ?_
              refine lv_iload_n hx hb dX10_home_68 rfl (lv_at hl 4 rfl) ?_
              refine lv_icmp_ge (tgt := 78) hx hb dX10_home_69 (by decide) (fun c48 => ?_) (fun c48 => ?_)
              · replace hf := ifp c48 hf
                refine lv_iinc (v := (x33 + (1 : Int32))) (lv' := [(4, .int (x33 + (1 : Int32))), (5, .int x45), (0, .ref h_t), (1, .int p1), (2, .int x31), (3, .int x32)]) hx hb dX10_home_78 hl (k := 5) rfl rfl (by decide) rfl (fun ls hl => ?_)
                refine lv_goto (tgt := 20) hx hb dX10_home_81 (by decide) ?_
                exact ih34 _ _ _ _ _ _ _ _ hf hX36 _ _ hP hD hS _ (lv_sub hl [2, 3, 4, 5, 0] rfl)
              · replace hf := ifn c48 hf
                refine lv_iload hx hb dX10_home_72 (lv_at hl 5 rfl) ?_
                refine lv_istore_n (lv' := [(2, .int x33), (5, .int x45), (0, .ref h_t), (1, .int p1), (3, .int x32), (4, .int x33)]) hx hb dX10_home_74 rfl hl (by decide) rfl (fun ls hl => ?_)
                refine lv_iload hx hb dX10_home_75 (lv_at hl 1 rfl) ?_
                refine lv_istore_n (lv' := [(3, .int x45), (2, .int x33), (5, .int x45), (0, .ref h_t), (1, .int p1), (4, .int x33)]) hx hb dX10_home_77 rfl hl (by decide) rfl (fun ls hl => ?_)
                refine lv_iinc (v := (x33 + (1 : Int32))) (lv' := [(4, .int (x33 + (1 : Int32))), (3, .int x45), (2, .int x33), (5, .int x45), (0, .ref h_t), (1, .int p1)]) hx hb dX10_home_78 hl (k := 5) rfl rfl (by decide) rfl (fun ls hl => ?_)
                refine lv_goto (tgt := 20) hx hb dX10_home_81 (by decide) ?_
                exact ih34 _ _ _ _ _ _ _ _ hf hX36 _ _ hP hD hS _ (lv_sub hl [4, 5, 2, 1, 0] rfl)
          clear hf
          have hf := hg
          refine lv_icmp_ne (tgt := 57) hx hb dX10_home_44 (by decide) (fun c49 => ?_) (fun c49 => ?_)
          · replace hf := ifn c49 hf
            refine lv_iconst (v := (-1 : Int32)) hx hb dX10_home_57 (by decide) ?_
            obtain ⟨rfl, rfl, rfl⟩ := inj3 hf
            exact J46 _ _ hP hD hS _ (lv_sub hl [0, 1, 2, 3, 4] rfl)
          · replace hf := ifp c49 hf
            refine lv_aload_n hx hb dX10_home_47 rfl (lv_at hl 0 rfl) ?_
            refine lv_iload_n hx hb dX10_home_48 rfl (lv_at hl 1 rfl) ?_
            refine lv_iload hx hb dX10_home_49 (lv_at hl 4 rfl) ?_
            obtain ⟨r50, y51, y52, hg53, hf⟩ := bd3_some hf
            refine CM_callV (C := RX10) (As := [.int p1, .int x33]) (rest := []) (wc := [(h_t, .inr (8, fX10 h_t_book h_t_images h_t_kept h_t_aside h_t_far h_t_then h_t_row h_t_mays h_t_firstRow h_t_low h_t_high t_noOlder t_thanThis t_known t_knownAge t_moved h_t_lowOne h_t_highOne h_t_ways t_met h_t_left t_hours t_greatest h_t_text t_typed t_at t_start t_token t_value h_t_verbs h_t_nums t_items)), (h_t_book, .inl (cI, 460, .inl t_book)), (h_t_far, .inl (cI, 64, .inl y29)), (h_t_then, .inl (cI, 64, .inl y30))]) (w1 := [(h_t, .inr (8, fX10 h_t_book h_t_images h_t_kept h_t_aside h_t_far h_t_then h_t_row h_t_mays h_t_firstRow h_t_low h_t_high t_noOlder t_thanThis t_known t_knownAge t_moved h_t_lowOne h_t_highOne h_t_ways t_met h_t_left t_hours t_greatest h_t_text t_typed t_at t_start t_token t_value h_t_verbs h_t_nums t_items)), (h_t_book, .inl (cI, 460, .inl t_book)), (h_t_far, .inl (cI, 64, .inl y51)), (h_t_then, .inl (cI, 64, .inl y52))]) (wr := []) (wo := [(h_t, .inr (8, fX10 h_t_book h_t_images h_t_kept h_t_aside h_t_far h_t_then h_t_row h_t_mays h_t_firstRow h_t_low h_t_high t_noOlder t_thanThis t_known t_knownAge t_moved h_t_lowOne h_t_highOne h_t_ways t_met h_t_left t_hours t_greatest h_t_text t_typed t_at t_start t_token t_value h_t_verbs h_t_nums t_items)), (h_t_book, .inl (cI, 460, .inl t_book)), (h_t_far, .inl (cI, 64, .inl y51)), (h_t_then, .inl (cI, 64, .inl y52))]) (v := (some (.int r50))) ⟨hx, hb, hml, hown, hts⟩ (c_X10_stepsOf l dC dI cI cZ te h_t h_t_book h_t_images h_t_kept h_t_aside h_t_far h_t_then h_t_row h_t_mays h_t_firstRow h_t_low h_t_high h_t_lowOne h_t_highOne h_t_ways h_t_left h_t_text h_t_verbs h_t_nums t_noOlder t_thanThis t_known t_knownAge t_moved t_met t_hours t_greatest t_typed t_at t_start t_token t_value t_items t_book y29 y30 p1 x33 r50 y51 y52 hg53) (cwV 2 hts (gV kw_209 kw_210 kw_211 kw_159 kw_212) rfl rfl rfl (by decide +kernel) ⟨Nat.le_of_ble_eq_true rfl, Nat.le_of_ble_eq_true rfl⟩) (kS_env te) hK hP hD hS hA hE [0, 1, 2, 3] [] [0, 1, 2, 3] rfl rfl (by decide) (by decide) (by decide) (by decide) rfl 0 8 rfl rfl rfl rfl hl.1 rfl (Nat.le_of_ble_eq_true rfl) dX10_home_51 ⟨Nat.zero_le _, Nat.zero_le _⟩ (fun H locs hP hD hS => ?_)
            show W p l e rmX10_home s m args below meth c H locs 0 0 Q (F0 m 54 ls [.int r50])
            refine lv_goto (tgt := 58) hx hb dX10_home_54 (by decide) ?_
            obtain ⟨rfl, rfl, rfl⟩ := inj3 hf
            exact J46 _ _ hP hD hS _ (lv_sub hl [0, 1, 2, 3, 4] rfl)
    obtain ⟨y26, y27, x28, hg, hf⟩ := bd3_some hf
    refine L54 FU _ _ _ _ _ _ _ _ hg ?_ _ _ hP hD hS _ (lv_sub hl [3, 4, 2, 1, 0] rfl)
    · intro H locs hP hD hS ls hl
      refine lv_iload_n hx hb dX10_home_84 rfl (lv_at hl 0 rfl) ?_
      obtain ⟨rfl, rfl, rfl⟩ := inj3 hf
      subst hQ
      exact CM_iret hx hb hr rfl hlocks hAe hP hD hS dX10_home_85
  · replace hf := ifp c3 hf
    refine lv_bipush (v := (-2 : Int32)) hx hb dX10_home_9 (by decide) ?_
    obtain ⟨rfl, rfl, rfl⟩ := inj3 hf
    subst hQ
    exact CM_iret hx hb hr rfl hlocks hAe hP hD hS dX10_home_11
def rmX10_upstream : Room := { frames := 4, cells := 0, slots := 0, locals := 100 }
abbrev wqX10_upstream : List Cond := Cond.code yX10_upstream cX10_upstream 4 (some .int) :: tG
set_option maxHeartbeats 4000000 in
set_option maxRecDepth 100000 in
theorem c_X10_upstream (l : Launch) (dC : Nat → ClassId) (dI : Nat → Nat → Nat) (cI cZ : ClassId) (te : Nat → Nat) (h_t : Nat) (h_t_book : Nat) (h_t_images : Nat) (h_t_kept : Nat) (h_t_aside : Nat) (h_t_far : Nat) (h_t_then : Nat) (h_t_row : Nat) (h_t_mays : Nat) (h_t_firstRow : Nat) (h_t_low : Nat) (h_t_high : Nat) (h_t_lowOne : Nat) (h_t_highOne : Nat) (h_t_ways : Nat) (h_t_left : Nat) (h_t_text : Nat) (h_t_verbs : Nat) (h_t_nums : Nat) (t_noOlder : Int32) (t_thanThis : Int32) (t_known : Int32) (t_knownAge : Int32) (t_moved : Int32) (t_met : Int32) (t_hours : Int32) (t_greatest : Int32) (t_typed : Int32) (t_at : Int32) (t_start : Int32) (t_token : Int32) (t_value : Int32) (t_items : Int32) (t_far : Nat → Int32) (t_then : Nat → Int32) (t_book : Nat → Int32) (p1 : Int32) (o0 : Int32) (o1 : Nat → Int32) (o2 : Nat → Int32) (hf : f_X10_upstream t_far t_then t_book p1 = some (o0, o1, o2)) : CM l yX10_upstream wqX10_upstream rmX10_upstream (kS te) dC dI cI cZ [.ref h_t, .int p1] [(h_t, .inr (8, fX10 h_t_book h_t_images h_t_kept h_t_aside h_t_far h_t_then h_t_row h_t_mays h_t_firstRow h_t_low h_t_high t_noOlder t_thanThis t_known t_knownAge t_moved h_t_lowOne h_t_highOne h_t_ways t_met h_t_left t_hours t_greatest h_t_text t_typed t_at t_start t_token t_value h_t_verbs h_t_nums t_items)), (h_t_far, .inl (cI, 64, .inl t_far)), (h_t_then, .inl (cI, 64, .inl t_then)), (h_t_book, .inl (cI, 460, .inl t_book))] [(h_t, .inr (8, fX10 h_t_book h_t_images h_t_kept h_t_aside h_t_far h_t_then h_t_row h_t_mays h_t_firstRow h_t_low h_t_high t_noOlder t_thanThis t_known t_knownAge t_moved h_t_lowOne h_t_highOne h_t_ways t_met h_t_left t_hours t_greatest h_t_text t_typed t_at t_start t_token t_value h_t_verbs h_t_nums t_items)), (h_t_far, .inl (cI, 64, .inl o1)), (h_t_then, .inl (cI, 64, .inl o2)), (h_t_book, .inl (cI, 460, .inl t_book))] (some (.int o0)) := by
  refine CM_of (cc := cX10_upstream) (maxL := 4) (ret := (some .int)) (by decide +kernel) rfl (Nat.le_of_ble_eq_true rfl) ?_
  intro p e s m args below meth c A Q hx hb hr hml hown hts hlocks hA hK hP hD hS hE hQ hAe ls hl
  have hown : s.vm.findClass RX10 = some m.cls := hown
  have hl : lv_has ls 4 [(0, .ref h_t), (1, .int p1)] := hl
  unfold f_X10_upstream at hf
  refine lv_iload_n hx hb dX10_upstream_0 rfl (lv_at hl 1 rfl) ?_
  obtain ⟨r1, hg2, hf⟩ := bd1_some hf
  refine CM_callS (As := [.int p1]) (rest := []) (wc := []) (w1 := []) (wr := [(h_t, .inr (8, fX10 h_t_book h_t_images h_t_kept h_t_aside h_t_far h_t_then h_t_row h_t_mays h_t_firstRow h_t_low h_t_high t_noOlder t_thanThis t_known t_knownAge t_moved h_t_lowOne h_t_highOne h_t_ways t_met h_t_left t_hours t_greatest h_t_text t_typed t_at t_start t_token t_value h_t_verbs h_t_nums t_items)), (h_t_far, .inl (cI, 64, .inl t_far)), (h_t_then, .inl (cI, 64, .inl t_then)), (h_t_book, .inl (cI, 460, .inl t_book))]) (wo := [(h_t, .inr (8, fX10 h_t_book h_t_images h_t_kept h_t_aside h_t_far h_t_then h_t_row h_t_mays h_t_firstRow h_t_low h_t_high t_noOlder t_thanThis t_known t_knownAge t_moved h_t_lowOne h_t_highOne h_t_ways t_met h_t_left t_hours t_greatest h_t_text t_typed t_at t_start t_token t_value h_t_verbs h_t_nums t_items)), (h_t_far, .inl (cI, 64, .inl t_far)), (h_t_then, .inl (cI, 64, .inl t_then)), (h_t_book, .inl (cI, 460, .inl t_book))]) (v := (some (.int r1))) ⟨hx, hb, hml, hown, hts⟩ (c_X10_isPlace l dC dI cI cZ te p1 r1 hg2) (va_cwS 1 hts (gS kw_165 kw_166 kw_159 kw_167) rfl rfl rfl (by decide +kernel) ⟨Nat.le_of_ble_eq_true rfl, Nat.le_of_ble_eq_true rfl⟩) (kS_env te) hK hP hD hS hA hE [] [0, 1, 2, 3] [0, 1, 2, 3] rfl rfl (by decide) (by decide) (by decide) (by decide) rfl rfl hl.1 rfl (Nat.le_of_ble_eq_true rfl) dX10_upstream_1 ⟨Nat.zero_le _, Nat.zero_le _⟩ (fun H locs hP hD hS => ?_)
  show W p l e rmX10_upstream s m args below meth c H locs 0 0 Q (F0 m 4 ls [.int r1])
  refine lv_if_ne (tgt := 10) hx hb dX10_upstream_4 (by decide) (fun c3 => ?_) (fun c3 => ?_)
  · replace hf := ifn c3 hf
    refine lv_iconst (v := (0 : Int32)) hx hb dX10_upstream_10 (by decide) ?_
    refine lv_istore_n (lv' := [(2, .int (0 : Int32)), (0, .ref h_t), (1, .int p1)]) hx hb dX10_upstream_11 rfl hl (by decide) rfl (fun ls hl => ?_)
    refine lv_iconst (v := (0 : Int32)) hx hb dX10_upstream_12 (by decide) ?_
    refine lv_istore_n (lv' := [(3, .int (0 : Int32)), (2, .int (0 : Int32)), (0, .ref h_t), (1, .int p1)]) hx hb dX10_upstream_13 rfl hl (by decide) rfl (fun ls hl => ?_)
    have L38 : ∀ (fu26 : Nat) (y21 : Nat → Int32) (y22 : Nat → Int32) (x23 : Int32) (x24 : Int32) (y18 : Nat → Int32) (y19 : Nat → Int32) (x20 : Int32), f_X10_upstream_L1 t_book p1 fu26 y21 y22 x23 x24 = some (y18, y19, x20) → (∀ (H : Heap) (locs : List Loc), va_P (dC, dI) vwCl [(h_t, .inr (8, fX10 h_t_book h_t_images h_t_kept h_t_aside h_t_far h_t_then h_t_row h_t_mays h_t_firstRow h_t_low h_t_high t_noOlder t_thanThis t_known t_knownAge t_moved h_t_lowOne h_t_highOne h_t_ways t_met h_t_left t_hours t_greatest h_t_text t_typed t_at t_start t_token t_value h_t_verbs h_t_nums t_items)), (h_t_far, .inl (cI, 64, .inl y18)), (h_t_then, .inl (cI, 64, .inl y19)), (h_t_book, .inl (cI, 460, .inl t_book))] H → va_D A [(h_t, .inr (8, fX10 h_t_book h_t_images h_t_kept h_t_aside h_t_far h_t_then h_t_row h_t_mays h_t_firstRow h_t_low h_t_high t_noOlder t_thanThis t_known t_knownAge t_moved h_t_lowOne h_t_highOne h_t_ways t_met h_t_left t_hours t_greatest h_t_text t_typed t_at t_start t_token t_value h_t_verbs h_t_nums t_items)), (h_t_far, .inl (cI, 64, .inl y18)), (h_t_then, .inl (cI, 64, .inl y19)), (h_t_book, .inl (cI, 460, .inl t_book))] → va_S A s.heap H locs → ∀ ls : Array Slot, lv_has ls 4 [(2, .int x20)] → W p l e rmX10_upstream s m args below meth c H locs 0 0 Q (F0 m 50 ls [])) → ∀ (H : Heap) (locs : List Loc), va_P (dC, dI) vwCl [(h_t, .inr (8, fX10 h_t_book h_t_images h_t_kept h_t_aside h_t_far h_t_then h_t_row h_t_mays h_t_firstRow h_t_low h_t_high t_noOlder t_thanThis t_known t_knownAge t_moved h_t_lowOne h_t_highOne h_t_ways t_met h_t_left t_hours t_greatest h_t_text t_typed t_at t_start t_token t_value h_t_verbs h_t_nums t_items)), (h_t_far, .inl (cI, 64, .inl y21)), (h_t_then, .inl (cI, 64, .inl y22)), (h_t_book, .inl (cI, 460, .inl t_book))] H → va_D A [(h_t, .inr (8, fX10 h_t_book h_t_images h_t_kept h_t_aside h_t_far h_t_then h_t_row h_t_mays h_t_firstRow h_t_low h_t_high t_noOlder t_thanThis t_known t_knownAge t_moved h_t_lowOne h_t_highOne h_t_ways t_met h_t_left t_hours t_greatest h_t_text t_typed t_at t_start t_token t_value h_t_verbs h_t_nums t_items)), (h_t_far, .inl (cI, 64, .inl y21)), (h_t_then, .inl (cI, 64, .inl y22)), (h_t_book, .inl (cI, 460, .inl t_book))] → va_S A s.heap H locs → ∀ ls : Array Slot, lv_has ls 4 [(0, .ref h_t), (1, .int p1), (2, .int x23), (3, .int x24)] → W p l e rmX10_upstream s m args below meth c H locs 0 0 Q (F0 m 14 ls []) := by
      intro fu26
      induction fu26 with
      | zero =>
        intro y21 y22 x23 x24 y18 y19 x20 hf
        unfold f_X10_upstream_L1 at hf
        exact none_ne hf
      | succ fu26 ih25 =>
        intro y21 y22 x23 x24 y18 y19 x20 hf hX27 H locs hP hD hS ls hl
        unfold f_X10_upstream_L1 at hf
        refine lv_iload_n hx hb dX10_upstream_14 rfl (lv_at hl 3 rfl) ?_
        refine lv_bipush (v := (64 : Int32)) hx hb dX10_upstream_15 (by decide) ?_
        refine lv_icmp_ge (tgt := 50) hx hb dX10_upstream_17 (by decide) (fun c28 => ?_) (fun c28 => ?_)
        · replace hf := ifp c28 hf
          obtain ⟨rfl, rfl, rfl⟩ := inj3 hf
          exact hX27 _ _ hP hD hS _ (lv_sub hl [2] rfl)
        · replace hf := ifn c28 hf
          refine lv_aload_n hx hb dX10_upstream_20 rfl (lv_at hl 0 rfl) ?_
          refine lv_iload_n hx hb dX10_upstream_21 rfl (lv_at hl 3 rfl) ?_
          obtain ⟨y29, y30, hg31, hf⟩ := bd2_some hf
          refine CM_callV (C := RX10) (As := [.int x24]) (rest := []) (wc := [(h_t, .inr (8, fX10 h_t_book h_t_images h_t_kept h_t_aside h_t_far h_t_then h_t_row h_t_mays h_t_firstRow h_t_low h_t_high t_noOlder t_thanThis t_known t_knownAge t_moved h_t_lowOne h_t_highOne h_t_ways t_met h_t_left t_hours t_greatest h_t_text t_typed t_at t_start t_token t_value h_t_verbs h_t_nums t_items)), (h_t_far, .inl (cI, 64, .inl y21)), (h_t_then, .inl (cI, 64, .inl y22)), (h_t_book, .inl (cI, 460, .inl t_book))]) (w1 := [(h_t, .inr (8, fX10 h_t_book h_t_images h_t_kept h_t_aside h_t_far h_t_then h_t_row h_t_mays h_t_firstRow h_t_low h_t_high t_noOlder t_thanThis t_known t_knownAge t_moved h_t_lowOne h_t_highOne h_t_ways t_met h_t_left t_hours t_greatest h_t_text t_typed t_at t_start t_token t_value h_t_verbs h_t_nums t_items)), (h_t_far, .inl (cI, 64, .inl y29)), (h_t_then, .inl (cI, 64, .inl y30)), (h_t_book, .inl (cI, 460, .inl t_book))]) (wr := []) (wo := [(h_t, .inr (8, fX10 h_t_book h_t_images h_t_kept h_t_aside h_t_far h_t_then h_t_row h_t_mays h_t_firstRow h_t_low h_t_high t_noOlder t_thanThis t_known t_knownAge t_moved h_t_lowOne h_t_highOne h_t_ways t_met h_t_left t_hours t_greatest h_t_text t_typed t_at t_start t_token t_value h_t_verbs h_t_nums t_items)), (h_t_far, .inl (cI, 64, .inl y29)), (h_t_then, .inl (cI, 64, .inl y30)), (h_t_book, .inl (cI, 460, .inl t_book))]) (v := (none)) ⟨hx, hb, hml, hown, hts⟩ (c_X10_carries l dC dI cI cZ te h_t h_t_book h_t_images h_t_kept h_t_aside h_t_far h_t_then h_t_row h_t_mays h_t_firstRow h_t_low h_t_high h_t_lowOne h_t_highOne h_t_ways h_t_left h_t_text h_t_verbs h_t_nums t_noOlder t_thanThis t_known t_knownAge t_moved t_met t_hours t_greatest t_typed t_at t_start t_token t_value t_items y21 y22 t_book x24 y29 y30 hg31) (cwV 1 hts (gV kw_197 kw_198 kw_199 kw_159 kw_200) rfl rfl rfl (by decide +kernel) ⟨Nat.le_of_ble_eq_true rfl, Nat.le_of_ble_eq_true rfl⟩) (kS_env te) hK hP hD hS hA hE [0, 1, 2, 3] [] [0, 1, 2, 3] rfl rfl (by decide) (by decide) (by decide) (by decide) rfl 0 8 rfl rfl rfl rfl hl.1 rfl (Nat.le_of_ble_eq_true rfl) dX10_upstream_22 ⟨Nat.zero_le _, Nat.zero_le _⟩ (fun H locs hP hD hS => ?_)
          show W p l e rmX10_upstream s m args below meth c H locs 0 0 Q (F0 m 25 ls [])
          refine lv_iload_n hx hb dX10_upstream_25 rfl (lv_at hl 2 rfl) ?_
          refine lv_aload_n hx hb dX10_upstream_26 rfl (lv_at hl 0 rfl) ?_
          refine va_get (D := (dC, dI)) (ci := 8) (v := .ref h_t_far) (C := RX10) (T := TX10) (N := 32) hx hb hts (in1 tw_X10) hown hK hP 0 rfl rfl 4 (by decide) (hts _ (List.mem_cons_of_mem _ kw_121)) (fun _ h9 => h9) rfl dX10_upstream_27 ?_
          refine lv_iload_n hx hb dX10_upstream_30 rfl (lv_at hl 1 rfl) ?_
          obtain ⟨g32, hf⟩ := chk_some hf
          refine va_iald hx hb hK hP 1 0 rfl rfl (gin_in g32) dX10_upstream_31 ?_
          refine lv_ldc (v := (1000000 : Int32)) hx hb hown (hts _ (List.mem_cons_of_mem _ kw_192)) dX10_upstream_32 ?_
          refine lv_icmp_ge (tgt := 41) hx hb dX10_upstream_34 (by decide) (fun c33 => ?_) (fun c33 => ?_)
          · replace hf := ifp c33 hf
            refine lv_iconst (v := (0 : Int32)) hx hb dX10_upstream_41 (by decide) ?_
            refine lv_iadd hx hb dX10_upstream_42 ?_
            obtain ⟨x34, e35, hf⟩ := nm_some hf
            refine lv_tope e35 ?_
            refine lv_istore_n (lv' := [(2, .int x34), (0, .ref h_t), (1, .int p1), (3, .int x24)]) hx hb dX10_upstream_43 rfl hl (by decide) rfl (fun ls hl => ?_)
            refine lv_iinc (v := (x24 + (1 : Int32))) (lv' := [(3, .int (x24 + (1 : Int32))), (2, .int x34), (0, .ref h_t), (1, .int p1)]) hx hb dX10_upstream_44 hl (k := 3) rfl rfl (by decide) rfl (fun ls hl => ?_)
            refine lv_goto (tgt := 14) hx hb dX10_upstream_47 (by decide) ?_
            exact ih25 _ _ _ _ _ _ _ hf hX27 _ _ hP hD hS _ (lv_sub hl [2, 3, 1, 0] rfl)
          · replace hf := ifn c33 hf
            refine lv_iconst (v := (1 : Int32)) hx hb dX10_upstream_37 (by decide) ?_
            refine lv_goto (tgt := 42) hx hb dX10_upstream_38 (by decide) ?_
            refine lv_iadd hx hb dX10_upstream_42 ?_
            obtain ⟨x36, e37, hf⟩ := nm_some hf
            refine lv_tope e37 ?_
            refine lv_istore_n (lv' := [(2, .int x36), (0, .ref h_t), (1, .int p1), (3, .int x24)]) hx hb dX10_upstream_43 rfl hl (by decide) rfl (fun ls hl => ?_)
            refine lv_iinc (v := (x24 + (1 : Int32))) (lv' := [(3, .int (x24 + (1 : Int32))), (2, .int x36), (0, .ref h_t), (1, .int p1)]) hx hb dX10_upstream_44 hl (k := 3) rfl rfl (by decide) rfl (fun ls hl => ?_)
            refine lv_goto (tgt := 14) hx hb dX10_upstream_47 (by decide) ?_
            exact ih25 _ _ _ _ _ _ _ hf hX27 _ _ hP hD hS _ (lv_sub hl [2, 3, 1, 0] rfl)
    obtain ⟨y18, y19, x20, hg, hf⟩ := bd3_some hf
    refine L38 FU _ _ _ _ _ _ _ hg ?_ _ _ hP hD hS _ (lv_sub hl [2, 3, 1, 0] rfl)
    · intro H locs hP hD hS ls hl
      refine lv_iload_n hx hb dX10_upstream_50 rfl (lv_at hl 0 rfl) ?_
      obtain ⟨rfl, rfl, rfl⟩ := inj3 hf
      subst hQ
      exact CM_iret hx hb hr rfl hlocks hAe hP hD hS dX10_upstream_51
  · replace hf := ifp c3 hf
    refine lv_bipush (v := (-2 : Int32)) hx hb dX10_upstream_7 (by decide) ?_
    obtain ⟨rfl, rfl, rfl⟩ := inj3 hf
    subst hQ
    exact CM_iret hx hb hr rfl hlocks hAe hP hD hS dX10_upstream_9
def rmX10_scratch : Room := { frames := 2, cells := 0, slots := 0, locals := 45 }
abbrev wqX10_scratch : List Cond := Cond.code yX10_scratch cX10_scratch 3 (some .int) :: tG
set_option maxHeartbeats 4000000 in
set_option maxRecDepth 100000 in
theorem c_X10_scratch (l : Launch) (dC : Nat → ClassId) (dI : Nat → Nat → Nat) (cI cZ : ClassId) (te : Nat → Nat) (h_t : Nat) (h_t_book : Nat) (h_t_images : Nat) (h_t_kept : Nat) (h_t_aside : Nat) (h_t_far : Nat) (h_t_then : Nat) (h_t_row : Nat) (h_t_mays : Nat) (h_t_firstRow : Nat) (h_t_low : Nat) (h_t_high : Nat) (h_t_lowOne : Nat) (h_t_highOne : Nat) (h_t_ways : Nat) (h_t_left : Nat) (h_t_text : Nat) (h_t_verbs : Nat) (h_t_nums : Nat) (t_noOlder : Int32) (t_thanThis : Int32) (t_known : Int32) (t_knownAge : Int32) (t_moved : Int32) (t_met : Int32) (t_hours : Int32) (t_greatest : Int32) (t_typed : Int32) (t_at : Int32) (t_start : Int32) (t_token : Int32) (t_value : Int32) (t_items : Int32) (t_book : Nat → Int32) (p1 : Int32) (p2 : Int32) (o0 : Int32) (o1 : Nat → Int32) (hf : f_X10_scratch t_book p1 p2 = some (o0, o1)) : CM l yX10_scratch wqX10_scratch rmX10_scratch (kS te) dC dI cI cZ [.ref h_t, .int p1, .int p2] [(h_t, .inr (8, fX10 h_t_book h_t_images h_t_kept h_t_aside h_t_far h_t_then h_t_row h_t_mays h_t_firstRow h_t_low h_t_high t_noOlder t_thanThis t_known t_knownAge t_moved h_t_lowOne h_t_highOne h_t_ways t_met h_t_left t_hours t_greatest h_t_text t_typed t_at t_start t_token t_value h_t_verbs h_t_nums t_items)), (h_t_book, .inl (cI, 460, .inl t_book))] [(h_t, .inr (8, fX10 h_t_book h_t_images h_t_kept h_t_aside h_t_far h_t_then h_t_row h_t_mays h_t_firstRow h_t_low h_t_high t_noOlder t_thanThis t_known t_knownAge t_moved h_t_lowOne h_t_highOne h_t_ways t_met h_t_left t_hours t_greatest h_t_text t_typed t_at t_start t_token t_value h_t_verbs h_t_nums t_items)), (h_t_book, .inl (cI, 460, .inl o1))] (some (.int o0)) := by
  refine CM_of (cc := cX10_scratch) (maxL := 3) (ret := (some .int)) (by decide +kernel) rfl (Nat.le_of_ble_eq_true rfl) ?_
  intro p e s m args below meth c A Q hx hb hr hml hown hts hlocks hA hK hP hD hS hE hQ hAe ls hl
  have hown : s.vm.findClass RX10 = some m.cls := hown
  have hl : lv_has ls 3 [(0, .ref h_t), (1, .int p1), (2, .int p2)] := hl
  unfold f_X10_scratch at hf
  refine lv_iload_n hx hb dX10_scratch_0 rfl (lv_at hl 1 rfl) ?_
  obtain ⟨r1, hg2, hf⟩ := bd1_some hf
  refine CM_callS (As := [.int p1]) (rest := []) (wc := []) (w1 := []) (wr := [(h_t, .inr (8, fX10 h_t_book h_t_images h_t_kept h_t_aside h_t_far h_t_then h_t_row h_t_mays h_t_firstRow h_t_low h_t_high t_noOlder t_thanThis t_known t_knownAge t_moved h_t_lowOne h_t_highOne h_t_ways t_met h_t_left t_hours t_greatest h_t_text t_typed t_at t_start t_token t_value h_t_verbs h_t_nums t_items)), (h_t_book, .inl (cI, 460, .inl t_book))]) (wo := [(h_t, .inr (8, fX10 h_t_book h_t_images h_t_kept h_t_aside h_t_far h_t_then h_t_row h_t_mays h_t_firstRow h_t_low h_t_high t_noOlder t_thanThis t_known t_knownAge t_moved h_t_lowOne h_t_highOne h_t_ways t_met h_t_left t_hours t_greatest h_t_text t_typed t_at t_start t_token t_value h_t_verbs h_t_nums t_items)), (h_t_book, .inl (cI, 460, .inl t_book))]) (v := (some (.int r1))) ⟨hx, hb, hml, hown, hts⟩ (c_X10_isPlace l dC dI cI cZ te p1 r1 hg2) (va_cwS 1 hts (gS kw_165 kw_166 kw_159 kw_167) rfl rfl rfl (by decide +kernel) ⟨Nat.le_of_ble_eq_true rfl, Nat.le_of_ble_eq_true rfl⟩) (kS_env te) hK hP hD hS hA hE [] [0, 1] [0, 1] rfl rfl (by decide) (by decide) (by decide) (by decide) rfl rfl hl.1 rfl (Nat.le_of_ble_eq_true rfl) dX10_scratch_1 ⟨Nat.zero_le _, Nat.zero_le _⟩ (fun H locs hP hD hS => ?_)
  show W p l e rmX10_scratch s m args below meth c H locs 0 0 Q (F0 m 4 ls [.int r1])
  refine lv_if_eq (tgt := 34) hx hb dX10_scratch_4 (by decide) (fun c3 => ?_) (fun c3 => ?_)
  · replace hf := ifp c3 hf
    refine lv_bipush (v := (-2 : Int32)) hx hb dX10_scratch_34 (by decide) ?_
    obtain ⟨rfl, rfl⟩ := inj2 hf
    subst hQ
    exact CM_iret hx hb hr rfl hlocks hAe hP hD hS dX10_scratch_36
  · replace hf := ifn c3 hf
    refine lv_iload_n hx hb dX10_scratch_7 rfl (lv_at hl 2 rfl) ?_
    refine lv_i2l hx hb dX10_scratch_8 rfl ?_
    refine lv_lconst (v := (0 : Int64)) hx hb dX10_scratch_9 (by decide) ?_
    refine lv_ldc2 (v := (15 : Int64)) hx hb hown (hts _ (List.mem_cons_of_mem _ kw_213)) dX10_scratch_10 ?_
    obtain ⟨r4, hg5, hf⟩ := bd1_some hf
    refine CM_callS (As := [.long p2.toInt64, .long (0 : Int64), .long (15 : Int64)]) (rest := []) (wc := []) (w1 := []) (wr := [(h_t, .inr (8, fX10 h_t_book h_t_images h_t_kept h_t_aside h_t_far h_t_then h_t_row h_t_mays h_t_firstRow h_t_low h_t_high t_noOlder t_thanThis t_known t_knownAge t_moved h_t_lowOne h_t_highOne h_t_ways t_met h_t_left t_hours t_greatest h_t_text t_typed t_at t_start t_token t_value h_t_verbs h_t_nums t_items)), (h_t_book, .inl (cI, 460, .inl t_book))]) (wo := [(h_t, .inr (8, fX10 h_t_book h_t_images h_t_kept h_t_aside h_t_far h_t_then h_t_row h_t_mays h_t_firstRow h_t_low h_t_high t_noOlder t_thanThis t_known t_knownAge t_moved h_t_lowOne h_t_highOne h_t_ways t_met h_t_left t_hours t_greatest h_t_text t_typed t_at t_start t_token t_value h_t_verbs h_t_nums t_items)), (h_t_book, .inl (cI, 460, .inl t_book))]) (v := (some (.int r4))) ⟨hx, hb, hml, hown, hts⟩ (c_X10_in l dC dI cI cZ te (p2.toInt64) (0 : Int64) (15 : Int64) r4 hg5) (va_cwS 3 hts (gS kw_157 kw_158 kw_159 kw_160) rfl rfl rfl (by decide +kernel) ⟨Nat.le_of_ble_eq_true rfl, Nat.le_of_ble_eq_true rfl⟩) (kS_env te) hK hP hD hS hA hE [] [0, 1] [0, 1] rfl rfl (by decide) (by decide) (by decide) (by decide) rfl rfl hl.1 rfl (Nat.le_of_ble_eq_true rfl) dX10_scratch_13 ⟨Nat.zero_le _, Nat.zero_le _⟩ (fun H locs hP hD hS => ?_)
    show W p l e rmX10_scratch s m args below meth c H locs 0 0 Q (F0 m 16 ls [.int r4])
    refine lv_if_eq (tgt := 34) hx hb dX10_scratch_16 (by decide) (fun c6 => ?_) (fun c6 => ?_)
    · replace hf := ifp c6 hf
      refine lv_bipush (v := (-2 : Int32)) hx hb dX10_scratch_34 (by decide) ?_
      obtain ⟨rfl, rfl⟩ := inj2 hf
      subst hQ
      exact CM_iret hx hb hr rfl hlocks hAe hP hD hS dX10_scratch_36
    · replace hf := ifn c6 hf
      refine lv_aload_n hx hb dX10_scratch_19 rfl (lv_at hl 0 rfl) ?_
      refine lv_iconst (v := (2 : Int32)) hx hb dX10_scratch_20 (by decide) ?_
      refine lv_bipush (v := (10 : Int32)) hx hb dX10_scratch_21 (by decide) ?_
      refine lv_sipush (v := (260 : Int32)) hx hb dX10_scratch_23 (by decide) ?_
      refine lv_iload_n hx hb dX10_scratch_26 rfl (lv_at hl 1 rfl) ?_
      refine lv_iload_n hx hb dX10_scratch_27 rfl (lv_at hl 2 rfl) ?_
      obtain ⟨r7, y8, hg9, hf⟩ := bd2_some hf
      refine CM_callV (C := RX10) (As := [.int (2 : Int32), .int (10 : Int32), .int (260 : Int32), .int p1, .int p2]) (rest := []) (wc := [(h_t, .inr (8, fX10 h_t_book h_t_images h_t_kept h_t_aside h_t_far h_t_then h_t_row h_t_mays h_t_firstRow h_t_low h_t_high t_noOlder t_thanThis t_known t_knownAge t_moved h_t_lowOne h_t_highOne h_t_ways t_met h_t_left t_hours t_greatest h_t_text t_typed t_at t_start t_token t_value h_t_verbs h_t_nums t_items)), (h_t_book, .inl (cI, 460, .inl t_book))]) (w1 := [(h_t, .inr (8, fX10 h_t_book h_t_images h_t_kept h_t_aside h_t_far h_t_then h_t_row h_t_mays h_t_firstRow h_t_low h_t_high t_noOlder t_thanThis t_known t_knownAge t_moved h_t_lowOne h_t_highOne h_t_ways t_met h_t_left t_hours t_greatest h_t_text t_typed t_at t_start t_token t_value h_t_verbs h_t_nums t_items)), (h_t_book, .inl (cI, 460, .inl y8))]) (wr := []) (wo := [(h_t, .inr (8, fX10 h_t_book h_t_images h_t_kept h_t_aside h_t_far h_t_then h_t_row h_t_mays h_t_firstRow h_t_low h_t_high t_noOlder t_thanThis t_known t_knownAge t_moved h_t_lowOne h_t_highOne h_t_ways t_met h_t_left t_hours t_greatest h_t_text t_typed t_at t_start t_token t_value h_t_verbs h_t_nums t_items)), (h_t_book, .inl (cI, 460, .inl y8))]) (v := (some (.int r7))) ⟨hx, hb, hml, hown, hts⟩ (c_X10_comes l dC dI cI cZ te h_t h_t_book h_t_images h_t_kept h_t_aside h_t_far h_t_then h_t_row h_t_mays h_t_firstRow h_t_low h_t_high h_t_lowOne h_t_highOne h_t_ways h_t_left h_t_text h_t_verbs h_t_nums t_noOlder t_thanThis t_known t_knownAge t_moved t_met t_hours t_greatest t_typed t_at t_start t_token t_value t_items t_book (2 : Int32) (10 : Int32) (260 : Int32) p1 p2 r7 y8 hg9) (cwV 5 hts (gV kw_188 kw_189 kw_190 kw_159 kw_191) rfl rfl rfl (by decide +kernel) ⟨Nat.le_of_ble_eq_true rfl, Nat.le_of_ble_eq_true rfl⟩) (kS_env te) hK hP hD hS hA hE [0, 1] [] [0, 1] rfl rfl (by decide) (by decide) (by decide) (by decide) rfl 0 8 rfl rfl rfl rfl hl.1 rfl (Nat.le_of_ble_eq_true rfl) dX10_scratch_28 ⟨Nat.zero_le _, Nat.zero_le _⟩ (fun H locs hP hD hS => ?_)
      show W p l e rmX10_scratch s m args below meth c H locs 0 0 Q (F0 m 31 ls [.int r7])
      refine lv_goto (tgt := 36) hx hb dX10_scratch_31 (by decide) ?_
      obtain ⟨rfl, rfl⟩ := inj2 hf
      subst hQ
      exact CM_iret hx hb hr rfl hlocks hAe hP hD hS dX10_scratch_36
def rmX10_put : Room := { frames := 1, cells := 0, slots := 0, locals := 25 }
abbrev wqX10_put : List Cond := Cond.code yX10_put cX10_put 4 (some .int) :: tG
set_option maxHeartbeats 4000000 in
set_option maxRecDepth 100000 in
theorem c_X10_put (l : Launch) (dC : Nat → ClassId) (dI : Nat → Nat → Nat) (cI cZ : ClassId) (te : Nat → Nat) (h_t : Nat) (h_t_book : Nat) (h_t_images : Nat) (h_t_kept : Nat) (h_t_aside : Nat) (h_t_far : Nat) (h_t_then : Nat) (h_t_row : Nat) (h_t_mays : Nat) (h_t_firstRow : Nat) (h_t_low : Nat) (h_t_high : Nat) (h_t_lowOne : Nat) (h_t_highOne : Nat) (h_t_ways : Nat) (h_t_left : Nat) (h_t_text : Nat) (h_t_verbs : Nat) (h_t_nums : Nat) (t_noOlder : Int32) (t_thanThis : Int32) (t_known : Int32) (t_knownAge : Int32) (t_moved : Int32) (t_met : Int32) (t_hours : Int32) (t_greatest : Int32) (t_typed : Int32) (t_at : Int32) (t_start : Int32) (t_token : Int32) (t_value : Int32) (t_items : Int32) (t_book : Nat → Int32) (p1 : Int32) (p2 : Int32) (o0 : Int32) (o1 : Nat → Int32) (hf : f_X10_put t_book p1 p2 = some (o0, o1)) : CM l yX10_put wqX10_put rmX10_put (kS te) dC dI cI cZ [.ref h_t, .int p1, .int p2] [(h_t, .inr (8, fX10 h_t_book h_t_images h_t_kept h_t_aside h_t_far h_t_then h_t_row h_t_mays h_t_firstRow h_t_low h_t_high t_noOlder t_thanThis t_known t_knownAge t_moved h_t_lowOne h_t_highOne h_t_ways t_met h_t_left t_hours t_greatest h_t_text t_typed t_at t_start t_token t_value h_t_verbs h_t_nums t_items)), (h_t_book, .inl (cI, 460, .inl t_book))] [(h_t, .inr (8, fX10 h_t_book h_t_images h_t_kept h_t_aside h_t_far h_t_then h_t_row h_t_mays h_t_firstRow h_t_low h_t_high t_noOlder t_thanThis t_known t_knownAge t_moved h_t_lowOne h_t_highOne h_t_ways t_met h_t_left t_hours t_greatest h_t_text t_typed t_at t_start t_token t_value h_t_verbs h_t_nums t_items)), (h_t_book, .inl (cI, 460, .inl o1))] (some (.int o0)) := by
  refine CM_of (cc := cX10_put) (maxL := 4) (ret := (some .int)) (by decide +kernel) rfl (Nat.le_of_ble_eq_true rfl) ?_
  intro p e s m args below meth c A Q hx hb hr hml hown hts hlocks hA hK hP hD hS hE hQ hAe ls hl
  have hown : s.vm.findClass RX10 = some m.cls := hown
  have hl : lv_has ls 4 [(0, .ref h_t), (1, .int p1), (2, .int p2)] := hl
  unfold f_X10_put at hf
  refine lv_iload_n hx hb dX10_put_0 rfl (lv_at hl 1 rfl) ?_
  obtain ⟨x1, hg, hf⟩ := bd1_some hf
  have J2 : ∀ (H : Heap) (locs : List Loc), va_P (dC, dI) vwCl [(h_t, .inr (8, fX10 h_t_book h_t_images h_t_kept h_t_aside h_t_far h_t_then h_t_row h_t_mays h_t_firstRow h_t_low h_t_high t_noOlder t_thanThis t_known t_knownAge t_moved h_t_lowOne h_t_highOne h_t_ways t_met h_t_left t_hours t_greatest h_t_text t_typed t_at t_start t_token t_value h_t_verbs h_t_nums t_items)), (h_t_book, .inl (cI, 460, .inl t_book))] H → va_D A [(h_t, .inr (8, fX10 h_t_book h_t_images h_t_kept h_t_aside h_t_far h_t_then h_t_row h_t_mays h_t_firstRow h_t_low h_t_high t_noOlder t_thanThis t_known t_knownAge t_moved h_t_lowOne h_t_highOne h_t_ways t_met h_t_left t_hours t_greatest h_t_text t_typed t_at t_start t_token t_value h_t_verbs h_t_nums t_items)), (h_t_book, .inl (cI, 460, .inl t_book))] → va_S A s.heap H locs → ∀ ls : Array Slot, lv_has ls 4 [(0, .ref h_t), (1, .int p1), (2, .int p2)] → W p l e rmX10_put s m args below meth c H locs 0 0 Q (F0 m 118 ls [.int x1]) := by
    intro H locs hP hD hS ls hl
    refine lv_istore_n (lv' := [(3, .int x1), (0, .ref h_t), (1, .int p1), (2, .int p2)]) hx hb dX10_put_118 rfl hl (by decide) rfl (fun ls hl => ?_)
    refine lv_iload_n hx hb dX10_put_119 rfl (lv_at hl 0 rfl) ?_
    refine lv_if_eq (tgt := 135) hx hb dX10_put_120 (by decide) (fun c3 => ?_) (fun c3 => ?_)
    · replace hf := ifp c3 hf
      refine lv_bipush (v := (-2 : Int32)) hx hb dX10_put_135 (by decide) ?_
      obtain ⟨rfl, rfl⟩ := inj2 hf
      subst hQ
      exact CM_iret hx hb hr rfl hlocks hAe hP hD hS dX10_put_137
    · replace hf := ifn c3 hf
      refine lv_aload_n hx hb dX10_put_123 rfl (lv_at hl 1 rfl) ?_
      refine lv_bipush (v := (6 : Int32)) hx hb dX10_put_124 (by decide) ?_
      refine lv_iload_n hx hb dX10_put_126 rfl (lv_at hl 2 rfl) ?_
      refine lv_iadd hx hb dX10_put_127 ?_
      refine lv_iload_n hx hb dX10_put_128 rfl (lv_at hl 3 rfl) ?_
      obtain ⟨r4, y5, hg6, hf⟩ := bd2_some hf
      refine CM_callV (C := RX10) (As := [.int ((6 : Int32) + p1), .int p2]) (rest := []) (wc := [(h_t, .inr (8, fX10 h_t_book h_t_images h_t_kept h_t_aside h_t_far h_t_then h_t_row h_t_mays h_t_firstRow h_t_low h_t_high t_noOlder t_thanThis t_known t_knownAge t_moved h_t_lowOne h_t_highOne h_t_ways t_met h_t_left t_hours t_greatest h_t_text t_typed t_at t_start t_token t_value h_t_verbs h_t_nums t_items)), (h_t_book, .inl (cI, 460, .inl t_book))]) (w1 := [(h_t, .inr (8, fX10 h_t_book h_t_images h_t_kept h_t_aside h_t_far h_t_then h_t_row h_t_mays h_t_firstRow h_t_low h_t_high t_noOlder t_thanThis t_known t_knownAge t_moved h_t_lowOne h_t_highOne h_t_ways t_met h_t_left t_hours t_greatest h_t_text t_typed t_at t_start t_token t_value h_t_verbs h_t_nums t_items)), (h_t_book, .inl (cI, 460, .inl y5))]) (wr := []) (wo := [(h_t, .inr (8, fX10 h_t_book h_t_images h_t_kept h_t_aside h_t_far h_t_then h_t_row h_t_mays h_t_firstRow h_t_low h_t_high t_noOlder t_thanThis t_known t_knownAge t_moved h_t_lowOne h_t_highOne h_t_ways t_met h_t_left t_hours t_greatest h_t_text t_typed t_at t_start t_token t_value h_t_verbs h_t_nums t_items)), (h_t_book, .inl (cI, 460, .inl y5))]) (v := (some (.int r4))) ⟨hx, hb, hml, hown, hts⟩ (c_X10_sets l dC dI cI cZ te h_t h_t_book h_t_images h_t_kept h_t_aside h_t_far h_t_then h_t_row h_t_mays h_t_firstRow h_t_low h_t_high h_t_lowOne h_t_highOne h_t_ways h_t_left h_t_text h_t_verbs h_t_nums t_noOlder t_thanThis t_known t_knownAge t_moved t_met t_hours t_greatest t_typed t_at t_start t_token t_value t_items t_book ((6 : Int32) + p1) p2 r4 y5 hg6) (cwV 2 hts (gV kw_169 kw_170 kw_171 kw_159 kw_172) rfl rfl rfl (by decide +kernel) ⟨Nat.le_of_ble_eq_true rfl, Nat.le_of_ble_eq_true rfl⟩) (kS_env te) hK hP hD hS hA hE [0, 1] [] [0, 1] rfl rfl (by decide) (by decide) (by decide) (by decide) rfl 0 8 rfl rfl rfl rfl hl.1 rfl (Nat.le_of_ble_eq_true rfl) dX10_put_129 ⟨Nat.zero_le _, Nat.zero_le _⟩ (fun H locs hP hD hS => ?_)
      show W p l e rmX10_put s m args below meth c H locs 0 0 Q (F0 m 132 ls [.int r4])
      refine lv_goto (tgt := 137) hx hb dX10_put_132 (by decide) ?_
      obtain ⟨rfl, rfl⟩ := inj2 hf
      subst hQ
      exact CM_iret hx hb hr rfl hlocks hAe hP hD hS dX10_put_137
  clear hf
  have hf := hg
  refine lv_if_ne (tgt := 16) hx hb dX10_put_1 (by decide) (fun c7 => ?_) (fun c7 => ?_)
  · replace hf := ifn c7 hf
    refine lv_iload_n hx hb dX10_put_16 rfl (lv_at hl 1 rfl) ?_
    refine lv_iconst (v := (1 : Int32)) hx hb dX10_put_17 (by decide) ?_
    refine lv_icmp_ne (tgt := 33) hx hb dX10_put_18 (by decide) (fun c8 => ?_) (fun c8 => ?_)
    · replace hf := ifn c8 hf
      refine lv_iload_n hx hb dX10_put_33 rfl (lv_at hl 1 rfl) ?_
      refine lv_iconst (v := (2 : Int32)) hx hb dX10_put_34 (by decide) ?_
      refine lv_icmp_ne (tgt := 50) hx hb dX10_put_35 (by decide) (fun c9 => ?_) (fun c9 => ?_)
      · replace hf := ifn c9 hf
        refine lv_iload_n hx hb dX10_put_50 rfl (lv_at hl 1 rfl) ?_
        refine lv_iconst (v := (3 : Int32)) hx hb dX10_put_51 (by decide) ?_
        refine lv_icmp_ne (tgt := 67) hx hb dX10_put_52 (by decide) (fun c10 => ?_) (fun c10 => ?_)
        · replace hf := ifn c10 hf
          refine lv_iload_n hx hb dX10_put_67 rfl (lv_at hl 1 rfl) ?_
          refine lv_iconst (v := (4 : Int32)) hx hb dX10_put_68 (by decide) ?_
          refine lv_icmp_ne (tgt := 89) hx hb dX10_put_69 (by decide) (fun c11 => ?_) (fun c11 => ?_)
          · replace hf := ifn c11 hf
            refine lv_iload_n hx hb dX10_put_89 rfl (lv_at hl 1 rfl) ?_
            refine lv_iconst (v := (5 : Int32)) hx hb dX10_put_90 (by decide) ?_
            refine lv_icmp_ne (tgt := 117) hx hb dX10_put_91 (by decide) (fun c12 => ?_) (fun c12 => ?_)
            · replace hf := ifn c12 hf
              refine lv_iconst (v := (0 : Int32)) hx hb dX10_put_117 (by decide) ?_
              obtain rfl := inj1 hf
              exact J2 _ _ hP hD hS _ (lv_sub hl [0, 1, 2] rfl)
            · replace hf := ifp c12 hf
              refine lv_iload_n hx hb dX10_put_94 rfl (lv_at hl 2 rfl) ?_
              refine lv_i2l hx hb dX10_put_95 rfl ?_
              refine lv_aload_n hx hb dX10_put_96 rfl (lv_at hl 0 rfl) ?_
              refine va_get (D := (dC, dI)) (ci := 8) (v := .ref h_t_book) (C := RX10) (T := TX10) (N := 32) hx hb hts (in1 tw_X10) hown hK hP 0 rfl rfl 0 (by decide) (hts _ (List.mem_cons_of_mem _ kw_116)) (fun _ h9 => h9) rfl dX10_put_97 ?_
              refine lv_bipush (v := (10 : Int32)) hx hb dX10_put_100 (by decide) ?_
              obtain ⟨g13, hf⟩ := chk_some hf
              refine va_iald hx hb hK hP 1 0 rfl rfl (gin_in g13) dX10_put_102 ?_
              refine lv_i2l hx hb dX10_put_103 rfl ?_
              refine lv_ldc2 (v := (99 : Int64)) hx hb hown (hts _ (List.mem_cons_of_mem _ kw_168)) dX10_put_104 ?_
              obtain ⟨r14, hg15, hf⟩ := bd1_some hf
              refine CM_callS (As := [.long p2.toInt64, .long (t_book (10 : Int32).toNatClampNeg).toInt64, .long (99 : Int64)]) (rest := []) (wc := []) (w1 := []) (wr := [(h_t, .inr (8, fX10 h_t_book h_t_images h_t_kept h_t_aside h_t_far h_t_then h_t_row h_t_mays h_t_firstRow h_t_low h_t_high t_noOlder t_thanThis t_known t_knownAge t_moved h_t_lowOne h_t_highOne h_t_ways t_met h_t_left t_hours t_greatest h_t_text t_typed t_at t_start t_token t_value h_t_verbs h_t_nums t_items)), (h_t_book, .inl (cI, 460, .inl t_book))]) (wo := [(h_t, .inr (8, fX10 h_t_book h_t_images h_t_kept h_t_aside h_t_far h_t_then h_t_row h_t_mays h_t_firstRow h_t_low h_t_high t_noOlder t_thanThis t_known t_knownAge t_moved h_t_lowOne h_t_highOne h_t_ways t_met h_t_left t_hours t_greatest h_t_text t_typed t_at t_start t_token t_value h_t_verbs h_t_nums t_items)), (h_t_book, .inl (cI, 460, .inl t_book))]) (v := (some (.int r14))) ⟨hx, hb, hml, hown, hts⟩ (c_X10_in l dC dI cI cZ te (p2.toInt64) ((t_book (10 : Int32).toNatClampNeg).toInt64) (99 : Int64) r14 hg15) (va_cwS 3 hts (gS kw_157 kw_158 kw_159 kw_160) rfl rfl rfl (by decide +kernel) ⟨Nat.le_of_ble_eq_true rfl, Nat.le_of_ble_eq_true rfl⟩) (kS_env te) hK hP hD hS hA hE [] [0, 1] [0, 1] rfl rfl (by decide) (by decide) (by decide) (by decide) rfl rfl hl.1 rfl (Nat.le_of_ble_eq_true rfl) dX10_put_107 ⟨Nat.zero_le _, Nat.zero_le _⟩ (fun H locs hP hD hS => ?_)
              show W p l e rmX10_put s m args below meth c H locs 0 0 Q (F0 m 110 ls [.int r14])
              refine lv_if_eq (tgt := 117) hx hb dX10_put_110 (by decide) (fun c16 => ?_) (fun c16 => ?_)
              · replace hf := ifp c16 hf
                refine lv_iconst (v := (0 : Int32)) hx hb dX10_put_117 (by decide) ?_
                obtain rfl := inj1 hf
                exact J2 _ _ hP hD hS _ (lv_sub hl [0, 1, 2] rfl)
              · replace hf := ifn c16 hf
                refine lv_iconst (v := (1 : Int32)) hx hb dX10_put_113 (by decide) ?_
                refine lv_goto (tgt := 118) hx hb dX10_put_114 (by decide) ?_
                obtain rfl := inj1 hf
                exact J2 _ _ hP hD hS _ (lv_sub hl [0, 1, 2] rfl)
          · replace hf := ifp c11 hf
            refine lv_iload_n hx hb dX10_put_72 rfl (lv_at hl 2 rfl) ?_
            refine lv_i2l hx hb dX10_put_73 rfl ?_
            refine lv_lconst (v := (1 : Int64)) hx hb dX10_put_74 (by decide) ?_
            refine lv_aload_n hx hb dX10_put_75 rfl (lv_at hl 0 rfl) ?_
            refine va_get (D := (dC, dI)) (ci := 8) (v := .ref h_t_book) (C := RX10) (T := TX10) (N := 32) hx hb hts (in1 tw_X10) hown hK hP 0 rfl rfl 0 (by decide) (hts _ (List.mem_cons_of_mem _ kw_116)) (fun _ h9 => h9) rfl dX10_put_76 ?_
            refine lv_bipush (v := (11 : Int32)) hx hb dX10_put_79 (by decide) ?_
            obtain ⟨g17, hf⟩ := chk_some hf
            refine va_iald hx hb hK hP 1 0 rfl rfl (gin_in g17) dX10_put_81 ?_
            refine lv_i2l hx hb dX10_put_82 rfl ?_
            obtain ⟨r18, hg19, hf⟩ := bd1_some hf
            refine CM_callS (As := [.long p2.toInt64, .long (1 : Int64), .long (t_book (11 : Int32).toNatClampNeg).toInt64]) (rest := []) (wc := []) (w1 := []) (wr := [(h_t, .inr (8, fX10 h_t_book h_t_images h_t_kept h_t_aside h_t_far h_t_then h_t_row h_t_mays h_t_firstRow h_t_low h_t_high t_noOlder t_thanThis t_known t_knownAge t_moved h_t_lowOne h_t_highOne h_t_ways t_met h_t_left t_hours t_greatest h_t_text t_typed t_at t_start t_token t_value h_t_verbs h_t_nums t_items)), (h_t_book, .inl (cI, 460, .inl t_book))]) (wo := [(h_t, .inr (8, fX10 h_t_book h_t_images h_t_kept h_t_aside h_t_far h_t_then h_t_row h_t_mays h_t_firstRow h_t_low h_t_high t_noOlder t_thanThis t_known t_knownAge t_moved h_t_lowOne h_t_highOne h_t_ways t_met h_t_left t_hours t_greatest h_t_text t_typed t_at t_start t_token t_value h_t_verbs h_t_nums t_items)), (h_t_book, .inl (cI, 460, .inl t_book))]) (v := (some (.int r18))) ⟨hx, hb, hml, hown, hts⟩ (c_X10_in l dC dI cI cZ te (p2.toInt64) (1 : Int64) ((t_book (11 : Int32).toNatClampNeg).toInt64) r18 hg19) (va_cwS 3 hts (gS kw_157 kw_158 kw_159 kw_160) rfl rfl rfl (by decide +kernel) ⟨Nat.le_of_ble_eq_true rfl, Nat.le_of_ble_eq_true rfl⟩) (kS_env te) hK hP hD hS hA hE [] [0, 1] [0, 1] rfl rfl (by decide) (by decide) (by decide) (by decide) rfl rfl hl.1 rfl (Nat.le_of_ble_eq_true rfl) dX10_put_83 ⟨Nat.zero_le _, Nat.zero_le _⟩ (fun H locs hP hD hS => ?_)
            show W p l e rmX10_put s m args below meth c H locs 0 0 Q (F0 m 86 ls [.int r18])
            refine lv_goto (tgt := 118) hx hb dX10_put_86 (by decide) ?_
            obtain rfl := inj1 hf
            exact J2 _ _ hP hD hS _ (lv_sub hl [0, 1, 2] rfl)
        · replace hf := ifp c10 hf
          refine lv_iload_n hx hb dX10_put_55 rfl (lv_at hl 2 rfl) ?_
          refine lv_i2l hx hb dX10_put_56 rfl ?_
          refine lv_lconst (v := (1 : Int64)) hx hb dX10_put_57 (by decide) ?_
          refine lv_ldc2 (v := (9 : Int64)) hx hb hown (hts _ (List.mem_cons_of_mem _ kw_214)) dX10_put_58 ?_
          obtain ⟨r20, hg21, hf⟩ := bd1_some hf
          refine CM_callS (As := [.long p2.toInt64, .long (1 : Int64), .long (9 : Int64)]) (rest := []) (wc := []) (w1 := []) (wr := [(h_t, .inr (8, fX10 h_t_book h_t_images h_t_kept h_t_aside h_t_far h_t_then h_t_row h_t_mays h_t_firstRow h_t_low h_t_high t_noOlder t_thanThis t_known t_knownAge t_moved h_t_lowOne h_t_highOne h_t_ways t_met h_t_left t_hours t_greatest h_t_text t_typed t_at t_start t_token t_value h_t_verbs h_t_nums t_items)), (h_t_book, .inl (cI, 460, .inl t_book))]) (wo := [(h_t, .inr (8, fX10 h_t_book h_t_images h_t_kept h_t_aside h_t_far h_t_then h_t_row h_t_mays h_t_firstRow h_t_low h_t_high t_noOlder t_thanThis t_known t_knownAge t_moved h_t_lowOne h_t_highOne h_t_ways t_met h_t_left t_hours t_greatest h_t_text t_typed t_at t_start t_token t_value h_t_verbs h_t_nums t_items)), (h_t_book, .inl (cI, 460, .inl t_book))]) (v := (some (.int r20))) ⟨hx, hb, hml, hown, hts⟩ (c_X10_in l dC dI cI cZ te (p2.toInt64) (1 : Int64) (9 : Int64) r20 hg21) (va_cwS 3 hts (gS kw_157 kw_158 kw_159 kw_160) rfl rfl rfl (by decide +kernel) ⟨Nat.le_of_ble_eq_true rfl, Nat.le_of_ble_eq_true rfl⟩) (kS_env te) hK hP hD hS hA hE [] [0, 1] [0, 1] rfl rfl (by decide) (by decide) (by decide) (by decide) rfl rfl hl.1 rfl (Nat.le_of_ble_eq_true rfl) dX10_put_61 ⟨Nat.zero_le _, Nat.zero_le _⟩ (fun H locs hP hD hS => ?_)
          show W p l e rmX10_put s m args below meth c H locs 0 0 Q (F0 m 64 ls [.int r20])
          refine lv_goto (tgt := 118) hx hb dX10_put_64 (by decide) ?_
          obtain rfl := inj1 hf
          exact J2 _ _ hP hD hS _ (lv_sub hl [0, 1, 2] rfl)
      · replace hf := ifp c9 hf
        refine lv_iload_n hx hb dX10_put_38 rfl (lv_at hl 2 rfl) ?_
        refine lv_i2l hx hb dX10_put_39 rfl ?_
        refine lv_lconst (v := (1 : Int64)) hx hb dX10_put_40 (by decide) ?_
        refine lv_ldc2 (v := (999 : Int64)) hx hb hown (hts _ (List.mem_cons_of_mem _ kw_215)) dX10_put_41 ?_
        obtain ⟨r22, hg23, hf⟩ := bd1_some hf
        refine CM_callS (As := [.long p2.toInt64, .long (1 : Int64), .long (999 : Int64)]) (rest := []) (wc := []) (w1 := []) (wr := [(h_t, .inr (8, fX10 h_t_book h_t_images h_t_kept h_t_aside h_t_far h_t_then h_t_row h_t_mays h_t_firstRow h_t_low h_t_high t_noOlder t_thanThis t_known t_knownAge t_moved h_t_lowOne h_t_highOne h_t_ways t_met h_t_left t_hours t_greatest h_t_text t_typed t_at t_start t_token t_value h_t_verbs h_t_nums t_items)), (h_t_book, .inl (cI, 460, .inl t_book))]) (wo := [(h_t, .inr (8, fX10 h_t_book h_t_images h_t_kept h_t_aside h_t_far h_t_then h_t_row h_t_mays h_t_firstRow h_t_low h_t_high t_noOlder t_thanThis t_known t_knownAge t_moved h_t_lowOne h_t_highOne h_t_ways t_met h_t_left t_hours t_greatest h_t_text t_typed t_at t_start t_token t_value h_t_verbs h_t_nums t_items)), (h_t_book, .inl (cI, 460, .inl t_book))]) (v := (some (.int r22))) ⟨hx, hb, hml, hown, hts⟩ (c_X10_in l dC dI cI cZ te (p2.toInt64) (1 : Int64) (999 : Int64) r22 hg23) (va_cwS 3 hts (gS kw_157 kw_158 kw_159 kw_160) rfl rfl rfl (by decide +kernel) ⟨Nat.le_of_ble_eq_true rfl, Nat.le_of_ble_eq_true rfl⟩) (kS_env te) hK hP hD hS hA hE [] [0, 1] [0, 1] rfl rfl (by decide) (by decide) (by decide) (by decide) rfl rfl hl.1 rfl (Nat.le_of_ble_eq_true rfl) dX10_put_44 ⟨Nat.zero_le _, Nat.zero_le _⟩ (fun H locs hP hD hS => ?_)
        show W p l e rmX10_put s m args below meth c H locs 0 0 Q (F0 m 47 ls [.int r22])
        refine lv_goto (tgt := 118) hx hb dX10_put_47 (by decide) ?_
        obtain rfl := inj1 hf
        exact J2 _ _ hP hD hS _ (lv_sub hl [0, 1, 2] rfl)
    · replace hf := ifp c8 hf
      refine lv_iload_n hx hb dX10_put_21 rfl (lv_at hl 2 rfl) ?_
      refine lv_i2l hx hb dX10_put_22 rfl ?_
      refine lv_lconst (v := (1 : Int64)) hx hb dX10_put_23 (by decide) ?_
      refine lv_ldc2 (v := (20 : Int64)) hx hb hown (hts _ (List.mem_cons_of_mem _ kw_216)) dX10_put_24 ?_
      obtain ⟨r24, hg25, hf⟩ := bd1_some hf
      refine CM_callS (As := [.long p2.toInt64, .long (1 : Int64), .long (20 : Int64)]) (rest := []) (wc := []) (w1 := []) (wr := [(h_t, .inr (8, fX10 h_t_book h_t_images h_t_kept h_t_aside h_t_far h_t_then h_t_row h_t_mays h_t_firstRow h_t_low h_t_high t_noOlder t_thanThis t_known t_knownAge t_moved h_t_lowOne h_t_highOne h_t_ways t_met h_t_left t_hours t_greatest h_t_text t_typed t_at t_start t_token t_value h_t_verbs h_t_nums t_items)), (h_t_book, .inl (cI, 460, .inl t_book))]) (wo := [(h_t, .inr (8, fX10 h_t_book h_t_images h_t_kept h_t_aside h_t_far h_t_then h_t_row h_t_mays h_t_firstRow h_t_low h_t_high t_noOlder t_thanThis t_known t_knownAge t_moved h_t_lowOne h_t_highOne h_t_ways t_met h_t_left t_hours t_greatest h_t_text t_typed t_at t_start t_token t_value h_t_verbs h_t_nums t_items)), (h_t_book, .inl (cI, 460, .inl t_book))]) (v := (some (.int r24))) ⟨hx, hb, hml, hown, hts⟩ (c_X10_in l dC dI cI cZ te (p2.toInt64) (1 : Int64) (20 : Int64) r24 hg25) (va_cwS 3 hts (gS kw_157 kw_158 kw_159 kw_160) rfl rfl rfl (by decide +kernel) ⟨Nat.le_of_ble_eq_true rfl, Nat.le_of_ble_eq_true rfl⟩) (kS_env te) hK hP hD hS hA hE [] [0, 1] [0, 1] rfl rfl (by decide) (by decide) (by decide) (by decide) rfl rfl hl.1 rfl (Nat.le_of_ble_eq_true rfl) dX10_put_27 ⟨Nat.zero_le _, Nat.zero_le _⟩ (fun H locs hP hD hS => ?_)
      show W p l e rmX10_put s m args below meth c H locs 0 0 Q (F0 m 30 ls [.int r24])
      refine lv_goto (tgt := 118) hx hb dX10_put_30 (by decide) ?_
      obtain rfl := inj1 hf
      exact J2 _ _ hP hD hS _ (lv_sub hl [0, 1, 2] rfl)
  · replace hf := ifp c7 hf
    refine lv_iload_n hx hb dX10_put_4 rfl (lv_at hl 2 rfl) ?_
    refine lv_i2l hx hb dX10_put_5 rfl ?_
    refine lv_lconst (v := (0 : Int64)) hx hb dX10_put_6 (by decide) ?_
    refine lv_ldc2 (v := (7 : Int64)) hx hb hown (hts _ (List.mem_cons_of_mem _ kw_173)) dX10_put_7 ?_
    obtain ⟨r26, hg27, hf⟩ := bd1_some hf
    refine CM_callS (As := [.long p2.toInt64, .long (0 : Int64), .long (7 : Int64)]) (rest := []) (wc := []) (w1 := []) (wr := [(h_t, .inr (8, fX10 h_t_book h_t_images h_t_kept h_t_aside h_t_far h_t_then h_t_row h_t_mays h_t_firstRow h_t_low h_t_high t_noOlder t_thanThis t_known t_knownAge t_moved h_t_lowOne h_t_highOne h_t_ways t_met h_t_left t_hours t_greatest h_t_text t_typed t_at t_start t_token t_value h_t_verbs h_t_nums t_items)), (h_t_book, .inl (cI, 460, .inl t_book))]) (wo := [(h_t, .inr (8, fX10 h_t_book h_t_images h_t_kept h_t_aside h_t_far h_t_then h_t_row h_t_mays h_t_firstRow h_t_low h_t_high t_noOlder t_thanThis t_known t_knownAge t_moved h_t_lowOne h_t_highOne h_t_ways t_met h_t_left t_hours t_greatest h_t_text t_typed t_at t_start t_token t_value h_t_verbs h_t_nums t_items)), (h_t_book, .inl (cI, 460, .inl t_book))]) (v := (some (.int r26))) ⟨hx, hb, hml, hown, hts⟩ (c_X10_in l dC dI cI cZ te (p2.toInt64) (0 : Int64) (7 : Int64) r26 hg27) (va_cwS 3 hts (gS kw_157 kw_158 kw_159 kw_160) rfl rfl rfl (by decide +kernel) ⟨Nat.le_of_ble_eq_true rfl, Nat.le_of_ble_eq_true rfl⟩) (kS_env te) hK hP hD hS hA hE [] [0, 1] [0, 1] rfl rfl (by decide) (by decide) (by decide) (by decide) rfl rfl hl.1 rfl (Nat.le_of_ble_eq_true rfl) dX10_put_10 ⟨Nat.zero_le _, Nat.zero_le _⟩ (fun H locs hP hD hS => ?_)
    show W p l e rmX10_put s m args below meth c H locs 0 0 Q (F0 m 13 ls [.int r26])
    refine lv_goto (tgt := 118) hx hb dX10_put_13 (by decide) ?_
    obtain rfl := inj1 hf
    exact J2 _ _ hP hD hS _ (lv_sub hl [0, 1, 2] rfl)
