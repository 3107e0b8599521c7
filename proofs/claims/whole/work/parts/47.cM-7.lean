def rmX10_isAt : Room := { frames := 1, cells := 0, slots := 0, locals := 25 }
abbrev wqX10_isAt : List Cond := Cond.code yX10_isAt cX10_isAt 3 (some .boolean) :: tG
set_option maxHeartbeats 4000000 in
set_option maxRecDepth 100000 in
theorem c_X10_isAt (l : Launch) (dC : Nat → ClassId) (dI : Nat → Nat → Nat) (cI cZ : ClassId) (te : Nat → Nat) (h_t : Nat) (h_t_book : Nat) (h_t_images : Nat) (h_t_kept : Nat) (h_t_aside : Nat) (h_t_far : Nat) (h_t_then : Nat) (h_t_row : Nat) (h_t_mays : Nat) (h_t_firstRow : Nat) (h_t_low : Nat) (h_t_high : Nat) (h_t_lowOne : Nat) (h_t_highOne : Nat) (h_t_ways : Nat) (h_t_left : Nat) (h_t_text : Nat) (h_t_verbs : Nat) (h_t_nums : Nat) (t_noOlder : Int32) (t_thanThis : Int32) (t_known : Int32) (t_knownAge : Int32) (t_moved : Int32) (t_met : Int32) (t_hours : Int32) (t_greatest : Int32) (t_typed : Int32) (t_at : Int32) (t_start : Int32) (t_token : Int32) (t_value : Int32) (t_items : Int32) (t_text : Nat → Int32) (p1 : Int32) (p2 : Int32) (o0 : Int32) (hf : f_X10_isAt t_typed t_at t_text p1 p2 = some o0) : CM l yX10_isAt wqX10_isAt rmX10_isAt (kS te) dC dI cI cZ [.ref h_t, .int p1, .int p2] [(h_t, .inr (8, fX10 h_t_book h_t_images h_t_kept h_t_aside h_t_far h_t_then h_t_row h_t_mays h_t_firstRow h_t_low h_t_high t_noOlder t_thanThis t_known t_knownAge t_moved h_t_lowOne h_t_highOne h_t_ways t_met h_t_left t_hours t_greatest h_t_text t_typed t_at t_start t_token t_value h_t_verbs h_t_nums t_items)), (h_t_text, .inl (cI, 240, .inl t_text))] [(h_t, .inr (8, fX10 h_t_book h_t_images h_t_kept h_t_aside h_t_far h_t_then h_t_row h_t_mays h_t_firstRow h_t_low h_t_high t_noOlder t_thanThis t_known t_knownAge t_moved h_t_lowOne h_t_highOne h_t_ways t_met h_t_left t_hours t_greatest h_t_text t_typed t_at t_start t_token t_value h_t_verbs h_t_nums t_items)), (h_t_text, .inl (cI, 240, .inl t_text))] (some (.int o0)) := by
  refine CM_of (cc := cX10_isAt) (maxL := 3) (ret := (some .boolean)) (by decide +kernel) rfl (Nat.le_of_ble_eq_true rfl) ?_
  intro p e s m args below meth c A Q hx hb hr hml hown hts hlocks hA hK hP hD hS hE hQ hAe ls hl
  have hown : s.vm.findClass RX10 = some m.cls := hown
  have hl : lv_has ls 3 [(0, .ref h_t), (1, .int p1), (2, .int p2)] := hl
  unfold f_X10_isAt at hf
  refine lv_aload_n hx hb dX10_isAt_0 rfl (lv_at hl 0 rfl) ?_
  refine va_get (D := (dC, dI)) (ci := 8) (v := .int t_at) (C := RX10) (T := TX10) (N := 32) hx hb hts (in1 tw_X10) hown hK hP 0 rfl rfl 25 (by decide) (hts _ (List.mem_cons_of_mem _ kw_325)) (fun _ h9 => h9) rfl dX10_isAt_1 ?_
  refine lv_aload_n hx hb dX10_isAt_4 rfl (lv_at hl 0 rfl) ?_
  refine va_get (D := (dC, dI)) (ci := 8) (v := .int t_typed) (C := RX10) (T := TX10) (N := 32) hx hb hts (in1 tw_X10) hown hK hP 0 rfl rfl 24 (by decide) (hts _ (List.mem_cons_of_mem _ kw_323)) (fun _ h9 => h9) rfl dX10_isAt_5 ?_
  refine lv_icmp_ge (tgt := 35) hx hb dX10_isAt_8 (by decide) (fun c1 => ?_) (fun c1 => ?_)
  · replace hf := ifp c1 hf
    refine lv_iconst (v := (0 : Int32)) hx hb dX10_isAt_35 (by decide) ?_
    obtain rfl := inj1 hf
    subst hQ
    exact CM_iret hx hb hr rfl hlocks hAe hP hD hS dX10_isAt_36
  · replace hf := ifn c1 hf
    refine lv_aload_n hx hb dX10_isAt_11 rfl (lv_at hl 0 rfl) ?_
    refine va_get (D := (dC, dI)) (ci := 8) (v := .ref h_t_text) (C := RX10) (T := TX10) (N := 32) hx hb hts (in1 tw_X10) hown hK hP 0 rfl rfl 23 (by decide) (hts _ (List.mem_cons_of_mem _ kw_132)) (fun _ h9 => h9) rfl dX10_isAt_12 ?_
    refine lv_aload_n hx hb dX10_isAt_15 rfl (lv_at hl 0 rfl) ?_
    refine va_get (D := (dC, dI)) (ci := 8) (v := .int t_at) (C := RX10) (T := TX10) (N := 32) hx hb hts (in1 tw_X10) hown hK hP 0 rfl rfl 25 (by decide) (hts _ (List.mem_cons_of_mem _ kw_325)) (fun _ h9 => h9) rfl dX10_isAt_16 ?_
    obtain ⟨g2, hf⟩ := chk_some hf
    refine va_iald hx hb hK hP 1 0 rfl rfl (gin_in g2) dX10_isAt_19 ?_
    refine lv_i2l hx hb dX10_isAt_20 rfl ?_
    refine lv_iload_n hx hb dX10_isAt_21 rfl (lv_at hl 1 rfl) ?_
    refine lv_i2l hx hb dX10_isAt_22 rfl ?_
    refine lv_iload_n hx hb dX10_isAt_23 rfl (lv_at hl 2 rfl) ?_
    refine lv_i2l hx hb dX10_isAt_24 rfl ?_
    obtain ⟨r3, hg4, hf⟩ := bd1_some hf
    refine CM_callS (As := [.long (t_text t_at.toNatClampNeg).toInt64, .long p1.toInt64, .long p2.toInt64]) (rest := []) (wc := []) (w1 := []) (wr := [(h_t, .inr (8, fX10 h_t_book h_t_images h_t_kept h_t_aside h_t_far h_t_then h_t_row h_t_mays h_t_firstRow h_t_low h_t_high t_noOlder t_thanThis t_known t_knownAge t_moved h_t_lowOne h_t_highOne h_t_ways t_met h_t_left t_hours t_greatest h_t_text t_typed t_at t_start t_token t_value h_t_verbs h_t_nums t_items)), (h_t_text, .inl (cI, 240, .inl t_text))]) (wo := [(h_t, .inr (8, fX10 h_t_book h_t_images h_t_kept h_t_aside h_t_far h_t_then h_t_row h_t_mays h_t_firstRow h_t_low h_t_high t_noOlder t_thanThis t_known t_knownAge t_moved h_t_lowOne h_t_highOne h_t_ways t_met h_t_left t_hours t_greatest h_t_text t_typed t_at t_start t_token t_value h_t_verbs h_t_nums t_items)), (h_t_text, .inl (cI, 240, .inl t_text))]) (v := (some (.int r3))) ⟨hx, hb, hml, hown, hts⟩ (c_X10_in l dC dI cI cZ te ((t_text t_at.toNatClampNeg).toInt64) (p1.toInt64) (p2.toInt64) r3 hg4) (va_cwS 3 hts (gS kw_157 kw_158 kw_159 kw_160) rfl rfl rfl (by decide +kernel) ⟨Nat.le_of_ble_eq_true rfl, Nat.le_of_ble_eq_true rfl⟩) (kS_env te) hK hP hD hS hA hE [] [0, 1] [0, 1] rfl rfl (by decide) (by decide) (by decide) (by decide) rfl rfl hl.1 rfl (Nat.le_of_ble_eq_true rfl) dX10_isAt_25 ⟨Nat.zero_le _, Nat.zero_le _⟩ (fun H locs hP hD hS => ?_)
    show W p l e rmX10_isAt s m args below meth c H locs 0 0 Q (F0 m 28 ls [.int r3])
    refine lv_if_eq (tgt := 35) hx hb dX10_isAt_28 (by decide) (fun c5 => ?_) (fun c5 => ?_)
    · replace hf := ifp c5 hf
      refine lv_iconst (v := (0 : Int32)) hx hb dX10_isAt_35 (by decide) ?_
      obtain rfl := inj1 hf
      subst hQ
      exact CM_iret hx hb hr rfl hlocks hAe hP hD hS dX10_isAt_36
    · replace hf := ifn c5 hf
      refine lv_iconst (v := (1 : Int32)) hx hb dX10_isAt_31 (by decide) ?_
      refine lv_goto (tgt := 36) hx hb dX10_isAt_32 (by decide) ?_
      obtain rfl := inj1 hf
      subst hQ
      exact CM_iret hx hb hr rfl hlocks hAe hP hD hS dX10_isAt_36
def rmX10_wordOf : Room := { frames := 0, cells := 0, slots := 0, locals := 0 }
abbrev wqX10_wordOf : List Cond := Cond.code yX10_wordOf cX10_wordOf 4 (some .int) :: tG
set_option maxHeartbeats 4000000 in
set_option maxRecDepth 100000 in
theorem c_X10_wordOf (l : Launch) (dC : Nat → ClassId) (dI : Nat → Nat → Nat) (cI cZ : ClassId) (te : Nat → Nat) (p1 : Int64) (o0 : Int32) (hf : f_X10_wordOf p1 = some o0) : CM l yX10_wordOf wqX10_wordOf rmX10_wordOf (kS te) dC dI cI cZ [.long p1] [] [] (some (.int o0)) := by
  refine CM_of (cc := cX10_wordOf) (maxL := 4) (ret := (some .int)) (by decide +kernel) rfl (Nat.le_of_ble_eq_true rfl) ?_
  intro p e s m args below meth c A Q hx hb hr hml hown hts hlocks hA hK hP hD hS hE hQ hAe ls hl
  have hown : s.vm.findClass RX10 = some m.cls := hown
  have hl : lv_has ls 4 [(0, .long p1)] := hl
  unfold f_X10_wordOf at hf
  refine lv_lload_n hx hb dX10_wordOf_0 rfl (lv_at hl 0 rfl) ?_
  refine lv_ldc2 (v := (3548358 : Int64)) hx hb hown (hts _ (List.mem_cons_of_mem _ kw_326)) dX10_wordOf_1 ?_
  refine W.lcmp hx hb dX10_wordOf_4 ?_
  obtain ⟨x1, hg, hf⟩ := bd1_some hf
  have J2 : ∀ (H : Heap) (locs : List Loc), va_P (dC, dI) vwCl [] H → va_D A [] → va_S A s.heap H locs → ∀ ls : Array Slot, lv_has ls 4 [(0, .long p1)] → W p l e rmX10_wordOf s m args below meth c H locs 0 0 Q (F0 m 79 ls [.int x1]) := by
    intro H locs hP hD hS ls hl
    refine lv_istore_n (lv' := [(2, .int x1), (0, .long p1)]) hx hb dX10_wordOf_79 rfl hl (by decide) rfl (fun ls hl => ?_)
    refine lv_lload_n hx hb dX10_wordOf_80 rfl (lv_at hl 1 rfl) ?_
    refine lv_ldc2 (v := (412197038 : Int64)) hx hb hown (hts _ (List.mem_cons_of_mem _ kw_332)) dX10_wordOf_81 ?_
    refine W.lcmp hx hb dX10_wordOf_84 ?_
    obtain ⟨x3, hg, hf⟩ := bd1_some hf
    have J4 : ∀ (H : Heap) (locs : List Loc), va_P (dC, dI) vwCl [] H → va_D A [] → va_S A s.heap H locs → ∀ ls : Array Slot, lv_has ls 4 [(2, .int x1)] → W p l e rmX10_wordOf s m args below meth c H locs 0 0 Q (F0 m 159 ls [.int x3]) := by
      intro H locs hP hD hS ls hl
      refine lv_istore_n (lv' := [(3, .int x3), (2, .int x1)]) hx hb dX10_wordOf_159 rfl hl (by decide) rfl (fun ls hl => ?_)
      refine lv_iload_n hx hb dX10_wordOf_160 rfl (lv_at hl 1 rfl) ?_
      refine lv_iconst (v := (1 : Int32)) hx hb dX10_wordOf_161 (by decide) ?_
      refine lv_icmp_eq (tgt := 169) hx hb dX10_wordOf_162 (by decide) (fun c5 => ?_) (fun c5 => ?_)
      · replace hf := ifp c5 hf
        refine lv_iload_n hx hb dX10_wordOf_169 rfl (lv_at hl 0 rfl) ?_
        obtain rfl := inj1 hf
        subst hQ
        exact CM_iret hx hb hr rfl hlocks hAe hP hD hS dX10_wordOf_170
      · replace hf := ifn c5 hf
        refine lv_iload_n hx hb dX10_wordOf_165 rfl (lv_at hl 1 rfl) ?_
        refine lv_goto (tgt := 170) hx hb dX10_wordOf_166 (by decide) ?_
        obtain rfl := inj1 hf
        subst hQ
        exact CM_iret hx hb hr rfl hlocks hAe hP hD hS dX10_wordOf_170
    clear hf
    have hf := hg
    refine lv_if_ne (tgt := 93) hx hb dX10_wordOf_85 (by decide) (fun c6 => ?_) (fun c6 => ?_)
    · replace hf := ifn c6 hf
      refine lv_lload_n hx hb dX10_wordOf_93 rfl (lv_at hl 1 rfl) ?_
      refine lv_ldc2 (v := (206276 : Int64)) hx hb hown (hts _ (List.mem_cons_of_mem _ kw_333)) dX10_wordOf_94 ?_
      refine W.lcmp hx hb dX10_wordOf_97 ?_
      refine lv_if_ne (tgt := 106) hx hb dX10_wordOf_98 (by decide) (fun c7 => ?_) (fun c7 => ?_)
      · replace hf := ifn c7 hf
        refine lv_lload_n hx hb dX10_wordOf_106 rfl (lv_at hl 1 rfl) ?_
        refine lv_ldc2 (v := (13360 : Int64)) hx hb hown (hts _ (List.mem_cons_of_mem _ kw_334)) dX10_wordOf_107 ?_
        refine W.lcmp hx hb dX10_wordOf_110 ?_
        refine lv_if_ne (tgt := 119) hx hb dX10_wordOf_111 (by decide) (fun c8 => ?_) (fun c8 => ?_)
        · replace hf := ifn c8 hf
          refine lv_lload_n hx hb dX10_wordOf_119 rfl (lv_at hl 1 rfl) ?_
          refine lv_ldc2 (v := (52 : Int64)) hx hb hown (hts _ (List.mem_cons_of_mem _ kw_335)) dX10_wordOf_120 ?_
          refine W.lcmp hx hb dX10_wordOf_123 ?_
          refine lv_if_ne (tgt := 132) hx hb dX10_wordOf_124 (by decide) (fun c9 => ?_) (fun c9 => ?_)
          · replace hf := ifn c9 hf
            refine lv_lload_n hx hb dX10_wordOf_132 rfl (lv_at hl 1 rfl) ?_
            refine lv_ldc2 (v := (215205 : Int64)) hx hb hown (hts _ (List.mem_cons_of_mem _ kw_336)) dX10_wordOf_133 ?_
            refine W.lcmp hx hb dX10_wordOf_136 ?_
            refine lv_if_ne (tgt := 145) hx hb dX10_wordOf_137 (by decide) (fun c10 => ?_) (fun c10 => ?_)
            · replace hf := ifn c10 hf
              refine lv_lload_n hx hb dX10_wordOf_145 rfl (lv_at hl 1 rfl) ?_
              refine lv_ldc2 (v := (9317 : Int64)) hx hb hown (hts _ (List.mem_cons_of_mem _ kw_337)) dX10_wordOf_146 ?_
              refine W.lcmp hx hb dX10_wordOf_149 ?_
              refine lv_if_ne (tgt := 158) hx hb dX10_wordOf_150 (by decide) (fun c11 => ?_) (fun c11 => ?_)
              · replace hf := ifn c11 hf
                refine lv_iconst (v := (1 : Int32)) hx hb dX10_wordOf_158 (by decide) ?_
                obtain rfl := inj1 hf
                exact J4 _ _ hP hD hS _ (lv_sub hl [0] rfl)
              · replace hf := ifp c11 hf
                refine lv_bipush (v := (21 : Int32)) hx hb dX10_wordOf_153 (by decide) ?_
                refine lv_goto (tgt := 159) hx hb dX10_wordOf_155 (by decide) ?_
                obtain rfl := inj1 hf
                exact J4 _ _ hP hD hS _ (lv_sub hl [0] rfl)
            · replace hf := ifp c10 hf
              refine lv_bipush (v := (20 : Int32)) hx hb dX10_wordOf_140 (by decide) ?_
              refine lv_goto (tgt := 159) hx hb dX10_wordOf_142 (by decide) ?_
              obtain rfl := inj1 hf
              exact J4 _ _ hP hD hS _ (lv_sub hl [0] rfl)
          · replace hf := ifp c9 hf
            refine lv_bipush (v := (19 : Int32)) hx hb dX10_wordOf_127 (by decide) ?_
            refine lv_goto (tgt := 159) hx hb dX10_wordOf_129 (by decide) ?_
            obtain rfl := inj1 hf
            exact J4 _ _ hP hD hS _ (lv_sub hl [0] rfl)
        · replace hf := ifp c8 hf
          refine lv_bipush (v := (18 : Int32)) hx hb dX10_wordOf_114 (by decide) ?_
          refine lv_goto (tgt := 159) hx hb dX10_wordOf_116 (by decide) ?_
          obtain rfl := inj1 hf
          exact J4 _ _ hP hD hS _ (lv_sub hl [0] rfl)
      · replace hf := ifp c7 hf
        refine lv_bipush (v := (17 : Int32)) hx hb dX10_wordOf_101 (by decide) ?_
        refine lv_goto (tgt := 159) hx hb dX10_wordOf_103 (by decide) ?_
        obtain rfl := inj1 hf
        exact J4 _ _ hP hD hS _ (lv_sub hl [0] rfl)
    · replace hf := ifp c6 hf
      refine lv_bipush (v := (16 : Int32)) hx hb dX10_wordOf_88 (by decide) ?_
      refine lv_goto (tgt := 159) hx hb dX10_wordOf_90 (by decide) ?_
      obtain rfl := inj1 hf
      exact J4 _ _ hP hD hS _ (lv_sub hl [0] rfl)
  clear hf
  have hf := hg
  refine lv_if_ne (tgt := 13) hx hb dX10_wordOf_5 (by decide) (fun c12 => ?_) (fun c12 => ?_)
  · replace hf := ifn c12 hf
    refine lv_lload_n hx hb dX10_wordOf_13 rfl (lv_at hl 0 rfl) ?_
    refine lv_ldc2 (v := (2673217714 : Int64)) hx hb hown (hts _ (List.mem_cons_of_mem _ kw_327)) dX10_wordOf_14 ?_
    refine W.lcmp hx hb dX10_wordOf_17 ?_
    refine lv_if_ne (tgt := 26) hx hb dX10_wordOf_18 (by decide) (fun c13 => ?_) (fun c13 => ?_)
    · replace hf := ifn c13 hf
      refine lv_lload_n hx hb dX10_wordOf_26 rfl (lv_at hl 0 rfl) ?_
      refine lv_ldc2 (v := (20520685672 : Int64)) hx hb hown (hts _ (List.mem_cons_of_mem _ kw_328)) dX10_wordOf_27 ?_
      refine W.lcmp hx hb dX10_wordOf_30 ?_
      refine lv_if_ne (tgt := 39) hx hb dX10_wordOf_31 (by decide) (fun c14 => ?_) (fun c14 => ?_)
      · replace hf := ifn c14 hf
        refine lv_lload_n hx hb dX10_wordOf_39 rfl (lv_at hl 0 rfl) ?_
        refine lv_ldc2 (v := (19173605 : Int64)) hx hb hown (hts _ (List.mem_cons_of_mem _ kw_329)) dX10_wordOf_40 ?_
        refine W.lcmp hx hb dX10_wordOf_43 ?_
        refine lv_if_ne (tgt := 52) hx hb dX10_wordOf_44 (by decide) (fun c15 => ?_) (fun c15 => ?_)
        · replace hf := ifn c15 hf
          refine lv_lload_n hx hb dX10_wordOf_52 rfl (lv_at hl 0 rfl) ?_
          refine lv_ldc2 (v := (120467 : Int64)) hx hb hown (hts _ (List.mem_cons_of_mem _ kw_330)) dX10_wordOf_53 ?_
          refine W.lcmp hx hb dX10_wordOf_56 ?_
          refine lv_if_ne (tgt := 65) hx hb dX10_wordOf_57 (by decide) (fun c16 => ?_) (fun c16 => ?_)
          · replace hf := ifn c16 hf
            refine lv_lload_n hx hb dX10_wordOf_65 rfl (lv_at hl 0 rfl) ?_
            refine lv_ldc2 (v := (769508 : Int64)) hx hb hown (hts _ (List.mem_cons_of_mem _ kw_331)) dX10_wordOf_66 ?_
            refine W.lcmp hx hb dX10_wordOf_69 ?_
            refine lv_if_ne (tgt := 78) hx hb dX10_wordOf_70 (by decide) (fun c17 => ?_) (fun c17 => ?_)
            · replace hf := ifn c17 hf
              refine lv_iconst (v := (1 : Int32)) hx hb dX10_wordOf_78 (by decide) ?_
              obtain rfl := inj1 hf
              exact J2 _ _ hP hD hS _ (lv_sub hl [0] rfl)
            · replace hf := ifp c17 hf
              refine lv_bipush (v := (15 : Int32)) hx hb dX10_wordOf_73 (by decide) ?_
              refine lv_goto (tgt := 79) hx hb dX10_wordOf_75 (by decide) ?_
              obtain rfl := inj1 hf
              exact J2 _ _ hP hD hS _ (lv_sub hl [0] rfl)
          · replace hf := ifp c16 hf
            refine lv_bipush (v := (14 : Int32)) hx hb dX10_wordOf_60 (by decide) ?_
            refine lv_goto (tgt := 79) hx hb dX10_wordOf_62 (by decide) ?_
            obtain rfl := inj1 hf
            exact J2 _ _ hP hD hS _ (lv_sub hl [0] rfl)
        · replace hf := ifp c15 hf
          refine lv_bipush (v := (13 : Int32)) hx hb dX10_wordOf_47 (by decide) ?_
          refine lv_goto (tgt := 79) hx hb dX10_wordOf_49 (by decide) ?_
          obtain rfl := inj1 hf
          exact J2 _ _ hP hD hS _ (lv_sub hl [0] rfl)
      · replace hf := ifp c14 hf
        refine lv_bipush (v := (12 : Int32)) hx hb dX10_wordOf_34 (by decide) ?_
        refine lv_goto (tgt := 79) hx hb dX10_wordOf_36 (by decide) ?_
        obtain rfl := inj1 hf
        exact J2 _ _ hP hD hS _ (lv_sub hl [0] rfl)
    · replace hf := ifp c13 hf
      refine lv_bipush (v := (11 : Int32)) hx hb dX10_wordOf_21 (by decide) ?_
      refine lv_goto (tgt := 79) hx hb dX10_wordOf_23 (by decide) ?_
      obtain rfl := inj1 hf
      exact J2 _ _ hP hD hS _ (lv_sub hl [0] rfl)
  · replace hf := ifp c12 hf
    refine lv_bipush (v := (10 : Int32)) hx hb dX10_wordOf_8 (by decide) ?_
    refine lv_goto (tgt := 79) hx hb dX10_wordOf_10 (by decide) ?_
    obtain rfl := inj1 hf
    exact J2 _ _ hP hD hS _ (lv_sub hl [0] rfl)
def rmX10_scans : Room := { frames := 2, cells := 0, slots := 0, locals := 47 }
abbrev wqX10_scans : List Cond := Cond.code yX10_scans cX10_scans 3 none :: tG
set_option maxHeartbeats 4000000 in
set_option maxRecDepth 100000 in
theorem c_X10_scans (l : Launch) (dC : Nat → ClassId) (dI : Nat → Nat → Nat) (cI cZ : ClassId) (te : Nat → Nat) (h_t : Nat) (h_t_book : Nat) (h_t_images : Nat) (h_t_kept : Nat) (h_t_aside : Nat) (h_t_far : Nat) (h_t_then : Nat) (h_t_row : Nat) (h_t_mays : Nat) (h_t_firstRow : Nat) (h_t_low : Nat) (h_t_high : Nat) (h_t_lowOne : Nat) (h_t_highOne : Nat) (h_t_ways : Nat) (h_t_left : Nat) (h_t_text : Nat) (h_t_verbs : Nat) (h_t_nums : Nat) (t_noOlder : Int32) (t_thanThis : Int32) (t_known : Int32) (t_knownAge : Int32) (t_moved : Int32) (t_met : Int32) (t_hours : Int32) (t_greatest : Int32) (t_typed : Int32) (t_at : Int32) (t_start : Int32) (t_token : Int32) (t_value : Int32) (t_items : Int32) (t_text : Nat → Int32) (o0 : Int32) (o1 : Int32) (o2 : Int32) (o3 : Int32) (hf : f_X10_scans t_typed t_at t_value t_text = some (o0, o1, o2, o3)) : CM l yX10_scans wqX10_scans rmX10_scans (kS te) dC dI cI cZ [.ref h_t] [(h_t, .inr (8, fX10 h_t_book h_t_images h_t_kept h_t_aside h_t_far h_t_then h_t_row h_t_mays h_t_firstRow h_t_low h_t_high t_noOlder t_thanThis t_known t_knownAge t_moved h_t_lowOne h_t_highOne h_t_ways t_met h_t_left t_hours t_greatest h_t_text t_typed t_at t_start t_token t_value h_t_verbs h_t_nums t_items)), (h_t_text, .inl (cI, 240, .inl t_text))] [(h_t, .inr (8, fX10 h_t_book h_t_images h_t_kept h_t_aside h_t_far h_t_then h_t_row h_t_mays h_t_firstRow h_t_low h_t_high t_noOlder t_thanThis t_known t_knownAge t_moved h_t_lowOne h_t_highOne h_t_ways t_met h_t_left t_hours t_greatest h_t_text t_typed o0 o1 o2 o3 h_t_verbs h_t_nums t_items)), (h_t_text, .inl (cI, 240, .inl t_text))] none := by
  refine CM_of (cc := cX10_scans) (maxL := 3) (ret := none) (by decide +kernel) rfl (Nat.le_of_ble_eq_true rfl) ?_
  intro p e s m args below meth c A Q hx hb hr hml hown hts hlocks hA hK hP hD hS hE hQ hAe ls hl
  have hown : s.vm.findClass RX10 = some m.cls := hown
  have hl : lv_has ls 3 [(0, .ref h_t)] := hl
  unfold f_X10_scans at hf
  have L17 : ∀ (fu10 : Nat) (x8 : Int32) (x7 : Int32), f_X10_scans_L1 t_typed t_text fu10 x8 = some x7 → (∀ (H : Heap) (locs : List Loc), va_P (dC, dI) vwCl [(h_t, .inr (8, fX10 h_t_book h_t_images h_t_kept h_t_aside h_t_far h_t_then h_t_row h_t_mays h_t_firstRow h_t_low h_t_high t_noOlder t_thanThis t_known t_knownAge t_moved h_t_lowOne h_t_highOne h_t_ways t_met h_t_left t_hours t_greatest h_t_text t_typed x7 t_start t_token t_value h_t_verbs h_t_nums t_items)), (h_t_text, .inl (cI, 240, .inl t_text))] H → va_D A [(h_t, .inr (8, fX10 h_t_book h_t_images h_t_kept h_t_aside h_t_far h_t_then h_t_row h_t_mays h_t_firstRow h_t_low h_t_high t_noOlder t_thanThis t_known t_knownAge t_moved h_t_lowOne h_t_highOne h_t_ways t_met h_t_left t_hours t_greatest h_t_text t_typed x7 t_start t_token t_value h_t_verbs h_t_nums t_items)), (h_t_text, .inl (cI, 240, .inl t_text))] → va_S A s.heap H locs → ∀ ls : Array Slot, lv_has ls 3 [(0, .ref h_t)] → W p l e rmX10_scans s m args below meth c H locs 0 0 Q (F0 m 24 ls [])) → ∀ (H : Heap) (locs : List Loc), va_P (dC, dI) vwCl [(h_t, .inr (8, fX10 h_t_book h_t_images h_t_kept h_t_aside h_t_far h_t_then h_t_row h_t_mays h_t_firstRow h_t_low h_t_high t_noOlder t_thanThis t_known t_knownAge t_moved h_t_lowOne h_t_highOne h_t_ways t_met h_t_left t_hours t_greatest h_t_text t_typed x8 t_start t_token t_value h_t_verbs h_t_nums t_items)), (h_t_text, .inl (cI, 240, .inl t_text))] H → va_D A [(h_t, .inr (8, fX10 h_t_book h_t_images h_t_kept h_t_aside h_t_far h_t_then h_t_row h_t_mays h_t_firstRow h_t_low h_t_high t_noOlder t_thanThis t_known t_knownAge t_moved h_t_lowOne h_t_highOne h_t_ways t_met h_t_left t_hours t_greatest h_t_text t_typed x8 t_start t_token t_value h_t_verbs h_t_nums t_items)), (h_t_text, .inl (cI, 240, .inl t_text))] → va_S A s.heap H locs → ∀ ls : Array Slot, lv_has ls 3 [(0, .ref h_t)] → W p l e rmX10_scans s m args below meth c H locs 0 0 Q (F0 m 0 ls []) := by
    intro fu10
    induction fu10 with
    | zero =>
      intro x8 x7 hf
      unfold f_X10_scans_L1 at hf
      exact none_ne hf
    | succ fu10 ih9 =>
      intro x8 x7 hf hX11 H locs hP hD hS ls hl
      unfold f_X10_scans_L1 at hf
      refine lv_aload_n hx hb dX10_scans_0 rfl (lv_at hl 0 rfl) ?_
      refine lv_bipush (v := (32 : Int32)) hx hb dX10_scans_1 (by decide) ?_
      refine lv_bipush (v := (32 : Int32)) hx hb dX10_scans_3 (by decide) ?_
      obtain ⟨r12, hg13, hf⟩ := bd1_some hf
      refine CM_callV (C := RX10) (As := [.int (32 : Int32), .int (32 : Int32)]) (rest := []) (wc := [(h_t, .inr (8, fX10 h_t_book h_t_images h_t_kept h_t_aside h_t_far h_t_then h_t_row h_t_mays h_t_firstRow h_t_low h_t_high t_noOlder t_thanThis t_known t_knownAge t_moved h_t_lowOne h_t_highOne h_t_ways t_met h_t_left t_hours t_greatest h_t_text t_typed x8 t_start t_token t_value h_t_verbs h_t_nums t_items)), (h_t_text, .inl (cI, 240, .inl t_text))]) (w1 := [(h_t, .inr (8, fX10 h_t_book h_t_images h_t_kept h_t_aside h_t_far h_t_then h_t_row h_t_mays h_t_firstRow h_t_low h_t_high t_noOlder t_thanThis t_known t_knownAge t_moved h_t_lowOne h_t_highOne h_t_ways t_met h_t_left t_hours t_greatest h_t_text t_typed x8 t_start t_token t_value h_t_verbs h_t_nums t_items)), (h_t_text, .inl (cI, 240, .inl t_text))]) (wr := []) (wo := [(h_t, .inr (8, fX10 h_t_book h_t_images h_t_kept h_t_aside h_t_far h_t_then h_t_row h_t_mays h_t_firstRow h_t_low h_t_high t_noOlder t_thanThis t_known t_knownAge t_moved h_t_lowOne h_t_highOne h_t_ways t_met h_t_left t_hours t_greatest h_t_text t_typed x8 t_start t_token t_value h_t_verbs h_t_nums t_items)), (h_t_text, .inl (cI, 240, .inl t_text))]) (v := (some (.int r12))) ⟨hx, hb, hml, hown, hts⟩ (c_X10_isAt l dC dI cI cZ te h_t h_t_book h_t_images h_t_kept h_t_aside h_t_far h_t_then h_t_row h_t_mays h_t_firstRow h_t_low h_t_high h_t_lowOne h_t_highOne h_t_ways h_t_left h_t_text h_t_verbs h_t_nums t_noOlder t_thanThis t_known t_knownAge t_moved t_met t_hours t_greatest t_typed x8 t_start t_token t_value t_items t_text (32 : Int32) (32 : Int32) r12 hg13) (cwV 2 hts (gV kw_338 kw_339 kw_340 kw_159 kw_341) rfl rfl rfl (by decide +kernel) ⟨Nat.le_of_ble_eq_true rfl, Nat.le_of_ble_eq_true rfl⟩) (kS_env te) hK hP hD hS hA hE [0, 1] [] [0, 1] rfl rfl (by decide) (by decide) (by decide) (by decide) rfl 0 8 rfl rfl rfl rfl hl.1 rfl (Nat.le_of_ble_eq_true rfl) dX10_scans_5 ⟨Nat.zero_le _, Nat.zero_le _⟩ (fun H locs hP hD hS => ?_)
      show W p l e rmX10_scans s m args below meth c H locs 0 0 Q (F0 m 8 ls [.int r12])
      refine lv_if_eq (tgt := 24) hx hb dX10_scans_8 (by decide) (fun c14 => ?_) (fun c14 => ?_)
      · replace hf := ifp c14 hf
        obtain rfl := inj1 hf
        exact hX11 _ _ hP hD hS _ (lv_sub hl [0] rfl)
      · replace hf := ifn c14 hf
        refine lv_aload_n hx hb dX10_scans_11 rfl (lv_at hl 0 rfl) ?_
        refine lv_dup hx hb dX10_scans_12 rfl ?_
        refine va_get (D := (dC, dI)) (ci := 8) (v := .int x8) (C := RX10) (T := TX10) (N := 32) hx hb hts (in1 tw_X10) hown hK hP 0 rfl rfl 25 (by decide) (hts _ (List.mem_cons_of_mem _ kw_325)) (fun _ h9 => h9) rfl dX10_scans_13 ?_
        refine lv_iconst (v := (1 : Int32)) hx hb dX10_scans_16 (by decide) ?_
        refine lv_iadd hx hb dX10_scans_17 ?_
        obtain ⟨x15, e16, hf⟩ := nm_some hf
        refine lv_tope e16 ?_
        refine va_put (D := (dC, dI)) (ci := 8) (v := .int x15) (ty := tyX10 25) (C := RX10) (T := TX10) (N := 32) hx hb hts (in1 tw_X10) tyX10 tyX10_ok nmX10 hown hK hP hD hS 0 rfl rfl 25 (by decide) (hts _ (List.mem_cons_of_mem _ kw_325)) (fun _ h9 => h9) rfl (tyX10_ok 25 (by decide)) rfl rfl (Nat.le_of_ble_eq_true rfl) dX10_scans_18 (fun H locs hP hD hS => ?_)
        have hP : va_P (dC, dI) vwCl [(h_t, .inr (8, fX10 h_t_book h_t_images h_t_kept h_t_aside h_t_far h_t_then h_t_row h_t_mays h_t_firstRow h_t_low h_t_high t_noOlder t_thanThis t_known t_knownAge t_moved h_t_lowOne h_t_highOne h_t_ways t_met h_t_left t_hours t_greatest h_t_text t_typed x15 t_start t_token t_value h_t_verbs h_t_nums t_items)), (h_t_text, .inl (cI, 240, .inl t_text))] H := hP
        have hD : va_D A [(h_t, .inr (8, fX10 h_t_book h_t_images h_t_kept h_t_aside h_t_far h_t_then h_t_row h_t_mays h_t_firstRow h_t_low h_t_high t_noOlder t_thanThis t_known t_knownAge t_moved h_t_lowOne h_t_highOne h_t_ways t_met h_t_left t_hours t_greatest h_t_text t_typed x15 t_start t_token t_value h_t_verbs h_t_nums t_items)), (h_t_text, .inl (cI, 240, .inl t_text))] := hD
        refine lv_goto (tgt := 0) hx hb dX10_scans_21 (by decide) ?_
        exact ih9 _ _ hf hX11 _ _ hP hD hS _ (lv_sub hl [0] rfl)
  obtain ⟨x7, hg, hf⟩ := bd1_some hf
  refine L17 FU _ _ hg ?_ _ _ hP hD hS _ (lv_sub hl [0] rfl)
  · intro H locs hP hD hS ls hl
    refine lv_aload_n hx hb dX10_scans_24 rfl (lv_at hl 0 rfl) ?_
    refine lv_aload_n hx hb dX10_scans_25 rfl (lv_at hl 0 rfl) ?_
    refine va_get (D := (dC, dI)) (ci := 8) (v := .int x7) (C := RX10) (T := TX10) (N := 32) hx hb hts (in1 tw_X10) hown hK hP 0 rfl rfl 25 (by decide) (hts _ (List.mem_cons_of_mem _ kw_325)) (fun _ h9 => h9) rfl dX10_scans_26 ?_
    refine va_put (D := (dC, dI)) (ci := 8) (v := .int x7) (ty := tyX10 26) (C := RX10) (T := TX10) (N := 32) hx hb hts (in1 tw_X10) tyX10 tyX10_ok nmX10 hown hK hP hD hS 0 rfl rfl 26 (by decide) (hts _ (List.mem_cons_of_mem _ kw_342)) (fun _ h9 => h9) rfl (tyX10_ok 26 (by decide)) rfl rfl (Nat.le_of_ble_eq_true rfl) dX10_scans_29 (fun H locs hP hD hS => ?_)
    have hP : va_P (dC, dI) vwCl [(h_t, .inr (8, fX10 h_t_book h_t_images h_t_kept h_t_aside h_t_far h_t_then h_t_row h_t_mays h_t_firstRow h_t_low h_t_high t_noOlder t_thanThis t_known t_knownAge t_moved h_t_lowOne h_t_highOne h_t_ways t_met h_t_left t_hours t_greatest h_t_text t_typed x7 x7 t_token t_value h_t_verbs h_t_nums t_items)), (h_t_text, .inl (cI, 240, .inl t_text))] H := hP
    have hD : va_D A [(h_t, .inr (8, fX10 h_t_book h_t_images h_t_kept h_t_aside h_t_far h_t_then h_t_row h_t_mays h_t_firstRow h_t_low h_t_high t_noOlder t_thanThis t_known t_knownAge t_moved h_t_lowOne h_t_highOne h_t_ways t_met h_t_left t_hours t_greatest h_t_text t_typed x7 x7 t_token t_value h_t_verbs h_t_nums t_items)), (h_t_text, .inl (cI, 240, .inl t_text))] := hD
    refine lv_aload_n hx hb dX10_scans_32 rfl (lv_at hl 0 rfl) ?_
    refine va_get (D := (dC, dI)) (ci := 8) (v := .int x7) (C := RX10) (T := TX10) (N := 32) hx hb hts (in1 tw_X10) hown hK hP 0 rfl rfl 25 (by decide) (hts _ (List.mem_cons_of_mem _ kw_325)) (fun _ h9 => h9) rfl dX10_scans_33 ?_
    refine lv_aload_n hx hb dX10_scans_36 rfl (lv_at hl 0 rfl) ?_
    refine va_get (D := (dC, dI)) (ci := 8) (v := .int t_typed) (C := RX10) (T := TX10) (N := 32) hx hb hts (in1 tw_X10) hown hK hP 0 rfl rfl 24 (by decide) (hts _ (List.mem_cons_of_mem _ kw_323)) (fun _ h9 => h9) rfl dX10_scans_37 ?_
    refine lv_icmp_ne (tgt := 49) hx hb dX10_scans_40 (by decide) (fun c18 => ?_) (fun c18 => ?_)
    · replace hf := ifn c18 hf
      refine lv_aload_n hx hb dX10_scans_49 rfl (lv_at hl 0 rfl) ?_
      refine lv_bipush (v := (97 : Int32)) hx hb dX10_scans_50 (by decide) ?_
      refine lv_bipush (v := (122 : Int32)) hx hb dX10_scans_52 (by decide) ?_
      obtain ⟨r19, hg20, hf⟩ := bd1_some hf
      refine CM_callV (C := RX10) (As := [.int (97 : Int32), .int (122 : Int32)]) (rest := []) (wc := [(h_t, .inr (8, fX10 h_t_book h_t_images h_t_kept h_t_aside h_t_far h_t_then h_t_row h_t_mays h_t_firstRow h_t_low h_t_high t_noOlder t_thanThis t_known t_knownAge t_moved h_t_lowOne h_t_highOne h_t_ways t_met h_t_left t_hours t_greatest h_t_text t_typed x7 x7 t_token t_value h_t_verbs h_t_nums t_items)), (h_t_text, .inl (cI, 240, .inl t_text))]) (w1 := [(h_t, .inr (8, fX10 h_t_book h_t_images h_t_kept h_t_aside h_t_far h_t_then h_t_row h_t_mays h_t_firstRow h_t_low h_t_high t_noOlder t_thanThis t_known t_knownAge t_moved h_t_lowOne h_t_highOne h_t_ways t_met h_t_left t_hours t_greatest h_t_text t_typed x7 x7 t_token t_value h_t_verbs h_t_nums t_items)), (h_t_text, .inl (cI, 240, .inl t_text))]) (wr := []) (wo := [(h_t, .inr (8, fX10 h_t_book h_t_images h_t_kept h_t_aside h_t_far h_t_then h_t_row h_t_mays h_t_firstRow h_t_low h_t_high t_noOlder t_thanThis t_known t_knownAge t_moved h_t_lowOne h_t_highOne h_t_ways t_met h_t_left t_hours t_greatest h_t_text t_typed x7 x7 t_token t_value h_t_verbs h_t_nums t_items)), (h_t_text, .inl (cI, 240, .inl t_text))]) (v := (some (.int r19))) ⟨hx, hb, hml, hown, hts⟩ (c_X10_isAt l dC dI cI cZ te h_t h_t_book h_t_images h_t_kept h_t_aside h_t_far h_t_then h_t_row h_t_mays h_t_firstRow h_t_low h_t_high h_t_lowOne h_t_highOne h_t_ways h_t_left h_t_text h_t_verbs h_t_nums t_noOlder t_thanThis t_known t_knownAge t_moved t_met t_hours t_greatest t_typed x7 x7 t_token t_value t_items t_text (97 : Int32) (122 : Int32) r19 hg20) (cwV 2 hts (gV kw_338 kw_339 kw_340 kw_159 kw_341) rfl rfl rfl (by decide +kernel) ⟨Nat.le_of_ble_eq_true rfl, Nat.le_of_ble_eq_true rfl⟩) (kS_env te) hK hP hD hS hA hE [0, 1] [] [0, 1] rfl rfl (by decide) (by decide) (by decide) (by decide) rfl 0 8 rfl rfl rfl rfl hl.1 rfl (Nat.le_of_ble_eq_true rfl) dX10_scans_54 ⟨Nat.zero_le _, Nat.zero_le _⟩ (fun H locs hP hD hS => ?_)
      show W p l e rmX10_scans s m args below meth c H locs 0 0 Q (F0 m 57 ls [.int r19])
      refine lv_if_eq (tgt := 154) hx hb dX10_scans_57 (by decide) (fun c21 => ?_) (fun c21 => ?_)
      · replace hf := ifp c21 hf
        refine lv_aload_n hx hb dX10_scans_154 rfl (lv_at hl 0 rfl) ?_
        refine lv_bipush (v := (48 : Int32)) hx hb dX10_scans_155 (by decide) ?_
        refine lv_bipush (v := (57 : Int32)) hx hb dX10_scans_157 (by decide) ?_
        obtain ⟨r22, hg23, hf⟩ := bd1_some hf
        refine CM_callV (C := RX10) (As := [.int (48 : Int32), .int (57 : Int32)]) (rest := []) (wc := [(h_t, .inr (8, fX10 h_t_book h_t_images h_t_kept h_t_aside h_t_far h_t_then h_t_row h_t_mays h_t_firstRow h_t_low h_t_high t_noOlder t_thanThis t_known t_knownAge t_moved h_t_lowOne h_t_highOne h_t_ways t_met h_t_left t_hours t_greatest h_t_text t_typed x7 x7 t_token t_value h_t_verbs h_t_nums t_items)), (h_t_text, .inl (cI, 240, .inl t_text))]) (w1 := [(h_t, .inr (8, fX10 h_t_book h_t_images h_t_kept h_t_aside h_t_far h_t_then h_t_row h_t_mays h_t_firstRow h_t_low h_t_high t_noOlder t_thanThis t_known t_knownAge t_moved h_t_lowOne h_t_highOne h_t_ways t_met h_t_left t_hours t_greatest h_t_text t_typed x7 x7 t_token t_value h_t_verbs h_t_nums t_items)), (h_t_text, .inl (cI, 240, .inl t_text))]) (wr := []) (wo := [(h_t, .inr (8, fX10 h_t_book h_t_images h_t_kept h_t_aside h_t_far h_t_then h_t_row h_t_mays h_t_firstRow h_t_low h_t_high t_noOlder t_thanThis t_known t_knownAge t_moved h_t_lowOne h_t_highOne h_t_ways t_met h_t_left t_hours t_greatest h_t_text t_typed x7 x7 t_token t_value h_t_verbs h_t_nums t_items)), (h_t_text, .inl (cI, 240, .inl t_text))]) (v := (some (.int r22))) ⟨hx, hb, hml, hown, hts⟩ (c_X10_isAt l dC dI cI cZ te h_t h_t_book h_t_images h_t_kept h_t_aside h_t_far h_t_then h_t_row h_t_mays h_t_firstRow h_t_low h_t_high h_t_lowOne h_t_highOne h_t_ways h_t_left h_t_text h_t_verbs h_t_nums t_noOlder t_thanThis t_known t_knownAge t_moved t_met t_hours t_greatest t_typed x7 x7 t_token t_value t_items t_text (48 : Int32) (57 : Int32) r22 hg23) (cwV 2 hts (gV kw_338 kw_339 kw_340 kw_159 kw_341) rfl rfl rfl (by decide +kernel) ⟨Nat.le_of_ble_eq_true rfl, Nat.le_of_ble_eq_true rfl⟩) (kS_env te) hK hP hD hS hA hE [0, 1] [] [0, 1] rfl rfl (by decide) (by decide) (by decide) (by decide) rfl 0 8 rfl rfl rfl rfl hl.1 rfl (Nat.le_of_ble_eq_true rfl) dX10_scans_159 ⟨Nat.zero_le _, Nat.zero_le _⟩ (fun H locs hP hD hS => ?_)
        show W p l e rmX10_scans s m args below meth c H locs 0 0 Q (F0 m 162 ls [.int r22])
        refine lv_if_eq (tgt := 261) hx hb dX10_scans_162 (by decide) (fun c24 => ?_) (fun c24 => ?_)
        · replace hf := ifp c24 hf
          refine lv_aload_n hx hb dX10_scans_261 rfl (lv_at hl 0 rfl) ?_
          refine lv_aload_n hx hb dX10_scans_262 rfl (lv_at hl 0 rfl) ?_
          refine lv_bipush (v := (59 : Int32)) hx hb dX10_scans_263 (by decide) ?_
          refine lv_bipush (v := (59 : Int32)) hx hb dX10_scans_265 (by decide) ?_
          obtain ⟨r25, hg26, hf⟩ := bd1_some hf
          refine CM_callV (C := RX10) (As := [.int (59 : Int32), .int (59 : Int32)]) (rest := [.ref h_t]) (wc := [(h_t, .inr (8, fX10 h_t_book h_t_images h_t_kept h_t_aside h_t_far h_t_then h_t_row h_t_mays h_t_firstRow h_t_low h_t_high t_noOlder t_thanThis t_known t_knownAge t_moved h_t_lowOne h_t_highOne h_t_ways t_met h_t_left t_hours t_greatest h_t_text t_typed x7 x7 t_token t_value h_t_verbs h_t_nums t_items)), (h_t_text, .inl (cI, 240, .inl t_text))]) (w1 := [(h_t, .inr (8, fX10 h_t_book h_t_images h_t_kept h_t_aside h_t_far h_t_then h_t_row h_t_mays h_t_firstRow h_t_low h_t_high t_noOlder t_thanThis t_known t_knownAge t_moved h_t_lowOne h_t_highOne h_t_ways t_met h_t_left t_hours t_greatest h_t_text t_typed x7 x7 t_token t_value h_t_verbs h_t_nums t_items)), (h_t_text, .inl (cI, 240, .inl t_text))]) (wr := []) (wo := [(h_t, .inr (8, fX10 h_t_book h_t_images h_t_kept h_t_aside h_t_far h_t_then h_t_row h_t_mays h_t_firstRow h_t_low h_t_high t_noOlder t_thanThis t_known t_knownAge t_moved h_t_lowOne h_t_highOne h_t_ways t_met h_t_left t_hours t_greatest h_t_text t_typed x7 x7 t_token t_value h_t_verbs h_t_nums t_items)), (h_t_text, .inl (cI, 240, .inl t_text))]) (v := (some (.int r25))) ⟨hx, hb, hml, hown, hts⟩ (c_X10_isAt l dC dI cI cZ te h_t h_t_book h_t_images h_t_kept h_t_aside h_t_far h_t_then h_t_row h_t_mays h_t_firstRow h_t_low h_t_high h_t_lowOne h_t_highOne h_t_ways h_t_left h_t_text h_t_verbs h_t_nums t_noOlder t_thanThis t_known t_knownAge t_moved t_met t_hours t_greatest t_typed x7 x7 t_token t_value t_items t_text (59 : Int32) (59 : Int32) r25 hg26) (cwV 2 hts (gV kw_338 kw_339 kw_340 kw_159 kw_341) rfl rfl rfl (by decide +kernel) ⟨Nat.le_of_ble_eq_true rfl, Nat.le_of_ble_eq_true rfl⟩) (kS_env te) hK hP hD hS hA hE [0, 1] [] [0, 1] rfl rfl (by decide) (by decide) (by decide) (by decide) rfl 0 8 rfl rfl rfl rfl hl.1 rfl (Nat.le_of_ble_eq_true rfl) dX10_scans_267 ⟨Nat.zero_le _, Nat.zero_le _⟩ (fun H locs hP hD hS => ?_)
          show W p l e rmX10_scans s m args below meth c H locs 0 0 Q (F0 m 270 ls [.int r25, .ref h_t])
          obtain ⟨x27, hg, hf⟩ := bd1_some hf
          have J28 : ∀ (H : Heap) (locs : List Loc), va_P (dC, dI) vwCl [(h_t, .inr (8, fX10 h_t_book h_t_images h_t_kept h_t_aside h_t_far h_t_then h_t_row h_t_mays h_t_firstRow h_t_low h_t_high t_noOlder t_thanThis t_known t_knownAge t_moved h_t_lowOne h_t_highOne h_t_ways t_met h_t_left t_hours t_greatest h_t_text t_typed x7 x7 t_token t_value h_t_verbs h_t_nums t_items)), (h_t_text, .inl (cI, 240, .inl t_text))] H → va_D A [(h_t, .inr (8, fX10 h_t_book h_t_images h_t_kept h_t_aside h_t_far h_t_then h_t_row h_t_mays h_t_firstRow h_t_low h_t_high t_noOlder t_thanThis t_known t_knownAge t_moved h_t_lowOne h_t_highOne h_t_ways t_met h_t_left t_hours t_greatest h_t_text t_typed x7 x7 t_token t_value h_t_verbs h_t_nums t_items)), (h_t_text, .inl (cI, 240, .inl t_text))] → va_S A s.heap H locs → ∀ ls : Array Slot, lv_has ls 3 [(0, .ref h_t)] → W p l e rmX10_scans s m args below meth c H locs 0 0 Q (F0 m 278 ls [.int x27, .ref h_t]) := by
            intro H locs hP hD hS ls hl
            refine va_put (D := (dC, dI)) (ci := 8) (v := .int x27) (ty := tyX10 27) (C := RX10) (T := TX10) (N := 32) hx hb hts (in1 tw_X10) tyX10 tyX10_ok nmX10 hown hK hP hD hS 0 rfl rfl 27 (by decide) (hts _ (List.mem_cons_of_mem _ kw_343)) (fun _ h9 => h9) rfl (tyX10_ok 27 (by decide)) rfl rfl (Nat.le_of_ble_eq_true rfl) dX10_scans_278 (fun H locs hP hD hS => ?_)
            have hP : va_P (dC, dI) vwCl [(h_t, .inr (8, fX10 h_t_book h_t_images h_t_kept h_t_aside h_t_far h_t_then h_t_row h_t_mays h_t_firstRow h_t_low h_t_high t_noOlder t_thanThis t_known t_knownAge t_moved h_t_lowOne h_t_highOne h_t_ways t_met h_t_left t_hours t_greatest h_t_text t_typed x7 x7 x27 t_value h_t_verbs h_t_nums t_items)), (h_t_text, .inl (cI, 240, .inl t_text))] H := hP
            have hD : va_D A [(h_t, .inr (8, fX10 h_t_book h_t_images h_t_kept h_t_aside h_t_far h_t_then h_t_row h_t_mays h_t_firstRow h_t_low h_t_high t_noOlder t_thanThis t_known t_knownAge t_moved h_t_lowOne h_t_highOne h_t_ways t_met h_t_left t_hours t_greatest h_t_text t_typed x7 x7 x27 t_value h_t_verbs h_t_nums t_items)), (h_t_text, .inl (cI, 240, .inl t_text))] := hD
            refine lv_aload_n hx hb dX10_scans_281 rfl (lv_at hl 0 rfl) ?_
            refine lv_dup hx hb dX10_scans_282 rfl ?_
            refine va_get (D := (dC, dI)) (ci := 8) (v := .int x7) (C := RX10) (T := TX10) (N := 32) hx hb hts (in1 tw_X10) hown hK hP 0 rfl rfl 25 (by decide) (hts _ (List.mem_cons_of_mem _ kw_325)) (fun _ h9 => h9) rfl dX10_scans_283 ?_
            refine lv_iconst (v := (1 : Int32)) hx hb dX10_scans_286 (by decide) ?_
            refine lv_iadd hx hb dX10_scans_287 ?_
            obtain ⟨x29, e30, hf⟩ := nm_some hf
            refine lv_tope e30 ?_
            refine va_put (D := (dC, dI)) (ci := 8) (v := .int x29) (ty := tyX10 25) (C := RX10) (T := TX10) (N := 32) hx hb hts (in1 tw_X10) tyX10 tyX10_ok nmX10 hown hK hP hD hS 0 rfl rfl 25 (by decide) (hts _ (List.mem_cons_of_mem _ kw_325)) (fun _ h9 => h9) rfl (tyX10_ok 25 (by decide)) rfl rfl (Nat.le_of_ble_eq_true rfl) dX10_scans_288 (fun H locs hP hD hS => ?_)
            have hP : va_P (dC, dI) vwCl [(h_t, .inr (8, fX10 h_t_book h_t_images h_t_kept h_t_aside h_t_far h_t_then h_t_row h_t_mays h_t_firstRow h_t_low h_t_high t_noOlder t_thanThis t_known t_knownAge t_moved h_t_lowOne h_t_highOne h_t_ways t_met h_t_left t_hours t_greatest h_t_text t_typed x29 x7 x27 t_value h_t_verbs h_t_nums t_items)), (h_t_text, .inl (cI, 240, .inl t_text))] H := hP
            have hD : va_D A [(h_t, .inr (8, fX10 h_t_book h_t_images h_t_kept h_t_aside h_t_far h_t_then h_t_row h_t_mays h_t_firstRow h_t_low h_t_high t_noOlder t_thanThis t_known t_knownAge t_moved h_t_lowOne h_t_highOne h_t_ways t_met h_t_left t_hours t_greatest h_t_text t_typed x29 x7 x27 t_value h_t_verbs h_t_nums t_items)), (h_t_text, .inl (cI, 240, .inl t_text))] := hD
            obtain ⟨rfl, rfl, rfl, rfl⟩ := inj4 hf
            subst hQ
            exact CM_vret hx hb hr hlocks hAe hP hD hS dX10_scans_291
          clear hf
          have hf := hg
          refine lv_if_eq (tgt := 277) hx hb dX10_scans_270 (by decide) (fun c31 => ?_) (fun c31 => ?_)
          · replace hf := ifp c31 hf
            refine lv_iconst (v := (1 : Int32)) hx hb dX10_scans_277 (by decide) ?_
            obtain rfl := inj1 hf
            exact J28 _ _ hP hD hS _ (lv_sub hl [0] rfl)
          · replace hf := ifn c31 hf
            refine lv_iconst (v := (3 : Int32)) hx hb dX10_scans_273 (by decide) ?_
            refine lv_goto (tgt := 278) hx hb dX10_scans_274 (by decide) ?_
            obtain rfl := inj1 hf
            exact J28 _ _ hP hD hS _ (lv_sub hl [0] rfl)
        · replace hf := ifn c24 hf
          refine lv_aload_n hx hb dX10_scans_165 rfl (lv_at hl 0 rfl) ?_
          refine lv_iconst (v := (0 : Int32)) hx hb dX10_scans_166 (by decide) ?_
          refine va_put (D := (dC, dI)) (ci := 8) (v := .int (0 : Int32)) (ty := tyX10 28) (C := RX10) (T := TX10) (N := 32) hx hb hts (in1 tw_X10) tyX10 tyX10_ok nmX10 hown hK hP hD hS 0 rfl rfl 28 (by decide) (hts _ (List.mem_cons_of_mem _ kw_344)) (fun _ h9 => h9) rfl (tyX10_ok 28 (by decide)) rfl rfl (Nat.le_of_ble_eq_true rfl) dX10_scans_167 (fun H locs hP hD hS => ?_)
          have hP : va_P (dC, dI) vwCl [(h_t, .inr (8, fX10 h_t_book h_t_images h_t_kept h_t_aside h_t_far h_t_then h_t_row h_t_mays h_t_firstRow h_t_low h_t_high t_noOlder t_thanThis t_known t_knownAge t_moved h_t_lowOne h_t_highOne h_t_ways t_met h_t_left t_hours t_greatest h_t_text t_typed x7 x7 t_token (0 : Int32) h_t_verbs h_t_nums t_items)), (h_t_text, .inl (cI, 240, .inl t_text))] H := hP
          have hD : va_D A [(h_t, .inr (8, fX10 h_t_book h_t_images h_t_kept h_t_aside h_t_far h_t_then h_t_row h_t_mays h_t_firstRow h_t_low h_t_high t_noOlder t_thanThis t_known t_knownAge t_moved h_t_lowOne h_t_highOne h_t_ways t_met h_t_left t_hours t_greatest h_t_text t_typed x7 x7 t_token (0 : Int32) h_t_verbs h_t_nums t_items)), (h_t_text, .inl (cI, 240, .inl t_text))] := hD
          have L59 : ∀ (fu48 : Nat) (x45 : Int32) (x46 : Int32) (x43 : Int32) (x44 : Int32), f_X10_scans_L2 t_typed t_text x7 fu48 x45 x46 = some (x43, x44) → (∀ (H : Heap) (locs : List Loc), va_P (dC, dI) vwCl [(h_t, .inr (8, fX10 h_t_book h_t_images h_t_kept h_t_aside h_t_far h_t_then h_t_row h_t_mays h_t_firstRow h_t_low h_t_high t_noOlder t_thanThis t_known t_knownAge t_moved h_t_lowOne h_t_highOne h_t_ways t_met h_t_left t_hours t_greatest h_t_text t_typed x43 x7 t_token x44 h_t_verbs h_t_nums t_items)), (h_t_text, .inl (cI, 240, .inl t_text))] H → va_D A [(h_t, .inr (8, fX10 h_t_book h_t_images h_t_kept h_t_aside h_t_far h_t_then h_t_row h_t_mays h_t_firstRow h_t_low h_t_high t_noOlder t_thanThis t_known t_knownAge t_moved h_t_lowOne h_t_highOne h_t_ways t_met h_t_left t_hours t_greatest h_t_text t_typed x43 x7 t_token x44 h_t_verbs h_t_nums t_items)), (h_t_text, .inl (cI, 240, .inl t_text))] → va_S A s.heap H locs → ∀ ls : Array Slot, lv_has ls 3 [(0, .ref h_t)] → W p l e rmX10_scans s m args below meth c H locs 0 0 Q (F0 m 238 ls [])) → ∀ (H : Heap) (locs : List Loc), va_P (dC, dI) vwCl [(h_t, .inr (8, fX10 h_t_book h_t_images h_t_kept h_t_aside h_t_far h_t_then h_t_row h_t_mays h_t_firstRow h_t_low h_t_high t_noOlder t_thanThis t_known t_knownAge t_moved h_t_lowOne h_t_highOne h_t_ways t_met h_t_left t_hours t_greatest h_t_text t_typed x45 x7 t_token x46 h_t_verbs h_t_nums t_items)), (h_t_text, .inl (cI, 240, .inl t_text))] H → va_D A [(h_t, .inr (8, fX10 h_t_book h_t_images h_t_kept h_t_aside h_t_far h_t_then h_t_row h_t_mays h_t_firstRow h_t_low h_t_high t_noOlder t_thanThis t_known t_knownAge t_moved h_t_lowOne h_t_highOne h_t_ways t_met h_t_left t_hours t_greatest h_t_text t_typed x45 x7 t_token x46 h_t_verbs h_t_nums t_items)), (h_t_text, .inl (cI, 240, .inl t_text))] → va_S A s.heap H locs → ∀ ls : Array Slot, lv_has ls 3 [(0, .ref h_t)] → W p l e rmX10_scans s m args below meth c H locs 0 0 Q (F0 m 170 ls []) := by
            intro fu48
            induction fu48 with
            | zero =>
              intro x45 x46 x43 x44 hf
              unfold f_X10_scans_L2 at hf
              exact none_ne hf
            | succ fu48 ih47 =>
              intro x45 x46 x43 x44 hf hX49 H locs hP hD hS ls hl
              unfold f_X10_scans_L2 at hf
              refine lv_aload_n hx hb dX10_scans_170 rfl (lv_at hl 0 rfl) ?_
              refine lv_bipush (v := (48 : Int32)) hx hb dX10_scans_171 (by decide) ?_
              refine lv_bipush (v := (57 : Int32)) hx hb dX10_scans_173 (by decide) ?_
              obtain ⟨r50, hg51, hf⟩ := bd1_some hf
              refine CM_callV (C := RX10) (As := [.int (48 : Int32), .int (57 : Int32)]) (rest := []) (wc := [(h_t, .inr (8, fX10 h_t_book h_t_images h_t_kept h_t_aside h_t_far h_t_then h_t_row h_t_mays h_t_firstRow h_t_low h_t_high t_noOlder t_thanThis t_known t_knownAge t_moved h_t_lowOne h_t_highOne h_t_ways t_met h_t_left t_hours t_greatest h_t_text t_typed x45 x7 t_token x46 h_t_verbs h_t_nums t_items)), (h_t_text, .inl (cI, 240, .inl t_text))]) (w1 := [(h_t, .inr (8, fX10 h_t_book h_t_images h_t_kept h_t_aside h_t_far h_t_then h_t_row h_t_mays h_t_firstRow h_t_low h_t_high t_noOlder t_thanThis t_known t_knownAge t_moved h_t_lowOne h_t_highOne h_t_ways t_met h_t_left t_hours t_greatest h_t_text t_typed x45 x7 t_token x46 h_t_verbs h_t_nums t_items)), (h_t_text, .inl (cI, 240, .inl t_text))]) (wr := []) (wo := [(h_t, .inr (8, fX10 h_t_book h_t_images h_t_kept h_t_aside h_t_far h_t_then h_t_row h_t_mays h_t_firstRow h_t_low h_t_high t_noOlder t_thanThis t_known t_knownAge t_moved h_t_lowOne h_t_highOne h_t_ways t_met h_t_left t_hours t_greatest h_t_text t_typed x45 x7 t_token x46 h_t_verbs h_t_nums t_items)), (h_t_text, .inl (cI, 240, .inl t_text))]) (v := (some (.int r50))) ⟨hx, hb, hml, hown, hts⟩ (c_X10_isAt l dC dI cI cZ te h_t h_t_book h_t_images h_t_kept h_t_aside h_t_far h_t_then h_t_row h_t_mays h_t_firstRow h_t_low h_t_high h_t_lowOne h_t_highOne h_t_ways h_t_left h_t_text h_t_verbs h_t_nums t_noOlder t_thanThis t_known t_knownAge t_moved t_met t_hours t_greatest t_typed x45 x7 t_token x46 t_items t_text (48 : Int32) (57 : Int32) r50 hg51) (cwV 2 hts (gV kw_338 kw_339 kw_340 kw_159 kw_341) rfl rfl rfl (by decide +kernel) ⟨Nat.le_of_ble_eq_true rfl, Nat.le_of_ble_eq_true rfl⟩) (kS_env te) hK hP hD hS hA hE [0, 1] [] [0, 1] rfl rfl (by decide) (by decide) (by decide) (by decide) rfl 0 8 rfl rfl rfl rfl hl.1 rfl (Nat.le_of_ble_eq_true rfl) dX10_scans_175 ⟨Nat.zero_le _, Nat.zero_le _⟩ (fun H locs hP hD hS => ?_)
              show W p l e rmX10_scans s m args below meth c H locs 0 0 Q (F0 m 178 ls [.int r50])
              refine lv_if_eq (tgt := 238) hx hb dX10_scans_178 (by decide) (fun c52 => ?_) (fun c52 => ?_)
              · replace hf := ifp c52 hf
                obtain ⟨rfl, rfl⟩ := inj2 hf
                exact hX49 _ _ hP hD hS _ (lv_sub hl [0] rfl)
              · replace hf := ifn c52 hf
                refine lv_aload_n hx hb dX10_scans_181 rfl (lv_at hl 0 rfl) ?_
                refine lv_aload_n hx hb dX10_scans_182 rfl (lv_at hl 0 rfl) ?_
                refine va_get (D := (dC, dI)) (ci := 8) (v := .int x45) (C := RX10) (T := TX10) (N := 32) hx hb hts (in1 tw_X10) hown hK hP 0 rfl rfl 25 (by decide) (hts _ (List.mem_cons_of_mem _ kw_325)) (fun _ h9 => h9) rfl dX10_scans_183 ?_
                refine lv_aload_n hx hb dX10_scans_186 rfl (lv_at hl 0 rfl) ?_
                refine va_get (D := (dC, dI)) (ci := 8) (v := .int x7) (C := RX10) (T := TX10) (N := 32) hx hb hts (in1 tw_X10) hown hK hP 0 rfl rfl 26 (by decide) (hts _ (List.mem_cons_of_mem _ kw_342)) (fun _ h9 => h9) rfl dX10_scans_187 ?_
                refine lv_isub hx hb dX10_scans_190 ?_
                refine lv_iconst (v := (4 : Int32)) hx hb dX10_scans_191 (by decide) ?_
                obtain ⟨x53, hg, hf⟩ := bd1_some hf
                have J54 : ∀ (H : Heap) (locs : List Loc), va_P (dC, dI) vwCl [(h_t, .inr (8, fX10 h_t_book h_t_images h_t_kept h_t_aside h_t_far h_t_then h_t_row h_t_mays h_t_firstRow h_t_low h_t_high t_noOlder t_thanThis t_known t_knownAge t_moved h_t_lowOne h_t_highOne h_t_ways t_met h_t_left t_hours t_greatest h_t_text t_typed x45 x7 t_token x46 h_t_verbs h_t_nums t_items)), (h_t_text, .inl (cI, 240, .inl t_text))] H → va_D A [(h_t, .inr (8, fX10 h_t_book h_t_images h_t_kept h_t_aside h_t_far h_t_then h_t_row h_t_mays h_t_firstRow h_t_low h_t_high t_noOlder t_thanThis t_known t_knownAge t_moved h_t_lowOne h_t_highOne h_t_ways t_met h_t_left t_hours t_greatest h_t_text t_typed x45 x7 t_token x46 h_t_verbs h_t_nums t_items)), (h_t_text, .inl (cI, 240, .inl t_text))] → va_S A s.heap H locs → ∀ ls : Array Slot, lv_has ls 3 [(0, .ref h_t)] → W p l e rmX10_scans s m args below meth c H locs 0 0 Q (F0 m 222 ls [.int x53, .ref h_t]) := by
                  intro H locs hP hD hS ls hl
                  refine va_put (D := (dC, dI)) (ci := 8) (v := .int x53) (ty := tyX10 28) (C := RX10) (T := TX10) (N := 32) hx hb hts (in1 tw_X10) tyX10 tyX10_ok nmX10 hown hK hP hD hS 0 rfl rfl 28 (by decide) (hts _ (List.mem_cons_of_mem _ kw_344)) (fun _ h9 => h9) rfl (tyX10_ok 28 (by decide)) rfl rfl (Nat.le_of_ble_eq_true rfl) dX10_scans_222 (fun H locs hP hD hS => ?_)
                  have hP : va_P (dC, dI) vwCl [(h_t, .inr (8, fX10 h_t_book h_t_images h_t_kept h_t_aside h_t_far h_t_then h_t_row h_t_mays h_t_firstRow h_t_low h_t_high t_noOlder t_thanThis t_known t_knownAge t_moved h_t_lowOne h_t_highOne h_t_ways t_met h_t_left t_hours t_greatest h_t_text t_typed x45 x7 t_token x53 h_t_verbs h_t_nums t_items)), (h_t_text, .inl (cI, 240, .inl t_text))] H := hP
                  have hD : va_D A [(h_t, .inr (8, fX10 h_t_book h_t_images h_t_kept h_t_aside h_t_far h_t_then h_t_row h_t_mays h_t_firstRow h_t_low h_t_high t_noOlder t_thanThis t_known t_knownAge t_moved h_t_lowOne h_t_highOne h_t_ways t_met h_t_left t_hours t_greatest h_t_text t_typed x45 x7 t_token x53 h_t_verbs h_t_nums t_items)), (h_t_text, .inl (cI, 240, .inl t_text))] := hD
                  refine lv_aload_n hx hb dX10_scans_225 rfl (lv_at hl 0 rfl) ?_
                  refine lv_dup hx hb dX10_scans_226 rfl ?_
                  refine va_get (D := (dC, dI)) (ci := 8) (v := .int x45) (C := RX10) (T := TX10) (N := 32) hx hb hts (in1 tw_X10) hown hK hP 0 rfl rfl 25 (by decide) (hts _ (List.mem_cons_of_mem _ kw_325)) (fun _ h9 => h9) rfl dX10_scans_227 ?_
                  refine lv_iconst (v := (1 : Int32)) hx hb dX10_scans_230 (by decide) ?_
                  refine lv_iadd hx hb dX10_scans_231 ?_
                  obtain ⟨x55, e56, hf⟩ := nm_some hf
                  refine lv_tope e56 ?_
                  refine va_put (D := (dC, dI)) (ci := 8) (v := .int x55) (ty := tyX10 25) (C := RX10) (T := TX10) (N := 32) hx hb hts (in1 tw_X10) tyX10 tyX10_ok nmX10 hown hK hP hD hS 0 rfl rfl 25 (by decide) (hts _ (List.mem_cons_of_mem _ kw_325)) (fun _ h9 => h9) rfl (tyX10_ok 25 (by decide)) rfl rfl (Nat.le_of_ble_eq_true rfl) dX10_scans_232 (fun H locs hP hD hS => ?_)
                  have hP : va_P (dC, dI) vwCl [(h_t, .inr (8, fX10 h_t_book h_t_images h_t_kept h_t_aside h_t_far h_t_then h_t_row h_t_mays h_t_firstRow h_t_low h_t_high t_noOlder t_thanThis t_known t_knownAge t_moved h_t_lowOne h_t_highOne h_t_ways t_met h_t_left t_hours t_greatest h_t_text t_typed x55 x7 t_token x53 h_t_verbs h_t_nums t_items)), (h_t_text, .inl (cI, 240, .inl t_text))] H := hP
                  have hD : va_D A [(h_t, .inr (8, fX10 h_t_book h_t_images h_t_kept h_t_aside h_t_far h_t_then h_t_row h_t_mays h_t_firstRow h_t_low h_t_high t_noOlder t_thanThis t_known t_knownAge t_moved h_t_lowOne h_t_highOne h_t_ways t_met h_t_left t_hours t_greatest h_t_text t_typed x55 x7 t_token x53 h_t_verbs h_t_nums t_items)), (h_t_text, .inl (cI, 240, .inl t_text))] := hD
                  refine lv_goto (tgt := 170) hx hb dX10_scans_235 (by decide) ?_
                  exact ih47 _ _ _ _ hf hX49 _ _ hP hD hS _ (lv_sub hl [0] rfl)
                clear hf
                have hf := hg
                refine lv_icmp_ge (tgt := 218) hx hb dX10_scans_192 (by decide) (fun c57 => ?_) (fun c57 => ?_)
                · replace hf := ifp c57 hf
                  refine lv_aload_n hx hb dX10_scans_218 rfl (lv_at hl 0 rfl) ?_
                  refine va_get (D := (dC, dI)) (ci := 8) (v := .int x46) (C := RX10) (T := TX10) (N := 32) hx hb hts (in1 tw_X10) hown hK hP 0 rfl rfl 28 (by decide) (hts _ (List.mem_cons_of_mem _ kw_344)) (fun _ h9 => h9) rfl dX10_scans_219 ?_
                  obtain rfl := inj1 hf
                  exact J54 _ _ hP hD hS _ (lv_sub hl [0] rfl)
                · replace hf := ifn c57 hf
                  refine lv_bipush (v := (10 : Int32)) hx hb dX10_scans_195 (by decide) ?_
                  refine lv_aload_n hx hb dX10_scans_197 rfl (lv_at hl 0 rfl) ?_
                  refine va_get (D := (dC, dI)) (ci := 8) (v := .int x46) (C := RX10) (T := TX10) (N := 32) hx hb hts (in1 tw_X10) hown hK hP 0 rfl rfl 28 (by decide) (hts _ (List.mem_cons_of_mem _ kw_344)) (fun _ h9 => h9) rfl dX10_scans_198 ?_
                  refine lv_imul hx hb dX10_scans_201 ?_
                  refine lv_aload_n hx hb dX10_scans_202 rfl (lv_at hl 0 rfl) ?_
                  refine va_get (D := (dC, dI)) (ci := 8) (v := .ref h_t_text) (C := RX10) (T := TX10) (N := 32) hx hb hts (in1 tw_X10) hown hK hP 0 rfl rfl 23 (by decide) (hts _ (List.mem_cons_of_mem _ kw_132)) (fun _ h9 => h9) rfl dX10_scans_203 ?_
                  refine lv_aload_n hx hb dX10_scans_206 rfl (lv_at hl 0 rfl) ?_
                  refine va_get (D := (dC, dI)) (ci := 8) (v := .int x45) (C := RX10) (T := TX10) (N := 32) hx hb hts (in1 tw_X10) hown hK hP 0 rfl rfl 25 (by decide) (hts _ (List.mem_cons_of_mem _ kw_325)) (fun _ h9 => h9) rfl dX10_scans_207 ?_
                  obtain ⟨g58, hf⟩ := chk_some hf
                  refine va_iald hx hb hK hP 1 0 rfl rfl (gin_in g58) dX10_scans_210 ?_
                  refine lv_iadd hx hb dX10_scans_211 ?_
                  refine lv_bipush (v := (48 : Int32)) hx hb dX10_scans_212 (by decide) ?_
                  refine lv_isub hx hb dX10_scans_214 ?_
                  refine lv_goto (tgt := 222) hx hb dX10_scans_215 (by decide) ?_
                  obtain rfl := inj1 hf
                  exact J54 _ _ hP hD hS _ (lv_sub hl [0] rfl)
          obtain ⟨x43, x44, hg, hf⟩ := bd2_some hf
          refine L59 FU _ _ _ _ hg ?_ _ _ hP hD hS _ (lv_sub hl [0] rfl)
          · intro H locs hP hD hS ls hl
            refine lv_aload_n hx hb dX10_scans_238 rfl (lv_at hl 0 rfl) ?_
            refine lv_aload_n hx hb dX10_scans_239 rfl (lv_at hl 0 rfl) ?_
            refine va_get (D := (dC, dI)) (ci := 8) (v := .int x43) (C := RX10) (T := TX10) (N := 32) hx hb hts (in1 tw_X10) hown hK hP 0 rfl rfl 25 (by decide) (hts _ (List.mem_cons_of_mem _ kw_325)) (fun _ h9 => h9) rfl dX10_scans_240 ?_
            refine lv_aload_n hx hb dX10_scans_243 rfl (lv_at hl 0 rfl) ?_
            refine va_get (D := (dC, dI)) (ci := 8) (v := .int x7) (C := RX10) (T := TX10) (N := 32) hx hb hts (in1 tw_X10) hown hK hP 0 rfl rfl 26 (by decide) (hts _ (List.mem_cons_of_mem _ kw_342)) (fun _ h9 => h9) rfl dX10_scans_244 ?_
            refine lv_isub hx hb dX10_scans_247 ?_
            refine lv_iconst (v := (4 : Int32)) hx hb dX10_scans_248 (by decide) ?_
            obtain ⟨x60, hg, hf⟩ := bd1_some hf
            have J61 : ∀ (H : Heap) (locs : List Loc), va_P (dC, dI) vwCl [(h_t, .inr (8, fX10 h_t_book h_t_images h_t_kept h_t_aside h_t_far h_t_then h_t_row h_t_mays h_t_firstRow h_t_low h_t_high t_noOlder t_thanThis t_known t_knownAge t_moved h_t_lowOne h_t_highOne h_t_ways t_met h_t_left t_hours t_greatest h_t_text t_typed x43 x7 t_token x44 h_t_verbs h_t_nums t_items)), (h_t_text, .inl (cI, 240, .inl t_text))] H → va_D A [(h_t, .inr (8, fX10 h_t_book h_t_images h_t_kept h_t_aside h_t_far h_t_then h_t_row h_t_mays h_t_firstRow h_t_low h_t_high t_noOlder t_thanThis t_known t_knownAge t_moved h_t_lowOne h_t_highOne h_t_ways t_met h_t_left t_hours t_greatest h_t_text t_typed x43 x7 t_token x44 h_t_verbs h_t_nums t_items)), (h_t_text, .inl (cI, 240, .inl t_text))] → va_S A s.heap H locs → ∀ ls : Array Slot, lv_has ls 3 [] → W p l e rmX10_scans s m args below meth c H locs 0 0 Q (F0 m 257 ls [.int x60, .ref h_t]) := by
              intro H locs hP hD hS ls hl
              refine va_put (D := (dC, dI)) (ci := 8) (v := .int x60) (ty := tyX10 27) (C := RX10) (T := TX10) (N := 32) hx hb hts (in1 tw_X10) tyX10 tyX10_ok nmX10 hown hK hP hD hS 0 rfl rfl 27 (by decide) (hts _ (List.mem_cons_of_mem _ kw_343)) (fun _ h9 => h9) rfl (tyX10_ok 27 (by decide)) rfl rfl (Nat.le_of_ble_eq_true rfl) dX10_scans_257 (fun H locs hP hD hS => ?_)
              have hP : va_P (dC, dI) vwCl [(h_t, .inr (8, fX10 h_t_book h_t_images h_t_kept h_t_aside h_t_far h_t_then h_t_row h_t_mays h_t_firstRow h_t_low h_t_high t_noOlder t_thanThis t_known t_knownAge t_moved h_t_lowOne h_t_highOne h_t_ways t_met h_t_left t_hours t_greatest h_t_text t_typed x43 x7 x60 x44 h_t_verbs h_t_nums t_items)), (h_t_text, .inl (cI, 240, .inl t_text))] H := hP
              have hD : va_D A [(h_t, .inr (8, fX10 h_t_book h_t_images h_t_kept h_t_aside h_t_far h_t_then h_t_row h_t_mays h_t_firstRow h_t_low h_t_high t_noOlder t_thanThis t_known t_knownAge t_moved h_t_lowOne h_t_highOne h_t_ways t_met h_t_left t_hours t_greatest h_t_text t_typed x43 x7 x60 x44 h_t_verbs h_t_nums t_items)), (h_t_text, .inl (cI, 240, .inl t_text))] := hD
              obtain ⟨rfl, rfl, rfl, rfl⟩ := inj4 hf
              subst hQ
              exact CM_vret hx hb hr hlocks hAe hP hD hS dX10_scans_260
            clear hf
            have hf := hg
            refine lv_icmp_le (tgt := 256) hx hb dX10_scans_249 (by decide) (fun c62 => ?_) (fun c62 => ?_)
            · replace hf := ifp c62 hf
              refine lv_iconst (v := (2 : Int32)) hx hb dX10_scans_256 (by decide) ?_
              obtain rfl := inj1 hf
              exact J61 _ _ hP hD hS _ (lv_sub hl [] rfl)
            · replace hf := ifn c62 hf
              refine lv_iconst (v := (1 : Int32)) hx hb dX10_scans_252 (by decide) ?_
              refine lv_goto (tgt := 257) hx hb dX10_scans_253 (by decide) ?_
              obtain rfl := inj1 hf
              exact J61 _ _ hP hD hS _ (lv_sub hl [] rfl)
      · replace hf := ifn c21 hf
        refine lv_lconst (v := (0 : Int64)) hx hb dX10_scans_60 (by decide) ?_
        refine lv_lstore_n (lv' := [(1, .long (0 : Int64)), (0, .ref h_t)]) hx hb dX10_scans_61 rfl hl (by decide) rfl (fun ls hl => ?_)
        have L90 : ∀ (fu79 : Nat) (x76 : Int32) (x77 : Int64) (x74 : Int32) (x75 : Int64), f_X10_scans_L3 t_typed t_text x7 fu79 x76 x77 = some (x74, x75) → (∀ (H : Heap) (locs : List Loc), va_P (dC, dI) vwCl [(h_t, .inr (8, fX10 h_t_book h_t_images h_t_kept h_t_aside h_t_far h_t_then h_t_row h_t_mays h_t_firstRow h_t_low h_t_high t_noOlder t_thanThis t_known t_knownAge t_moved h_t_lowOne h_t_highOne h_t_ways t_met h_t_left t_hours t_greatest h_t_text t_typed x74 x7 t_token t_value h_t_verbs h_t_nums t_items)), (h_t_text, .inl (cI, 240, .inl t_text))] H → va_D A [(h_t, .inr (8, fX10 h_t_book h_t_images h_t_kept h_t_aside h_t_far h_t_then h_t_row h_t_mays h_t_firstRow h_t_low h_t_high t_noOlder t_thanThis t_known t_knownAge t_moved h_t_lowOne h_t_highOne h_t_ways t_met h_t_left t_hours t_greatest h_t_text t_typed x74 x7 t_token t_value h_t_verbs h_t_nums t_items)), (h_t_text, .inl (cI, 240, .inl t_text))] → va_S A s.heap H locs → ∀ ls : Array Slot, lv_has ls 3 [(0, .ref h_t), (1, .long x75)] → W p l e rmX10_scans s m args below meth c H locs 0 0 Q (F0 m 127 ls [])) → ∀ (H : Heap) (locs : List Loc), va_P (dC, dI) vwCl [(h_t, .inr (8, fX10 h_t_book h_t_images h_t_kept h_t_aside h_t_far h_t_then h_t_row h_t_mays h_t_firstRow h_t_low h_t_high t_noOlder t_thanThis t_known t_knownAge t_moved h_t_lowOne h_t_highOne h_t_ways t_met h_t_left t_hours t_greatest h_t_text t_typed x76 x7 t_token t_value h_t_verbs h_t_nums t_items)), (h_t_text, .inl (cI, 240, .inl t_text))] H → va_D A [(h_t, .inr (8, fX10 h_t_book h_t_images h_t_kept h_t_aside h_t_far h_t_then h_t_row h_t_mays h_t_firstRow h_t_low h_t_high t_noOlder t_thanThis t_known t_knownAge t_moved h_t_lowOne h_t_highOne h_t_ways t_met h_t_left t_hours t_greatest h_t_text t_typed x76 x7 t_token t_value h_t_verbs h_t_nums t_items)), (h_t_text, .inl (cI, 240, .inl t_text))] → va_S A s.heap H locs → ∀ ls : Array Slot, lv_has ls 3 [(0, .ref h_t), (1, .long x77)] → W p l e rmX10_scans s m args below meth c H locs 0 0 Q (F0 m 62 ls []) := by
          intro fu79
          induction fu79 with
          | zero =>
            intro x76 x77 x74 x75 hf
            unfold f_X10_scans_L3 at hf
            exact none_ne hf
          | succ fu79 ih78 =>
            intro x76 x77 x74 x75 hf hX80 H locs hP hD hS ls hl
            unfold f_X10_scans_L3 at hf
            refine lv_aload_n hx hb dX10_scans_62 rfl (lv_at hl 0 rfl) ?_
            refine lv_bipush (v := (97 : Int32)) hx hb dX10_scans_63 (by decide) ?_
            refine lv_bipush (v := (122 : Int32)) hx hb dX10_scans_65 (by decide) ?_
            obtain ⟨r81, hg82, hf⟩ := bd1_some hf
            refine CM_callV (C := RX10) (As := [.int (97 : Int32), .int (122 : Int32)]) (rest := []) (wc := [(h_t, .inr (8, fX10 h_t_book h_t_images h_t_kept h_t_aside h_t_far h_t_then h_t_row h_t_mays h_t_firstRow h_t_low h_t_high t_noOlder t_thanThis t_known t_knownAge t_moved h_t_lowOne h_t_highOne h_t_ways t_met h_t_left t_hours t_greatest h_t_text t_typed x76 x7 t_token t_value h_t_verbs h_t_nums t_items)), (h_t_text, .inl (cI, 240, .inl t_text))]) (w1 := [(h_t, .inr (8, fX10 h_t_book h_t_images h_t_kept h_t_aside h_t_far h_t_then h_t_row h_t_mays h_t_firstRow h_t_low h_t_high t_noOlder t_thanThis t_known t_knownAge t_moved h_t_lowOne h_t_highOne h_t_ways t_met h_t_left t_hours t_greatest h_t_text t_typed x76 x7 t_token t_value h_t_verbs h_t_nums t_items)), (h_t_text, .inl (cI, 240, .inl t_text))]) (wr := []) (wo := [(h_t, .inr (8, fX10 h_t_book h_t_images h_t_kept h_t_aside h_t_far h_t_then h_t_row h_t_mays h_t_firstRow h_t_low h_t_high t_noOlder t_thanThis t_known t_knownAge t_moved h_t_lowOne h_t_highOne h_t_ways t_met h_t_left t_hours t_greatest h_t_text t_typed x76 x7 t_token t_value h_t_verbs h_t_nums t_items)), (h_t_text, .inl (cI, 240, .inl t_text))]) (v := (some (.int r81))) ⟨hx, hb, hml, hown, hts⟩ (c_X10_isAt l dC dI cI cZ te h_t h_t_book h_t_images h_t_kept h_t_aside h_t_far h_t_then h_t_row h_t_mays h_t_firstRow h_t_low h_t_high h_t_lowOne h_t_highOne h_t_ways h_t_left h_t_text h_t_verbs h_t_nums t_noOlder t_thanThis t_known t_knownAge t_moved t_met t_hours t_greatest t_typed x76 x7 t_token t_value t_items t_text (97 : Int32) (122 : Int32) r81 hg82) (cwV 2 hts (gV kw_338 kw_339 kw_340 kw_159 kw_341) rfl rfl rfl (by decide +kernel) ⟨Nat.le_of_ble_eq_true rfl, Nat.le_of_ble_eq_true rfl⟩) (kS_env te) hK hP hD hS hA hE [0, 1] [] [0, 1] rfl rfl (by decide) (by decide) (by decide) (by decide) rfl 0 8 rfl rfl rfl rfl hl.1 rfl (Nat.le_of_ble_eq_true rfl) dX10_scans_67 ⟨Nat.zero_le _, Nat.zero_le _⟩ (fun H locs hP hD hS => ?_)
            show W p l e rmX10_scans s m args below meth c H locs 0 0 Q (F0 m 70 ls [.int r81])
            refine lv_if_eq (tgt := 127) hx hb dX10_scans_70 (by decide) (fun c83 => ?_) (fun c83 => ?_)
            · replace hf := ifp c83 hf
              obtain ⟨rfl, rfl⟩ := inj2 hf
              exact hX80 _ _ hP hD hS _ (lv_sub hl [0, 1] rfl)
            · replace hf := ifn c83 hf
              refine lv_aload_n hx hb dX10_scans_73 rfl (lv_at hl 0 rfl) ?_
              refine va_get (D := (dC, dI)) (ci := 8) (v := .int x76) (C := RX10) (T := TX10) (N := 32) hx hb hts (in1 tw_X10) hown hK hP 0 rfl rfl 25 (by decide) (hts _ (List.mem_cons_of_mem _ kw_325)) (fun _ h9 => h9) rfl dX10_scans_74 ?_
              refine lv_aload_n hx hb dX10_scans_77 rfl (lv_at hl 0 rfl) ?_
              refine va_get (D := (dC, dI)) (ci := 8) (v := .int x7) (C := RX10) (T := TX10) (N := 32) hx hb hts (in1 tw_X10) hown hK hP 0 rfl rfl 26 (by decide) (hts _ (List.mem_cons_of_mem _ kw_342)) (fun _ h9 => h9) rfl dX10_scans_78 ?_
              refine lv_isub hx hb dX10_scans_81 ?_
              refine lv_bipush (v := (7 : Int32)) hx hb dX10_scans_82 (by decide) ?_
              obtain ⟨x84, hg, hf⟩ := bd1_some hf
              have J85 : ∀ (H : Heap) (locs : List Loc), va_P (dC, dI) vwCl [(h_t, .inr (8, fX10 h_t_book h_t_images h_t_kept h_t_aside h_t_far h_t_then h_t_row h_t_mays h_t_firstRow h_t_low h_t_high t_noOlder t_thanThis t_known t_knownAge t_moved h_t_lowOne h_t_highOne h_t_ways t_met h_t_left t_hours t_greatest h_t_text t_typed x76 x7 t_token t_value h_t_verbs h_t_nums t_items)), (h_t_text, .inl (cI, 240, .inl t_text))] H → va_D A [(h_t, .inr (8, fX10 h_t_book h_t_images h_t_kept h_t_aside h_t_far h_t_then h_t_row h_t_mays h_t_firstRow h_t_low h_t_high t_noOlder t_thanThis t_known t_knownAge t_moved h_t_lowOne h_t_highOne h_t_ways t_met h_t_left t_hours t_greatest h_t_text t_typed x76 x7 t_token t_value h_t_verbs h_t_nums t_items)), (h_t_text, .inl (cI, 240, .inl t_text))] → va_S A s.heap H locs → ∀ ls : Array Slot, lv_has ls 3 [(0, .ref h_t)] → W p l e rmX10_scans s m args below meth c H locs 0 0 Q (F0 m 113 ls [.long x84]) := by
                intro H locs hP hD hS ls hl
                refine lv_lstore_n (lv' := [(1, .long x84), (0, .ref h_t)]) hx hb dX10_scans_113 rfl hl (by decide) rfl (fun ls hl => ?_)
                refine lv_aload_n hx hb dX10_scans_114 rfl (lv_at hl 1 rfl) ?_
                refine lv_dup hx hb dX10_scans_115 rfl ?_
                refine va_get (D := (dC, dI)) (ci := 8) (v := .int x76) (C := RX10) (T := TX10) (N := 32) hx hb hts (in1 tw_X10) hown hK hP 0 rfl rfl 25 (by decide) (hts _ (List.mem_cons_of_mem _ kw_325)) (fun _ h9 => h9) rfl dX10_scans_116 ?_
                refine lv_iconst (v := (1 : Int32)) hx hb dX10_scans_119 (by decide) ?_
                refine lv_iadd hx hb dX10_scans_120 ?_
                obtain ⟨x86, e87, hf⟩ := nm_some hf
                refine lv_tope e87 ?_
                refine va_put (D := (dC, dI)) (ci := 8) (v := .int x86) (ty := tyX10 25) (C := RX10) (T := TX10) (N := 32) hx hb hts (in1 tw_X10) tyX10 tyX10_ok nmX10 hown hK hP hD hS 0 rfl rfl 25 (by decide) (hts _ (List.mem_cons_of_mem _ kw_325)) (fun _ h9 => h9) rfl (tyX10_ok 25 (by decide)) rfl rfl (Nat.le_of_ble_eq_true rfl) dX10_scans_121 (fun H locs hP hD hS => ?_)
                have hP : va_P (dC, dI) vwCl [(h_t, .inr (8, fX10 h_t_book h_t_images h_t_kept h_t_aside h_t_far h_t_then h_t_row h_t_mays h_t_firstRow h_t_low h_t_high t_noOlder t_thanThis t_known t_knownAge t_moved h_t_lowOne h_t_highOne h_t_ways t_met h_t_left t_hours t_greatest h_t_text t_typed x86 x7 t_token t_value h_t_verbs h_t_nums t_items)), (h_t_text, .inl (cI, 240, .inl t_text))] H := hP
                have hD : va_D A [(h_t, .inr (8, fX10 h_t_book h_t_images h_t_kept h_t_aside h_t_far h_t_then h_t_row h_t_mays h_t_firstRow h_t_low h_t_high t_noOlder t_thanThis t_known t_knownAge t_moved h_t_lowOne h_t_highOne h_t_ways t_met h_t_left t_hours t_greatest h_t_text t_typed x86 x7 t_token t_value h_t_verbs h_t_nums t_items)), (h_t_text, .inl (cI, 240, .inl t_text))] := hD
                refine lv_goto (tgt := 62) hx hb dX10_scans_124 (by decide) ?_
                exact ih78 _ _ _ _ hf hX80 _ _ hP hD hS _ (lv_sub hl [1, 0] rfl)
              clear hf
              have hf := hg
              refine lv_icmp_le (tgt := 91) hx hb dX10_scans_84 (by decide) (fun c88 => ?_) (fun c88 => ?_)
              · replace hf := ifp c88 hf
                refine lv_ldc2 (v := (32 : Int64)) hx hb hown (hts _ (List.mem_cons_of_mem _ kw_345)) dX10_scans_91 ?_
                refine lv_lload_n hx hb dX10_scans_94 rfl (lv_at hl 1 rfl) ?_
                refine lv_lmul hx hb dX10_scans_95 ?_
                refine lv_aload_n hx hb dX10_scans_96 rfl (lv_at hl 0 rfl) ?_
                refine va_get (D := (dC, dI)) (ci := 8) (v := .ref h_t_text) (C := RX10) (T := TX10) (N := 32) hx hb hts (in1 tw_X10) hown hK hP 0 rfl rfl 23 (by decide) (hts _ (List.mem_cons_of_mem _ kw_132)) (fun _ h9 => h9) rfl dX10_scans_97 ?_
                refine lv_aload_n hx hb dX10_scans_100 rfl (lv_at hl 0 rfl) ?_
                refine va_get (D := (dC, dI)) (ci := 8) (v := .int x76) (C := RX10) (T := TX10) (N := 32) hx hb hts (in1 tw_X10) hown hK hP 0 rfl rfl 25 (by decide) (hts _ (List.mem_cons_of_mem _ kw_325)) (fun _ h9 => h9) rfl dX10_scans_101 ?_
                obtain ⟨g89, hf⟩ := chk_some hf
                refine va_iald hx hb hK hP 1 0 rfl rfl (gin_in g89) dX10_scans_104 ?_
                refine lv_i2l hx hb dX10_scans_105 rfl ?_
                refine lv_ladd hx hb dX10_scans_106 ?_
                refine lv_ldc2 (v := (97 : Int64)) hx hb hown (hts _ (List.mem_cons_of_mem _ kw_346)) dX10_scans_107 ?_
                refine lv_lsub hx hb dX10_scans_110 ?_
                refine lv_lconst (v := (1 : Int64)) hx hb dX10_scans_111 (by decide) ?_
                refine lv_ladd hx hb dX10_scans_112 ?_
                obtain rfl := inj1 hf
                exact J85 _ _ hP hD hS _ (lv_sub hl [0] rfl)
              · replace hf := ifn c88 hf
                refine lv_lconst (v := (0 : Int64)) hx hb dX10_scans_87 (by decide) ?_
                refine lv_goto (tgt := 113) hx hb dX10_scans_88 (by decide) ?_
                obtain rfl := inj1 hf
                exact J85 _ _ hP hD hS _ (lv_sub hl [0] rfl)
        obtain ⟨x74, x75, hg, hf⟩ := bd2_some hf
        refine L90 FU _ _ _ _ hg ?_ _ _ hP hD hS _ (lv_sub hl [1, 0] rfl)
        · intro H locs hP hD hS ls hl
          refine lv_aload_n hx hb dX10_scans_127 rfl (lv_at hl 0 rfl) ?_
          refine lv_aload_n hx hb dX10_scans_128 rfl (lv_at hl 0 rfl) ?_
          refine va_get (D := (dC, dI)) (ci := 8) (v := .int x74) (C := RX10) (T := TX10) (N := 32) hx hb hts (in1 tw_X10) hown hK hP 0 rfl rfl 25 (by decide) (hts _ (List.mem_cons_of_mem _ kw_325)) (fun _ h9 => h9) rfl dX10_scans_129 ?_
          refine lv_aload_n hx hb dX10_scans_132 rfl (lv_at hl 0 rfl) ?_
          refine va_get (D := (dC, dI)) (ci := 8) (v := .int x7) (C := RX10) (T := TX10) (N := 32) hx hb hts (in1 tw_X10) hown hK hP 0 rfl rfl 26 (by decide) (hts _ (List.mem_cons_of_mem _ kw_342)) (fun _ h9 => h9) rfl dX10_scans_133 ?_
          refine lv_isub hx hb dX10_scans_136 ?_
          refine lv_bipush (v := (7 : Int32)) hx hb dX10_scans_137 (by decide) ?_
          obtain ⟨x91, hg, hf⟩ := bd1_some hf
          have J92 : ∀ (H : Heap) (locs : List Loc), va_P (dC, dI) vwCl [(h_t, .inr (8, fX10 h_t_book h_t_images h_t_kept h_t_aside h_t_far h_t_then h_t_row h_t_mays h_t_firstRow h_t_low h_t_high t_noOlder t_thanThis t_known t_knownAge t_moved h_t_lowOne h_t_highOne h_t_ways t_met h_t_left t_hours t_greatest h_t_text t_typed x74 x7 t_token t_value h_t_verbs h_t_nums t_items)), (h_t_text, .inl (cI, 240, .inl t_text))] H → va_D A [(h_t, .inr (8, fX10 h_t_book h_t_images h_t_kept h_t_aside h_t_far h_t_then h_t_row h_t_mays h_t_firstRow h_t_low h_t_high t_noOlder t_thanThis t_known t_knownAge t_moved h_t_lowOne h_t_highOne h_t_ways t_met h_t_left t_hours t_greatest h_t_text t_typed x74 x7 t_token t_value h_t_verbs h_t_nums t_items)), (h_t_text, .inl (cI, 240, .inl t_text))] → va_S A s.heap H locs → ∀ ls : Array Slot, lv_has ls 3 [] → W p l e rmX10_scans s m args below meth c H locs 0 0 Q (F0 m 150 ls [.int x91, .ref h_t]) := by
            intro H locs hP hD hS ls hl
            refine va_put (D := (dC, dI)) (ci := 8) (v := .int x91) (ty := tyX10 27) (C := RX10) (T := TX10) (N := 32) hx hb hts (in1 tw_X10) tyX10 tyX10_ok nmX10 hown hK hP hD hS 0 rfl rfl 27 (by decide) (hts _ (List.mem_cons_of_mem _ kw_343)) (fun _ h9 => h9) rfl (tyX10_ok 27 (by decide)) rfl rfl (Nat.le_of_ble_eq_true rfl) dX10_scans_150 (fun H locs hP hD hS => ?_)
            have hP : va_P (dC, dI) vwCl [(h_t, .inr (8, fX10 h_t_book h_t_images h_t_kept h_t_aside h_t_far h_t_then h_t_row h_t_mays h_t_firstRow h_t_low h_t_high t_noOlder t_thanThis t_known t_knownAge t_moved h_t_lowOne h_t_highOne h_t_ways t_met h_t_left t_hours t_greatest h_t_text t_typed x74 x7 x91 t_value h_t_verbs h_t_nums t_items)), (h_t_text, .inl (cI, 240, .inl t_text))] H := hP
            have hD : va_D A [(h_t, .inr (8, fX10 h_t_book h_t_images h_t_kept h_t_aside h_t_far h_t_then h_t_row h_t_mays h_t_firstRow h_t_low h_t_high t_noOlder t_thanThis t_known t_knownAge t_moved h_t_lowOne h_t_highOne h_t_ways t_met h_t_left t_hours t_greatest h_t_text t_typed x74 x7 x91 t_value h_t_verbs h_t_nums t_items)), (h_t_text, .inl (cI, 240, .inl t_text))] := hD
            obtain ⟨rfl, rfl, rfl, rfl⟩ := inj4 hf
            subst hQ
            exact CM_vret hx hb hr hlocks hAe hP hD hS dX10_scans_153
          clear hf
          have hf := hg
          refine lv_icmp_le (tgt := 146) hx hb dX10_scans_139 (by decide) (fun c93 => ?_) (fun c93 => ?_)
          · replace hf := ifp c93 hf
            refine lv_lload_n hx hb dX10_scans_146 rfl (lv_at hl 1 rfl) ?_
            obtain ⟨r94, hg95, hf⟩ := bd1_some hf
            refine CM_callS (As := [.long x75]) (rest := [.ref h_t]) (wc := []) (w1 := []) (wr := [(h_t, .inr (8, fX10 h_t_book h_t_images h_t_kept h_t_aside h_t_far h_t_then h_t_row h_t_mays h_t_firstRow h_t_low h_t_high t_noOlder t_thanThis t_known t_knownAge t_moved h_t_lowOne h_t_highOne h_t_ways t_met h_t_left t_hours t_greatest h_t_text t_typed x74 x7 t_token t_value h_t_verbs h_t_nums t_items)), (h_t_text, .inl (cI, 240, .inl t_text))]) (wo := [(h_t, .inr (8, fX10 h_t_book h_t_images h_t_kept h_t_aside h_t_far h_t_then h_t_row h_t_mays h_t_firstRow h_t_low h_t_high t_noOlder t_thanThis t_known t_knownAge t_moved h_t_lowOne h_t_highOne h_t_ways t_met h_t_left t_hours t_greatest h_t_text t_typed x74 x7 t_token t_value h_t_verbs h_t_nums t_items)), (h_t_text, .inl (cI, 240, .inl t_text))]) (v := (some (.int r94))) ⟨hx, hb, hml, hown, hts⟩ (c_X10_wordOf l dC dI cI cZ te x75 r94 hg95) (va_cwS 1 hts (gS kw_347 kw_348 kw_159 kw_349) rfl rfl rfl (by decide +kernel) ⟨Nat.le_of_ble_eq_true rfl, Nat.le_of_ble_eq_true rfl⟩) (kS_env te) hK hP hD hS hA hE [] [0, 1] [0, 1] rfl rfl (by decide) (by decide) (by decide) (by decide) rfl rfl hl.1 rfl (Nat.le_of_ble_eq_true rfl) dX10_scans_147 ⟨Nat.zero_le _, Nat.zero_le _⟩ (fun H locs hP hD hS => ?_)
            show W p l e rmX10_scans s m args below meth c H locs 0 0 Q (F0 m 150 ls [.int r94, .ref h_t])
            obtain rfl := inj1 hf
            exact J92 _ _ hP hD hS _ (lv_sub hl [] rfl)
          · replace hf := ifn c93 hf
            refine lv_iconst (v := (1 : Int32)) hx hb dX10_scans_142 (by decide) ?_
            refine lv_goto (tgt := 150) hx hb dX10_scans_143 (by decide) ?_
            obtain rfl := inj1 hf
            exact J92 _ _ hP hD hS _ (lv_sub hl [] rfl)
    · replace hf := ifp c18 hf
      refine lv_aload_n hx hb dX10_scans_43 rfl (lv_at hl 0 rfl) ?_
      refine lv_iconst (v := (0 : Int32)) hx hb dX10_scans_44 (by decide) ?_
      refine va_put (D := (dC, dI)) (ci := 8) (v := .int (0 : Int32)) (ty := tyX10 27) (C := RX10) (T := TX10) (N := 32) hx hb hts (in1 tw_X10) tyX10 tyX10_ok nmX10 hown hK hP hD hS 0 rfl rfl 27 (by decide) (hts _ (List.mem_cons_of_mem _ kw_343)) (fun _ h9 => h9) rfl (tyX10_ok 27 (by decide)) rfl rfl (Nat.le_of_ble_eq_true rfl) dX10_scans_45 (fun H locs hP hD hS => ?_)
      have hP : va_P (dC, dI) vwCl [(h_t, .inr (8, fX10 h_t_book h_t_images h_t_kept h_t_aside h_t_far h_t_then h_t_row h_t_mays h_t_firstRow h_t_low h_t_high t_noOlder t_thanThis t_known t_knownAge t_moved h_t_lowOne h_t_highOne h_t_ways t_met h_t_left t_hours t_greatest h_t_text t_typed x7 x7 (0 : Int32) t_value h_t_verbs h_t_nums t_items)), (h_t_text, .inl (cI, 240, .inl t_text))] H := hP
      have hD : va_D A [(h_t, .inr (8, fX10 h_t_book h_t_images h_t_kept h_t_aside h_t_far h_t_then h_t_row h_t_mays h_t_firstRow h_t_low h_t_high t_noOlder t_thanThis t_known t_knownAge t_moved h_t_lowOne h_t_highOne h_t_ways t_met h_t_left t_hours t_greatest h_t_text t_typed x7 x7 (0 : Int32) t_value h_t_verbs h_t_nums t_items)), (h_t_text, .inl (cI, 240, .inl t_text))] := hD
      obtain ⟨rfl, rfl, rfl, rfl⟩ := inj4 hf
      subst hQ
      exact CM_vret hx hb hr hlocks hAe hP hD hS dX10_scans_48
def rmX10_numbers : Room := { frames := 0, cells := 0, slots := 0, locals := 0 }
abbrev wqX10_numbers : List Cond := Cond.code yX10_numbers cX10_numbers 1 (some .int) :: tG
set_option maxHeartbeats 4000000 in
set_option maxRecDepth 100000 in
theorem c_X10_numbers (l : Launch) (dC : Nat → ClassId) (dI : Nat → Nat → Nat) (cI cZ : ClassId) (te : Nat → Nat) (p1 : Int32) (o0 : Int32) (hf : f_X10_numbers p1 = some o0) : CM l yX10_numbers wqX10_numbers rmX10_numbers (kS te) dC dI cI cZ [.int p1] [] [] (some (.int o0)) := by
  refine CM_of (cc := cX10_numbers) (maxL := 1) (ret := (some .int)) (by decide +kernel) rfl (Nat.le_of_ble_eq_true rfl) ?_
  intro p e s m args below meth c A Q hx hb hr hml hown hts hlocks hA hK hP hD hS hE hQ hAe ls hl
  have hown : s.vm.findClass RX10 = some m.cls := hown
  have hl : lv_has ls 1 [(0, .int p1)] := hl
  unfold f_X10_numbers at hf
  refine lv_iload_n hx hb dX10_numbers_0 rfl (lv_at hl 0 rfl) ?_
  refine lv_bipush (v := (13 : Int32)) hx hb dX10_numbers_1 (by decide) ?_
  refine lv_icmp_ne (tgt := 10) hx hb dX10_numbers_3 (by decide) (fun c1 => ?_) (fun c1 => ?_)
  · replace hf := ifn c1 hf
    refine lv_iload_n hx hb dX10_numbers_10 rfl (lv_at hl 0 rfl) ?_
    refine lv_bipush (v := (13 : Int32)) hx hb dX10_numbers_11 (by decide) ?_
    refine lv_icmp_ge (tgt := 20) hx hb dX10_numbers_13 (by decide) (fun c2 => ?_) (fun c2 => ?_)
    · replace hf := ifp c2 hf
      refine lv_iload_n hx hb dX10_numbers_20 rfl (lv_at hl 0 rfl) ?_
      refine lv_bipush (v := (15 : Int32)) hx hb dX10_numbers_21 (by decide) ?_
      refine lv_icmp_ne (tgt := 30) hx hb dX10_numbers_23 (by decide) (fun c3 => ?_) (fun c3 => ?_)
      · replace hf := ifn c3 hf
        refine lv_iconst (v := (3 : Int32)) hx hb dX10_numbers_30 (by decide) ?_
        obtain rfl := inj1 hf
        subst hQ
        exact CM_iret hx hb hr rfl hlocks hAe hP hD hS dX10_numbers_31
      · replace hf := ifp c3 hf
        refine lv_iconst (v := (4 : Int32)) hx hb dX10_numbers_26 (by decide) ?_
        refine lv_goto (tgt := 31) hx hb dX10_numbers_27 (by decide) ?_
        obtain rfl := inj1 hf
        subst hQ
        exact CM_iret hx hb hr rfl hlocks hAe hP hD hS dX10_numbers_31
    · replace hf := ifn c2 hf
      refine lv_iconst (v := (2 : Int32)) hx hb dX10_numbers_16 (by decide) ?_
      refine lv_goto (tgt := 31) hx hb dX10_numbers_17 (by decide) ?_
      obtain rfl := inj1 hf
      subst hQ
      exact CM_iret hx hb hr rfl hlocks hAe hP hD hS dX10_numbers_31
  · replace hf := ifp c1 hf
    refine lv_iconst (v := (0 : Int32)) hx hb dX10_numbers_6 (by decide) ?_
    refine lv_goto (tgt := 31) hx hb dX10_numbers_7 (by decide) ?_
    obtain rfl := inj1 hf
    subst hQ
    exact CM_iret hx hb hr rfl hlocks hAe hP hD hS dX10_numbers_31
def rmX10_reads : Room := { frames := 3, cells := 0, slots := 0, locals := 69 }
abbrev wqX10_reads : List Cond := Cond.code yX10_reads cX10_reads 3 (some .boolean) :: tG
set_option maxHeartbeats 4000000 in
set_option maxRecDepth 100000 in
theorem c_X10_reads (l : Launch) (dC : Nat → ClassId) (dI : Nat → Nat → Nat) (cI cZ : ClassId) (te : Nat → Nat) (h_t : Nat) (h_t_book : Nat) (h_t_images : Nat) (h_t_kept : Nat) (h_t_aside : Nat) (h_t_far : Nat) (h_t_then : Nat) (h_t_row : Nat) (h_t_mays : Nat) (h_t_firstRow : Nat) (h_t_low : Nat) (h_t_high : Nat) (h_t_lowOne : Nat) (h_t_highOne : Nat) (h_t_ways : Nat) (h_t_left : Nat) (h_t_text : Nat) (h_t_verbs : Nat) (h_t_nums : Nat) (t_noOlder : Int32) (t_thanThis : Int32) (t_known : Int32) (t_knownAge : Int32) (t_moved : Int32) (t_met : Int32) (t_hours : Int32) (t_greatest : Int32) (t_typed : Int32) (t_at : Int32) (t_start : Int32) (t_token : Int32) (t_value : Int32) (t_items : Int32) (t_text : Nat → Int32) (t_nums : Nat → Int32) (t_verbs : Nat → Int32) (o0 : Int32) (o1 : Int32) (o2 : Int32) (o3 : Int32) (o4 : Int32) (o5 : Int32) (o6 : Nat → Int32) (o7 : Nat → Int32) (hf : f_X10_reads t_typed t_value t_text t_nums t_verbs = some (o0, o1, o2, o3, o4, o5, o6, o7)) : CM l yX10_reads wqX10_reads rmX10_reads (kS te) dC dI cI cZ [.ref h_t] [(h_t, .inr (8, fX10 h_t_book h_t_images h_t_kept h_t_aside h_t_far h_t_then h_t_row h_t_mays h_t_firstRow h_t_low h_t_high t_noOlder t_thanThis t_known t_knownAge t_moved h_t_lowOne h_t_highOne h_t_ways t_met h_t_left t_hours t_greatest h_t_text t_typed t_at t_start t_token t_value h_t_verbs h_t_nums t_items)), (h_t_text, .inl (cI, 240, .inl t_text)), (h_t_nums, .inl (cI, 960, .inl t_nums)), (h_t_verbs, .inl (cI, 240, .inl t_verbs))] [(h_t, .inr (8, fX10 h_t_book h_t_images h_t_kept h_t_aside h_t_far h_t_then h_t_row h_t_mays h_t_firstRow h_t_low h_t_high t_noOlder t_thanThis t_known t_knownAge t_moved h_t_lowOne h_t_highOne h_t_ways t_met h_t_left t_hours t_greatest h_t_text t_typed o1 o2 o3 o4 h_t_verbs h_t_nums o5)), (h_t_text, .inl (cI, 240, .inl t_text)), (h_t_nums, .inl (cI, 960, .inl o6)), (h_t_verbs, .inl (cI, 240, .inl o7))] (some (.int o0)) := by
  refine CM_of (cc := cX10_reads) (maxL := 3) (ret := (some .boolean)) (by decide +kernel) rfl (Nat.le_of_ble_eq_true rfl) ?_
  intro p e s m args below meth c A Q hx hb hr hml hown hts hlocks hA hK hP hD hS hE hQ hAe ls hl
  have hown : s.vm.findClass RX10 = some m.cls := hown
  have hl : lv_has ls 3 [(0, .ref h_t)] := hl
  unfold f_X10_reads at hf
  refine lv_aload_n hx hb dX10_reads_0 rfl (lv_at hl 0 rfl) ?_
  refine lv_iconst (v := (0 : Int32)) hx hb dX10_reads_1 (by decide) ?_
  refine va_put (D := (dC, dI)) (ci := 8) (v := .int (0 : Int32)) (ty := tyX10 25) (C := RX10) (T := TX10) (N := 32) hx hb hts (in1 tw_X10) tyX10 tyX10_ok nmX10 hown hK hP hD hS 0 rfl rfl 25 (by decide) (hts _ (List.mem_cons_of_mem _ kw_325)) (fun _ h9 => h9) rfl (tyX10_ok 25 (by decide)) rfl rfl (Nat.le_of_ble_eq_true rfl) dX10_reads_2 (fun H locs hP hD hS => ?_)
  have hP : va_P (dC, dI) vwCl [(h_t, .inr (8, fX10 h_t_book h_t_images h_t_kept h_t_aside h_t_far h_t_then h_t_row h_t_mays h_t_firstRow h_t_low h_t_high t_noOlder t_thanThis t_known t_knownAge t_moved h_t_lowOne h_t_highOne h_t_ways t_met h_t_left t_hours t_greatest h_t_text t_typed (0 : Int32) t_start t_token t_value h_t_verbs h_t_nums t_items)), (h_t_text, .inl (cI, 240, .inl t_text)), (h_t_nums, .inl (cI, 960, .inl t_nums)), (h_t_verbs, .inl (cI, 240, .inl t_verbs))] H := hP
  have hD : va_D A [(h_t, .inr (8, fX10 h_t_book h_t_images h_t_kept h_t_aside h_t_far h_t_then h_t_row h_t_mays h_t_firstRow h_t_low h_t_high t_noOlder t_thanThis t_known t_knownAge t_moved h_t_lowOne h_t_highOne h_t_ways t_met h_t_left t_hours t_greatest h_t_text t_typed (0 : Int32) t_start t_token t_value h_t_verbs h_t_nums t_items)), (h_t_text, .inl (cI, 240, .inl t_text)), (h_t_nums, .inl (cI, 960, .inl t_nums)), (h_t_verbs, .inl (cI, 240, .inl t_verbs))] := hD
  refine lv_aload_n hx hb dX10_reads_5 rfl (lv_at hl 0 rfl) ?_
  refine lv_iconst (v := (0 : Int32)) hx hb dX10_reads_6 (by decide) ?_
  refine va_put (D := (dC, dI)) (ci := 8) (v := .int (0 : Int32)) (ty := tyX10 31) (C := RX10) (T := TX10) (N := 32) hx hb hts (in1 tw_X10) tyX10 tyX10_ok nmX10 hown hK hP hD hS 0 rfl rfl 31 (by decide) (hts _ (List.mem_cons_of_mem _ kw_350)) (fun _ h9 => h9) rfl (tyX10_ok 31 (by decide)) rfl rfl (Nat.le_of_ble_eq_true rfl) dX10_reads_7 (fun H locs hP hD hS => ?_)
  have hP : va_P (dC, dI) vwCl [(h_t, .inr (8, fX10 h_t_book h_t_images h_t_kept h_t_aside h_t_far h_t_then h_t_row h_t_mays h_t_firstRow h_t_low h_t_high t_noOlder t_thanThis t_known t_knownAge t_moved h_t_lowOne h_t_highOne h_t_ways t_met h_t_left t_hours t_greatest h_t_text t_typed (0 : Int32) t_start t_token t_value h_t_verbs h_t_nums (0 : Int32))), (h_t_text, .inl (cI, 240, .inl t_text)), (h_t_nums, .inl (cI, 960, .inl t_nums)), (h_t_verbs, .inl (cI, 240, .inl t_verbs))] H := hP
  have hD : va_D A [(h_t, .inr (8, fX10 h_t_book h_t_images h_t_kept h_t_aside h_t_far h_t_then h_t_row h_t_mays h_t_firstRow h_t_low h_t_high t_noOlder t_thanThis t_known t_knownAge t_moved h_t_lowOne h_t_highOne h_t_ways t_met h_t_left t_hours t_greatest h_t_text t_typed (0 : Int32) t_start t_token t_value h_t_verbs h_t_nums (0 : Int32))), (h_t_text, .inl (cI, 240, .inl t_text)), (h_t_nums, .inl (cI, 960, .inl t_nums)), (h_t_verbs, .inl (cI, 240, .inl t_verbs))] := hD
  refine lv_aload_n hx hb dX10_reads_10 rfl (lv_at hl 0 rfl) ?_
  obtain ⟨x1, x2, x3, x4, hg5, hf⟩ := bd4_some hf
  refine CM_callV (C := RX10) (As := []) (rest := []) (wc := [(h_t, .inr (8, fX10 h_t_book h_t_images h_t_kept h_t_aside h_t_far h_t_then h_t_row h_t_mays h_t_firstRow h_t_low h_t_high t_noOlder t_thanThis t_known t_knownAge t_moved h_t_lowOne h_t_highOne h_t_ways t_met h_t_left t_hours t_greatest h_t_text t_typed (0 : Int32) t_start t_token t_value h_t_verbs h_t_nums (0 : Int32))), (h_t_text, .inl (cI, 240, .inl t_text))]) (w1 := [(h_t, .inr (8, fX10 h_t_book h_t_images h_t_kept h_t_aside h_t_far h_t_then h_t_row h_t_mays h_t_firstRow h_t_low h_t_high t_noOlder t_thanThis t_known t_knownAge t_moved h_t_lowOne h_t_highOne h_t_ways t_met h_t_left t_hours t_greatest h_t_text t_typed x1 x2 x3 x4 h_t_verbs h_t_nums (0 : Int32))), (h_t_text, .inl (cI, 240, .inl t_text))]) (wr := [(h_t_nums, .inl (cI, 960, .inl t_nums)), (h_t_verbs, .inl (cI, 240, .inl t_verbs))]) (wo := [(h_t, .inr (8, fX10 h_t_book h_t_images h_t_kept h_t_aside h_t_far h_t_then h_t_row h_t_mays h_t_firstRow h_t_low h_t_high t_noOlder t_thanThis t_known t_knownAge t_moved h_t_lowOne h_t_highOne h_t_ways t_met h_t_left t_hours t_greatest h_t_text t_typed x1 x2 x3 x4 h_t_verbs h_t_nums (0 : Int32))), (h_t_text, .inl (cI, 240, .inl t_text)), (h_t_nums, .inl (cI, 960, .inl t_nums)), (h_t_verbs, .inl (cI, 240, .inl t_verbs))]) (v := (none)) ⟨hx, hb, hml, hown, hts⟩ (c_X10_scans l dC dI cI cZ te h_t h_t_book h_t_images h_t_kept h_t_aside h_t_far h_t_then h_t_row h_t_mays h_t_firstRow h_t_low h_t_high h_t_lowOne h_t_highOne h_t_ways h_t_left h_t_text h_t_verbs h_t_nums t_noOlder t_thanThis t_known t_knownAge t_moved t_met t_hours t_greatest t_typed (0 : Int32) t_start t_token t_value (0 : Int32) t_text x1 x2 x3 x4 hg5) (cwV 0 hts (gV kw_351 kw_352 kw_353 kw_159 kw_354) rfl rfl rfl (by decide +kernel) ⟨Nat.le_of_ble_eq_true rfl, Nat.le_of_ble_eq_true rfl⟩) (kS_env te) hK hP hD hS hA hE [0, 1] [2, 3] [2, 3, 0, 1] rfl rfl (by decide) (by decide) (by decide) (by decide) rfl 0 8 rfl rfl rfl rfl hl.1 rfl (Nat.le_of_ble_eq_true rfl) dX10_reads_11 ⟨Nat.zero_le _, Nat.zero_le _⟩ (fun H locs hP hD hS => ?_)
  show W p l e rmX10_reads s m args below meth c H locs 0 0 Q (F0 m 14 ls [])
  have L164 : ∀ (fu94 : Nat) (y86 : Nat → Int32) (y87 : Nat → Int32) (x88 : Int32) (x89 : Int32) (x90 : Int32) (x91 : Int32) (x92 : Int32) (q85 : Nat) (y78 : Nat → Int32) (y79 : Nat → Int32) (x80 : Int32) (x81 : Int32) (x82 : Int32) (x83 : Int32) (x84 : Int32), f_X10_reads_L3 t_typed t_text fu94 y86 y87 x88 x89 x90 x91 x92 = some (q85, y78, y79, x80, x81, x82, x83, x84) → (q85 = 0 → ∀ (H : Heap) (locs : List Loc), va_P (dC, dI) vwCl [(h_t, .inr (8, fX10 h_t_book h_t_images h_t_kept h_t_aside h_t_far h_t_then h_t_row h_t_mays h_t_firstRow h_t_low h_t_high t_noOlder t_thanThis t_known t_knownAge t_moved h_t_lowOne h_t_highOne h_t_ways t_met h_t_left t_hours t_greatest h_t_text t_typed x80 x81 x82 x83 h_t_verbs h_t_nums x84)), (h_t_text, .inl (cI, 240, .inl t_text)), (h_t_nums, .inl (cI, 960, .inl y78)), (h_t_verbs, .inl (cI, 240, .inl y79))] H → va_D A [(h_t, .inr (8, fX10 h_t_book h_t_images h_t_kept h_t_aside h_t_far h_t_then h_t_row h_t_mays h_t_firstRow h_t_low h_t_high t_noOlder t_thanThis t_known t_knownAge t_moved h_t_lowOne h_t_highOne h_t_ways t_met h_t_left t_hours t_greatest h_t_text t_typed x80 x81 x82 x83 h_t_verbs h_t_nums x84)), (h_t_text, .inl (cI, 240, .inl t_text)), (h_t_nums, .inl (cI, 960, .inl y78)), (h_t_verbs, .inl (cI, 240, .inl y79))] → va_S A s.heap H locs → ∀ ls : Array Slot, lv_has ls 3 [] → W p l e rmX10_reads s m args below meth c H locs 0 0 Q (F0 m 32 ls [])) → (q85 = 1 → ∀ (H : Heap) (locs : List Loc), va_P (dC, dI) vwCl [(h_t, .inr (8, fX10 h_t_book h_t_images h_t_kept h_t_aside h_t_far h_t_then h_t_row h_t_mays h_t_firstRow h_t_low h_t_high t_noOlder t_thanThis t_known t_knownAge t_moved h_t_lowOne h_t_highOne h_t_ways t_met h_t_left t_hours t_greatest h_t_text t_typed x80 x81 x82 x83 h_t_verbs h_t_nums x84)), (h_t_text, .inl (cI, 240, .inl t_text)), (h_t_nums, .inl (cI, 960, .inl y78)), (h_t_verbs, .inl (cI, 240, .inl y79))] H → va_D A [(h_t, .inr (8, fX10 h_t_book h_t_images h_t_kept h_t_aside h_t_far h_t_then h_t_row h_t_mays h_t_firstRow h_t_low h_t_high t_noOlder t_thanThis t_known t_knownAge t_moved h_t_lowOne h_t_highOne h_t_ways t_met h_t_left t_hours t_greatest h_t_text t_typed x80 x81 x82 x83 h_t_verbs h_t_nums x84)), (h_t_text, .inl (cI, 240, .inl t_text)), (h_t_nums, .inl (cI, 960, .inl y78)), (h_t_verbs, .inl (cI, 240, .inl y79))] → va_S A s.heap H locs → ∀ ls : Array Slot, lv_has ls 3 [] → W p l e rmX10_reads s m args below meth c H locs 0 0 Q (F0 m 56 ls [])) → (q85 = 2 → ∀ (H : Heap) (locs : List Loc), va_P (dC, dI) vwCl [(h_t, .inr (8, fX10 h_t_book h_t_images h_t_kept h_t_aside h_t_far h_t_then h_t_row h_t_mays h_t_firstRow h_t_low h_t_high t_noOlder t_thanThis t_known t_knownAge t_moved h_t_lowOne h_t_highOne h_t_ways t_met h_t_left t_hours t_greatest h_t_text t_typed x80 x81 x82 x83 h_t_verbs h_t_nums x84)), (h_t_text, .inl (cI, 240, .inl t_text)), (h_t_nums, .inl (cI, 960, .inl y78)), (h_t_verbs, .inl (cI, 240, .inl y79))] H → va_D A [(h_t, .inr (8, fX10 h_t_book h_t_images h_t_kept h_t_aside h_t_far h_t_then h_t_row h_t_mays h_t_firstRow h_t_low h_t_high t_noOlder t_thanThis t_known t_knownAge t_moved h_t_lowOne h_t_highOne h_t_ways t_met h_t_left t_hours t_greatest h_t_text t_typed x80 x81 x82 x83 h_t_verbs h_t_nums x84)), (h_t_text, .inl (cI, 240, .inl t_text)), (h_t_nums, .inl (cI, 960, .inl y78)), (h_t_verbs, .inl (cI, 240, .inl y79))] → va_S A s.heap H locs → ∀ ls : Array Slot, lv_has ls 3 [] → W p l e rmX10_reads s m args below meth c H locs 0 0 Q (F0 m 93 ls [])) → (q85 = 3 → ∀ (H : Heap) (locs : List Loc), va_P (dC, dI) vwCl [(h_t, .inr (8, fX10 h_t_book h_t_images h_t_kept h_t_aside h_t_far h_t_then h_t_row h_t_mays h_t_firstRow h_t_low h_t_high t_noOlder t_thanThis t_known t_knownAge t_moved h_t_lowOne h_t_highOne h_t_ways t_met h_t_left t_hours t_greatest h_t_text t_typed x80 x81 x82 x83 h_t_verbs h_t_nums x84)), (h_t_text, .inl (cI, 240, .inl t_text)), (h_t_nums, .inl (cI, 960, .inl y78)), (h_t_verbs, .inl (cI, 240, .inl y79))] H → va_D A [(h_t, .inr (8, fX10 h_t_book h_t_images h_t_kept h_t_aside h_t_far h_t_then h_t_row h_t_mays h_t_firstRow h_t_low h_t_high t_noOlder t_thanThis t_known t_knownAge t_moved h_t_lowOne h_t_highOne h_t_ways t_met h_t_left t_hours t_greatest h_t_text t_typed x80 x81 x82 x83 h_t_verbs h_t_nums x84)), (h_t_text, .inl (cI, 240, .inl t_text)), (h_t_nums, .inl (cI, 960, .inl y78)), (h_t_verbs, .inl (cI, 240, .inl y79))] → va_S A s.heap H locs → ∀ ls : Array Slot, lv_has ls 3 [] → W p l e rmX10_reads s m args below meth c H locs 0 0 Q (F0 m 122 ls [])) → ∀ (H : Heap) (locs : List Loc), va_P (dC, dI) vwCl [(h_t, .inr (8, fX10 h_t_book h_t_images h_t_kept h_t_aside h_t_far h_t_then h_t_row h_t_mays h_t_firstRow h_t_low h_t_high t_noOlder t_thanThis t_known t_knownAge t_moved h_t_lowOne h_t_highOne h_t_ways t_met h_t_left t_hours t_greatest h_t_text t_typed x88 x89 x90 x91 h_t_verbs h_t_nums x92)), (h_t_text, .inl (cI, 240, .inl t_text)), (h_t_nums, .inl (cI, 960, .inl y86)), (h_t_verbs, .inl (cI, 240, .inl y87))] H → va_D A [(h_t, .inr (8, fX10 h_t_book h_t_images h_t_kept h_t_aside h_t_far h_t_then h_t_row h_t_mays h_t_firstRow h_t_low h_t_high t_noOlder t_thanThis t_known t_knownAge t_moved h_t_lowOne h_t_highOne h_t_ways t_met h_t_left t_hours t_greatest h_t_text t_typed x88 x89 x90 x91 h_t_verbs h_t_nums x92)), (h_t_text, .inl (cI, 240, .inl t_text)), (h_t_nums, .inl (cI, 960, .inl y86)), (h_t_verbs, .inl (cI, 240, .inl y87))] → va_S A s.heap H locs → ∀ ls : Array Slot, lv_has ls 3 [(0, .ref h_t)] → W p l e rmX10_reads s m args below meth c H locs 0 0 Q (F0 m 14 ls []) := by
    intro fu94
    induction fu94 with
    | zero =>
      intro y86 y87 x88 x89 x90 x91 x92 q85 y78 y79 x80 x81 x82 x83 x84 hf
      unfold f_X10_reads_L3 at hf
      exact none_ne hf
    | succ fu94 ih93 =>
      intro y86 y87 x88 x89 x90 x91 x92 q85 y78 y79 x80 x81 x82 x83 x84 hf hX95 hX96 hX97 hX98 H locs hP hD hS ls hl
      unfold f_X10_reads_L3 at hf
      refine lv_aload_n hx hb dX10_reads_14 rfl (lv_at hl 0 rfl) ?_
      refine va_get (D := (dC, dI)) (ci := 8) (v := .int x90) (C := RX10) (T := TX10) (N := 32) hx hb hts (in1 tw_X10) hown hK hP 0 rfl rfl 27 (by decide) (hts _ (List.mem_cons_of_mem _ kw_343)) (fun _ h9 => h9) rfl dX10_reads_15 ?_
      refine lv_if_eq (tgt := 122) hx hb dX10_reads_18 (by decide) (fun c99 => ?_) (fun c99 => ?_)
      · replace hf := ifp c99 hf
        obtain ⟨rfl, rfl, rfl, rfl, rfl, rfl, rfl, rfl⟩ := inj8 hf
        exact hX98 rfl _ _ hP hD hS _ (lv_sub hl [] rfl)
      · replace hf := ifn c99 hf
        refine lv_aload_n hx hb dX10_reads_21 rfl (lv_at hl 0 rfl) ?_
        refine va_get (D := (dC, dI)) (ci := 8) (v := .int x90) (C := RX10) (T := TX10) (N := 32) hx hb hts (in1 tw_X10) hown hK hP 0 rfl rfl 27 (by decide) (hts _ (List.mem_cons_of_mem _ kw_343)) (fun _ h9 => h9) rfl dX10_reads_22 ?_
        refine lv_istore_n (lv' := [(1, .int x90), (0, .ref h_t)]) hx hb dX10_reads_25 rfl hl (by decide) rfl (fun ls hl => ?_)
        refine lv_iload_n hx hb dX10_reads_26 rfl (lv_at hl 0 rfl) ?_
        refine lv_bipush (v := (10 : Int32)) hx hb dX10_reads_27 (by decide) ?_
        refine lv_icmp_ge (tgt := 34) hx hb dX10_reads_29 (by decide) (fun c100 => ?_) (fun c100 => ?_)
        · replace hf := ifp c100 hf
          refine lv_aload_n hx hb dX10_reads_34 rfl (lv_at hl 1 rfl) ?_
          obtain ⟨x101, x102, x103, x104, hg105, hf⟩ := bd4_some hf
          refine CM_callV (C := RX10) (As := []) (rest := []) (wc := [(h_t, .inr (8, fX10 h_t_book h_t_images h_t_kept h_t_aside h_t_far h_t_then h_t_row h_t_mays h_t_firstRow h_t_low h_t_high t_noOlder t_thanThis t_known t_knownAge t_moved h_t_lowOne h_t_highOne h_t_ways t_met h_t_left t_hours t_greatest h_t_text t_typed x88 x89 x90 x91 h_t_verbs h_t_nums x92)), (h_t_text, .inl (cI, 240, .inl t_text))]) (w1 := [(h_t, .inr (8, fX10 h_t_book h_t_images h_t_kept h_t_aside h_t_far h_t_then h_t_row h_t_mays h_t_firstRow h_t_low h_t_high t_noOlder t_thanThis t_known t_knownAge t_moved h_t_lowOne h_t_highOne h_t_ways t_met h_t_left t_hours t_greatest h_t_text t_typed x101 x102 x103 x104 h_t_verbs h_t_nums x92)), (h_t_text, .inl (cI, 240, .inl t_text))]) (wr := [(h_t_nums, .inl (cI, 960, .inl y86)), (h_t_verbs, .inl (cI, 240, .inl y87))]) (wo := [(h_t, .inr (8, fX10 h_t_book h_t_images h_t_kept h_t_aside h_t_far h_t_then h_t_row h_t_mays h_t_firstRow h_t_low h_t_high t_noOlder t_thanThis t_known t_knownAge t_moved h_t_lowOne h_t_highOne h_t_ways t_met h_t_left t_hours t_greatest h_t_text t_typed x101 x102 x103 x104 h_t_verbs h_t_nums x92)), (h_t_text, .inl (cI, 240, .inl t_text)), (h_t_nums, .inl (cI, 960, .inl y86)), (h_t_verbs, .inl (cI, 240, .inl y87))]) (v := (none)) ⟨hx, hb, hml, hown, hts⟩ (c_X10_scans l dC dI cI cZ te h_t h_t_book h_t_images h_t_kept h_t_aside h_t_far h_t_then h_t_row h_t_mays h_t_firstRow h_t_low h_t_high h_t_lowOne h_t_highOne h_t_ways h_t_left h_t_text h_t_verbs h_t_nums t_noOlder t_thanThis t_known t_knownAge t_moved t_met t_hours t_greatest t_typed x88 x89 x90 x91 x92 t_text x101 x102 x103 x104 hg105) (cwV 0 hts (gV kw_351 kw_352 kw_353 kw_159 kw_354) rfl rfl rfl (by decide +kernel) ⟨Nat.le_of_ble_eq_true rfl, Nat.le_of_ble_eq_true rfl⟩) (kS_env te) hK hP hD hS hA hE [0, 1] [2, 3] [2, 3, 0, 1] rfl rfl (by decide) (by decide) (by decide) (by decide) rfl 0 8 rfl rfl rfl rfl hl.1 rfl (Nat.le_of_ble_eq_true rfl) dX10_reads_35 ⟨Nat.zero_le _, Nat.zero_le _⟩ (fun H locs hP hD hS => ?_)
          show W p l e rmX10_reads s m args below meth c H locs 0 0 Q (F0 m 38 ls [])
          refine lv_iconst (v := (0 : Int32)) hx hb dX10_reads_38 (by decide) ?_
          refine lv_istore_n (lv' := [(2, .int (0 : Int32)), (1, .int x90), (0, .ref h_t)]) hx hb dX10_reads_39 rfl hl (by decide) rfl (fun ls hl => ?_)
          have L152 : ∀ (fu137 : Nat) (y130 : Nat → Int32) (x131 : Int32) (x132 : Int32) (x133 : Int32) (x134 : Int32) (x135 : Int32) (q129 : Nat) (y124 : Nat → Int32) (x125 : Int32) (x126 : Int32) (x127 : Int32) (x128 : Int32), f_X10_reads_L4 x90 x92 t_typed t_text fu137 y130 x131 x132 x133 x134 x135 = some (q129, y124, x125, x126, x127, x128) → (q129 = 0 → ∀ (H : Heap) (locs : List Loc), va_P (dC, dI) vwCl [(h_t, .inr (8, fX10 h_t_book h_t_images h_t_kept h_t_aside h_t_far h_t_then h_t_row h_t_mays h_t_firstRow h_t_low h_t_high t_noOlder t_thanThis t_known t_knownAge t_moved h_t_lowOne h_t_highOne h_t_ways t_met h_t_left t_hours t_greatest h_t_text t_typed x125 x126 x127 x128 h_t_verbs h_t_nums x92)), (h_t_text, .inl (cI, 240, .inl t_text)), (h_t_nums, .inl (cI, 960, .inl y124)), (h_t_verbs, .inl (cI, 240, .inl y87))] H → va_D A [(h_t, .inr (8, fX10 h_t_book h_t_images h_t_kept h_t_aside h_t_far h_t_then h_t_row h_t_mays h_t_firstRow h_t_low h_t_high t_noOlder t_thanThis t_known t_knownAge t_moved h_t_lowOne h_t_highOne h_t_ways t_met h_t_left t_hours t_greatest h_t_text t_typed x125 x126 x127 x128 h_t_verbs h_t_nums x92)), (h_t_text, .inl (cI, 240, .inl t_text)), (h_t_nums, .inl (cI, 960, .inl y124)), (h_t_verbs, .inl (cI, 240, .inl y87))] → va_S A s.heap H locs → ∀ ls : Array Slot, lv_has ls 3 [] → W p l e rmX10_reads s m args below meth c H locs 0 0 Q (F0 m 56 ls [])) → (q129 = 1 → ∀ (H : Heap) (locs : List Loc), va_P (dC, dI) vwCl [(h_t, .inr (8, fX10 h_t_book h_t_images h_t_kept h_t_aside h_t_far h_t_then h_t_row h_t_mays h_t_firstRow h_t_low h_t_high t_noOlder t_thanThis t_known t_knownAge t_moved h_t_lowOne h_t_highOne h_t_ways t_met h_t_left t_hours t_greatest h_t_text t_typed x125 x126 x127 x128 h_t_verbs h_t_nums x92)), (h_t_text, .inl (cI, 240, .inl t_text)), (h_t_nums, .inl (cI, 960, .inl y124)), (h_t_verbs, .inl (cI, 240, .inl y87))] H → va_D A [(h_t, .inr (8, fX10 h_t_book h_t_images h_t_kept h_t_aside h_t_far h_t_then h_t_row h_t_mays h_t_firstRow h_t_low h_t_high t_noOlder t_thanThis t_known t_knownAge t_moved h_t_lowOne h_t_highOne h_t_ways t_met h_t_left t_hours t_greatest h_t_text t_typed x125 x126 x127 x128 h_t_verbs h_t_nums x92)), (h_t_text, .inl (cI, 240, .inl t_text)), (h_t_nums, .inl (cI, 960, .inl y124)), (h_t_verbs, .inl (cI, 240, .inl y87))] → va_S A s.heap H locs → ∀ ls : Array Slot, lv_has ls 3 [(0, .ref h_t), (1, .int x90)] → W p l e rmX10_reads s m args below meth c H locs 0 0 Q (F0 m 85 ls [])) → ∀ (H : Heap) (locs : List Loc), va_P (dC, dI) vwCl [(h_t, .inr (8, fX10 h_t_book h_t_images h_t_kept h_t_aside h_t_far h_t_then h_t_row h_t_mays h_t_firstRow h_t_low h_t_high t_noOlder t_thanThis t_known t_knownAge t_moved h_t_lowOne h_t_highOne h_t_ways t_met h_t_left t_hours t_greatest h_t_text t_typed x131 x132 x133 x134 h_t_verbs h_t_nums x92)), (h_t_text, .inl (cI, 240, .inl t_text)), (h_t_nums, .inl (cI, 960, .inl y130)), (h_t_verbs, .inl (cI, 240, .inl y87))] H → va_D A [(h_t, .inr (8, fX10 h_t_book h_t_images h_t_kept h_t_aside h_t_far h_t_then h_t_row h_t_mays h_t_firstRow h_t_low h_t_high t_noOlder t_thanThis t_known t_knownAge t_moved h_t_lowOne h_t_highOne h_t_ways t_met h_t_left t_hours t_greatest h_t_text t_typed x131 x132 x133 x134 h_t_verbs h_t_nums x92)), (h_t_text, .inl (cI, 240, .inl t_text)), (h_t_nums, .inl (cI, 960, .inl y130)), (h_t_verbs, .inl (cI, 240, .inl y87))] → va_S A s.heap H locs → ∀ ls : Array Slot, lv_has ls 3 [(0, .ref h_t), (1, .int x90), (2, .int x135)] → W p l e rmX10_reads s m args below meth c H locs 0 0 Q (F0 m 40 ls []) := by
            intro fu137
            induction fu137 with
            | zero =>
              intro y130 x131 x132 x133 x134 x135 q129 y124 x125 x126 x127 x128 hf
              unfold f_X10_reads_L4 at hf
              exact none_ne hf
            | succ fu137 ih136 =>
              intro y130 x131 x132 x133 x134 x135 q129 y124 x125 x126 x127 x128 hf hX138 hX139 H locs hP hD hS ls hl
              unfold f_X10_reads_L4 at hf
              refine lv_iload_n hx hb dX10_reads_40 rfl (lv_at hl 2 rfl) ?_
              refine lv_iload_n hx hb dX10_reads_41 rfl (lv_at hl 1 rfl) ?_
              obtain ⟨r140, hg141, hf⟩ := bd1_some hf
              refine CM_callS (As := [.int x90]) (rest := [.int x135]) (wc := []) (w1 := []) (wr := [(h_t, .inr (8, fX10 h_t_book h_t_images h_t_kept h_t_aside h_t_far h_t_then h_t_row h_t_mays h_t_firstRow h_t_low h_t_high t_noOlder t_thanThis t_known t_knownAge t_moved h_t_lowOne h_t_highOne h_t_ways t_met h_t_left t_hours t_greatest h_t_text t_typed x131 x132 x133 x134 h_t_verbs h_t_nums x92)), (h_t_text, .inl (cI, 240, .inl t_text)), (h_t_nums, .inl (cI, 960, .inl y130)), (h_t_verbs, .inl (cI, 240, .inl y87))]) (wo := [(h_t, .inr (8, fX10 h_t_book h_t_images h_t_kept h_t_aside h_t_far h_t_then h_t_row h_t_mays h_t_firstRow h_t_low h_t_high t_noOlder t_thanThis t_known t_knownAge t_moved h_t_lowOne h_t_highOne h_t_ways t_met h_t_left t_hours t_greatest h_t_text t_typed x131 x132 x133 x134 h_t_verbs h_t_nums x92)), (h_t_text, .inl (cI, 240, .inl t_text)), (h_t_nums, .inl (cI, 960, .inl y130)), (h_t_verbs, .inl (cI, 240, .inl y87))]) (v := (some (.int r140))) ⟨hx, hb, hml, hown, hts⟩ (c_X10_numbers l dC dI cI cZ te x90 r140 hg141) (va_cwS 1 hts (gS kw_355 kw_356 kw_159 kw_357) rfl rfl rfl (by decide +kernel) ⟨Nat.le_of_ble_eq_true rfl, Nat.le_of_ble_eq_true rfl⟩) (kS_env te) hK hP hD hS hA hE [] [0, 1, 2, 3] [0, 1, 2, 3] rfl rfl (by decide) (by decide) (by decide) (by decide) rfl rfl hl.1 rfl (Nat.le_of_ble_eq_true rfl) dX10_reads_42 ⟨Nat.zero_le _, Nat.zero_le _⟩ (fun H locs hP hD hS => ?_)
              show W p l e rmX10_reads s m args below meth c H locs 0 0 Q (F0 m 45 ls [.int r140, .int x135])
              refine lv_icmp_ge (tgt := 85) hx hb dX10_reads_45 (by decide) (fun c142 => ?_) (fun c142 => ?_)
              · replace hf := ifp c142 hf
                obtain ⟨rfl, rfl, rfl, rfl, rfl, rfl⟩ := inj6 hf
                exact hX139 rfl _ _ hP hD hS _ (lv_sub hl [0, 1] rfl)
              · replace hf := ifn c142 hf
                refine lv_aload_n hx hb dX10_reads_48 rfl (lv_at hl 0 rfl) ?_
                refine va_get (D := (dC, dI)) (ci := 8) (v := .int x133) (C := RX10) (T := TX10) (N := 32) hx hb hts (in1 tw_X10) hown hK hP 0 rfl rfl 27 (by decide) (hts _ (List.mem_cons_of_mem _ kw_343)) (fun _ h9 => h9) rfl dX10_reads_49 ?_
                refine lv_iconst (v := (2 : Int32)) hx hb dX10_reads_52 (by decide) ?_
                refine lv_icmp_eq (tgt := 58) hx hb dX10_reads_53 (by decide) (fun c143 => ?_) (fun c143 => ?_)
                · replace hf := ifp c143 hf
                  refine lv_aload_n hx hb dX10_reads_58 rfl (lv_at hl 0 rfl) ?_
                  refine va_get (D := (dC, dI)) (ci := 8) (v := .ref h_t_nums) (C := RX10) (T := TX10) (N := 32) hx hb hts (in1 tw_X10) hown hK hP 0 rfl rfl 30 (by decide) (hts _ (List.mem_cons_of_mem _ kw_134)) (fun _ h9 => h9) rfl dX10_reads_59 ?_
                  refine lv_iconst (v := (4 : Int32)) hx hb dX10_reads_62 (by decide) ?_
                  refine lv_aload_n hx hb dX10_reads_63 rfl (lv_at hl 0 rfl) ?_
                  refine va_get (D := (dC, dI)) (ci := 8) (v := .int x92) (C := RX10) (T := TX10) (N := 32) hx hb hts (in1 tw_X10) hown hK hP 0 rfl rfl 31 (by decide) (hts _ (List.mem_cons_of_mem _ kw_350)) (fun _ h9 => h9) rfl dX10_reads_64 ?_
                  refine lv_imul hx hb dX10_reads_67 ?_
                  refine lv_iload_n hx hb dX10_reads_68 rfl (lv_at hl 2 rfl) ?_
                  refine lv_iadd hx hb dX10_reads_69 ?_
                  refine lv_aload_n hx hb dX10_reads_70 rfl (lv_at hl 0 rfl) ?_
                  refine va_get (D := (dC, dI)) (ci := 8) (v := .int x134) (C := RX10) (T := TX10) (N := 32) hx hb hts (in1 tw_X10) hown hK hP 0 rfl rfl 28 (by decide) (hts _ (List.mem_cons_of_mem _ kw_344)) (fun _ h9 => h9) rfl dX10_reads_71 ?_
                  obtain ⟨g144, hf⟩ := chk_some hf
                  obtain ⟨y145, e146, hf⟩ := nm_some hf
                  refine va_iast hx hb hK hP hD hS 2 0 rfl rfl (gin_in g144) dX10_reads_74 (fun H locs hP hD hS => ?_)
                  have hP : va_P (dC, dI) vwCl [(h_t, .inr (8, fX10 h_t_book h_t_images h_t_kept h_t_aside h_t_far h_t_then h_t_row h_t_mays h_t_firstRow h_t_low h_t_high t_noOlder t_thanThis t_known t_knownAge t_moved h_t_lowOne h_t_highOne h_t_ways t_met h_t_left t_hours t_greatest h_t_text t_typed x131 x132 x133 x134 h_t_verbs h_t_nums x92)), (h_t_text, .inl (cI, 240, .inl t_text)), (h_t_nums, .inl (cI, 960, .inl y145)), (h_t_verbs, .inl (cI, 240, .inl y87))] H := by rw [e146]; exact hP
                  have hD : va_D A [(h_t, .inr (8, fX10 h_t_book h_t_images h_t_kept h_t_aside h_t_far h_t_then h_t_row h_t_mays h_t_firstRow h_t_low h_t_high t_noOlder t_thanThis t_known t_knownAge t_moved h_t_lowOne h_t_highOne h_t_ways t_met h_t_left t_hours t_greatest h_t_text t_typed x131 x132 x133 x134 h_t_verbs h_t_nums x92)), (h_t_text, .inl (cI, 240, .inl t_text)), (h_t_nums, .inl (cI, 960, .inl y145)), (h_t_verbs, .inl (cI, 240, .inl y87))] := by rw [e146]; exact hD
                  refine lv_aload_n hx hb dX10_reads_75 rfl (lv_at hl 0 rfl) ?_
                  obtain ⟨x147, x148, x149, x150, hg151, hf⟩ := bd4_some hf
                  refine CM_callV (C := RX10) (As := []) (rest := []) (wc := [(h_t, .inr (8, fX10 h_t_book h_t_images h_t_kept h_t_aside h_t_far h_t_then h_t_row h_t_mays h_t_firstRow h_t_low h_t_high t_noOlder t_thanThis t_known t_knownAge t_moved h_t_lowOne h_t_highOne h_t_ways t_met h_t_left t_hours t_greatest h_t_text t_typed x131 x132 x133 x134 h_t_verbs h_t_nums x92)), (h_t_text, .inl (cI, 240, .inl t_text))]) (w1 := [(h_t, .inr (8, fX10 h_t_book h_t_images h_t_kept h_t_aside h_t_far h_t_then h_t_row h_t_mays h_t_firstRow h_t_low h_t_high t_noOlder t_thanThis t_known t_knownAge t_moved h_t_lowOne h_t_highOne h_t_ways t_met h_t_left t_hours t_greatest h_t_text t_typed x147 x148 x149 x150 h_t_verbs h_t_nums x92)), (h_t_text, .inl (cI, 240, .inl t_text))]) (wr := [(h_t_nums, .inl (cI, 960, .inl y145)), (h_t_verbs, .inl (cI, 240, .inl y87))]) (wo := [(h_t, .inr (8, fX10 h_t_book h_t_images h_t_kept h_t_aside h_t_far h_t_then h_t_row h_t_mays h_t_firstRow h_t_low h_t_high t_noOlder t_thanThis t_known t_knownAge t_moved h_t_lowOne h_t_highOne h_t_ways t_met h_t_left t_hours t_greatest h_t_text t_typed x147 x148 x149 x150 h_t_verbs h_t_nums x92)), (h_t_text, .inl (cI, 240, .inl t_text)), (h_t_nums, .inl (cI, 960, .inl y145)), (h_t_verbs, .inl (cI, 240, .inl y87))]) (v := (none)) ⟨hx, hb, hml, hown, hts⟩ (c_X10_scans l dC dI cI cZ te h_t h_t_book h_t_images h_t_kept h_t_aside h_t_far h_t_then h_t_row h_t_mays h_t_firstRow h_t_low h_t_high h_t_lowOne h_t_highOne h_t_ways h_t_left h_t_text h_t_verbs h_t_nums t_noOlder t_thanThis t_known t_knownAge t_moved t_met t_hours t_greatest t_typed x131 x132 x133 x134 x92 t_text x147 x148 x149 x150 hg151) (cwV 0 hts (gV kw_351 kw_352 kw_353 kw_159 kw_354) rfl rfl rfl (by decide +kernel) ⟨Nat.le_of_ble_eq_true rfl, Nat.le_of_ble_eq_true rfl⟩) (kS_env te) hK hP hD hS hA hE [0, 1] [2, 3] [2, 3, 0, 1] rfl rfl (by decide) (by decide) (by decide) (by decide) rfl 0 8 rfl rfl rfl rfl hl.1 rfl (Nat.le_of_ble_eq_true rfl) dX10_reads_76 ⟨Nat.zero_le _, Nat.zero_le _⟩ (fun H locs hP hD hS => ?_)
                  show W p l e rmX10_reads s m args below meth c H locs 0 0 Q (F0 m 79 ls [])
                  refine lv_iinc (v := (x135 + (1 : Int32))) (lv' := [(2, .int (x135 + (1 : Int32))), (0, .ref h_t), (1, .int x90)]) hx hb dX10_reads_79 hl (k := 2) rfl rfl (by decide) rfl (fun ls hl => ?_)
                  refine lv_goto (tgt := 40) hx hb dX10_reads_82 (by decide) ?_
                  exact ih136 _ _ _ _ _ _ _ _ _ _ _ _ hf hX138 hX139 _ _ hP hD hS _ (lv_sub hl [1, 2, 0] rfl)
                · replace hf := ifn c143 hf
                  obtain ⟨rfl, rfl, rfl, rfl, rfl, rfl⟩ := inj6 hf
                  exact hX138 rfl _ _ hP hD hS _ (lv_sub hl [] rfl)
          obtain ⟨q129, y124, x125, x126, x127, x128, hg, hf⟩ := bd6_some hf
          refine L152 FU _ _ _ _ _ _ _ _ _ _ _ _ hg ?_ ?_ _ _ hP hD hS _ (lv_sub hl [2, 1, 0] rfl)
          · intro hq
            subst hq
            replace hf := ifp rfl hf
            intro H locs hP hD hS ls hl
            obtain ⟨rfl, rfl, rfl, rfl, rfl, rfl, rfl, rfl⟩ := inj8 hf
            exact hX96 rfl _ _ hP hD hS _ (lv_sub hl [] rfl)
          · intro hq
            subst hq
            replace hf := ifn (by decide) hf
            intro H locs hP hD hS ls hl
            refine lv_aload_n hx hb dX10_reads_85 rfl (lv_at hl 0 rfl) ?_
            refine va_get (D := (dC, dI)) (ci := 8) (v := .int x127) (C := RX10) (T := TX10) (N := 32) hx hb hts (in1 tw_X10) hown hK hP 0 rfl rfl 27 (by decide) (hts _ (List.mem_cons_of_mem _ kw_343)) (fun _ h9 => h9) rfl dX10_reads_86 ?_
            refine lv_iconst (v := (3 : Int32)) hx hb dX10_reads_89 (by decide) ?_
            refine lv_icmp_eq (tgt := 95) hx hb dX10_reads_90 (by decide) (fun c153 => ?_) (fun c153 => ?_)
            · replace hf := ifp c153 hf
              refine lv_aload_n hx hb dX10_reads_95 rfl (lv_at hl 0 rfl) ?_
              refine va_get (D := (dC, dI)) (ci := 8) (v := .ref h_t_verbs) (C := RX10) (T := TX10) (N := 32) hx hb hts (in1 tw_X10) hown hK hP 0 rfl rfl 29 (by decide) (hts _ (List.mem_cons_of_mem _ kw_133)) (fun _ h9 => h9) rfl dX10_reads_96 ?_
              refine lv_aload_n hx hb dX10_reads_99 rfl (lv_at hl 0 rfl) ?_
              refine va_get (D := (dC, dI)) (ci := 8) (v := .int x92) (C := RX10) (T := TX10) (N := 32) hx hb hts (in1 tw_X10) hown hK hP 0 rfl rfl 31 (by decide) (hts _ (List.mem_cons_of_mem _ kw_350)) (fun _ h9 => h9) rfl dX10_reads_100 ?_
              refine lv_iload_n hx hb dX10_reads_103 rfl (lv_at hl 1 rfl) ?_
              obtain ⟨g154, hf⟩ := chk_some hf
              obtain ⟨y155, e156, hf⟩ := nm_some hf
              refine va_iast hx hb hK hP hD hS 3 0 rfl rfl (gin_in g154) dX10_reads_104 (fun H locs hP hD hS => ?_)
              have hP : va_P (dC, dI) vwCl [(h_t, .inr (8, fX10 h_t_book h_t_images h_t_kept h_t_aside h_t_far h_t_then h_t_row h_t_mays h_t_firstRow h_t_low h_t_high t_noOlder t_thanThis t_known t_knownAge t_moved h_t_lowOne h_t_highOne h_t_ways t_met h_t_left t_hours t_greatest h_t_text t_typed x125 x126 x127 x128 h_t_verbs h_t_nums x92)), (h_t_text, .inl (cI, 240, .inl t_text)), (h_t_nums, .inl (cI, 960, .inl y124)), (h_t_verbs, .inl (cI, 240, .inl y155))] H := by rw [e156]; exact hP
              have hD : va_D A [(h_t, .inr (8, fX10 h_t_book h_t_images h_t_kept h_t_aside h_t_far h_t_then h_t_row h_t_mays h_t_firstRow h_t_low h_t_high t_noOlder t_thanThis t_known t_knownAge t_moved h_t_lowOne h_t_highOne h_t_ways t_met h_t_left t_hours t_greatest h_t_text t_typed x125 x126 x127 x128 h_t_verbs h_t_nums x92)), (h_t_text, .inl (cI, 240, .inl t_text)), (h_t_nums, .inl (cI, 960, .inl y124)), (h_t_verbs, .inl (cI, 240, .inl y155))] := by rw [e156]; exact hD
              refine lv_aload_n hx hb dX10_reads_105 rfl (lv_at hl 0 rfl) ?_
              refine lv_dup hx hb dX10_reads_106 rfl ?_
              refine va_get (D := (dC, dI)) (ci := 8) (v := .int x92) (C := RX10) (T := TX10) (N := 32) hx hb hts (in1 tw_X10) hown hK hP 0 rfl rfl 31 (by decide) (hts _ (List.mem_cons_of_mem _ kw_350)) (fun _ h9 => h9) rfl dX10_reads_107 ?_
              refine lv_iconst (v := (1 : Int32)) hx hb dX10_reads_110 (by decide) ?_
              refine lv_iadd hx hb dX10_reads_111 ?_
              obtain ⟨x157, e158, hf⟩ := nm_some hf
              refine lv_tope e158 ?_
              refine va_put (D := (dC, dI)) (ci := 8) (v := .int x157) (ty := tyX10 31) (C := RX10) (T := TX10) (N := 32) hx hb hts (in1 tw_X10) tyX10 tyX10_ok nmX10 hown hK hP hD hS 0 rfl rfl 31 (by decide) (hts _ (List.mem_cons_of_mem _ kw_350)) (fun _ h9 => h9) rfl (tyX10_ok 31 (by decide)) rfl rfl (Nat.le_of_ble_eq_true rfl) dX10_reads_112 (fun H locs hP hD hS => ?_)
              have hP : va_P (dC, dI) vwCl [(h_t, .inr (8, fX10 h_t_book h_t_images h_t_kept h_t_aside h_t_far h_t_then h_t_row h_t_mays h_t_firstRow h_t_low h_t_high t_noOlder t_thanThis t_known t_knownAge t_moved h_t_lowOne h_t_highOne h_t_ways t_met h_t_left t_hours t_greatest h_t_text t_typed x125 x126 x127 x128 h_t_verbs h_t_nums x157)), (h_t_text, .inl (cI, 240, .inl t_text)), (h_t_nums, .inl (cI, 960, .inl y124)), (h_t_verbs, .inl (cI, 240, .inl y155))] H := hP
              have hD : va_D A [(h_t, .inr (8, fX10 h_t_book h_t_images h_t_kept h_t_aside h_t_far h_t_then h_t_row h_t_mays h_t_firstRow h_t_low h_t_high t_noOlder t_thanThis t_known t_knownAge t_moved h_t_lowOne h_t_highOne h_t_ways t_met h_t_left t_hours t_greatest h_t_text t_typed x125 x126 x127 x128 h_t_verbs h_t_nums x157)), (h_t_text, .inl (cI, 240, .inl t_text)), (h_t_nums, .inl (cI, 960, .inl y124)), (h_t_verbs, .inl (cI, 240, .inl y155))] := hD
              refine lv_aload_n hx hb dX10_reads_115 rfl (lv_at hl 0 rfl) ?_
              obtain ⟨x159, x160, x161, x162, hg163, hf⟩ := bd4_some hf
              refine CM_callV (C := RX10) (As := []) (rest := []) (wc := [(h_t, .inr (8, fX10 h_t_book h_t_images h_t_kept h_t_aside h_t_far h_t_then h_t_row h_t_mays h_t_firstRow h_t_low h_t_high t_noOlder t_thanThis t_known t_knownAge t_moved h_t_lowOne h_t_highOne h_t_ways t_met h_t_left t_hours t_greatest h_t_text t_typed x125 x126 x127 x128 h_t_verbs h_t_nums x157)), (h_t_text, .inl (cI, 240, .inl t_text))]) (w1 := [(h_t, .inr (8, fX10 h_t_book h_t_images h_t_kept h_t_aside h_t_far h_t_then h_t_row h_t_mays h_t_firstRow h_t_low h_t_high t_noOlder t_thanThis t_known t_knownAge t_moved h_t_lowOne h_t_highOne h_t_ways t_met h_t_left t_hours t_greatest h_t_text t_typed x159 x160 x161 x162 h_t_verbs h_t_nums x157)), (h_t_text, .inl (cI, 240, .inl t_text))]) (wr := [(h_t_nums, .inl (cI, 960, .inl y124)), (h_t_verbs, .inl (cI, 240, .inl y155))]) (wo := [(h_t, .inr (8, fX10 h_t_book h_t_images h_t_kept h_t_aside h_t_far h_t_then h_t_row h_t_mays h_t_firstRow h_t_low h_t_high t_noOlder t_thanThis t_known t_knownAge t_moved h_t_lowOne h_t_highOne h_t_ways t_met h_t_left t_hours t_greatest h_t_text t_typed x159 x160 x161 x162 h_t_verbs h_t_nums x157)), (h_t_text, .inl (cI, 240, .inl t_text)), (h_t_nums, .inl (cI, 960, .inl y124)), (h_t_verbs, .inl (cI, 240, .inl y155))]) (v := (none)) ⟨hx, hb, hml, hown, hts⟩ (c_X10_scans l dC dI cI cZ te h_t h_t_book h_t_images h_t_kept h_t_aside h_t_far h_t_then h_t_row h_t_mays h_t_firstRow h_t_low h_t_high h_t_lowOne h_t_highOne h_t_ways h_t_left h_t_text h_t_verbs h_t_nums t_noOlder t_thanThis t_known t_knownAge t_moved t_met t_hours t_greatest t_typed x125 x126 x127 x128 x157 t_text x159 x160 x161 x162 hg163) (cwV 0 hts (gV kw_351 kw_352 kw_353 kw_159 kw_354) rfl rfl rfl (by decide +kernel) ⟨Nat.le_of_ble_eq_true rfl, Nat.le_of_ble_eq_true rfl⟩) (kS_env te) hK hP hD hS hA hE [0, 1] [2, 3] [2, 3, 0, 1] rfl rfl (by decide) (by decide) (by decide) (by decide) rfl 0 8 rfl rfl rfl rfl hl.1 rfl (Nat.le_of_ble_eq_true rfl) dX10_reads_116 ⟨Nat.zero_le _, Nat.zero_le _⟩ (fun H locs hP hD hS => ?_)
              show W p l e rmX10_reads s m args below meth c H locs 0 0 Q (F0 m 119 ls [])
              refine lv_goto (tgt := 14) hx hb dX10_reads_119 (by decide) ?_
              exact ih93 _ _ _ _ _ _ _ _ _ _ _ _ _ _ _ hf hX95 hX96 hX97 hX98 _ _ hP hD hS _ (lv_sub hl [0] rfl)
            · replace hf := ifn c153 hf
              obtain ⟨rfl, rfl, rfl, rfl, rfl, rfl, rfl, rfl⟩ := inj8 hf
              exact hX97 rfl _ _ hP hD hS _ (lv_sub hl [] rfl)
        · replace hf := ifn c100 hf
          obtain ⟨rfl, rfl, rfl, rfl, rfl, rfl, rfl, rfl⟩ := inj8 hf
          exact hX95 rfl _ _ hP hD hS _ (lv_sub hl [] rfl)
  obtain ⟨q85, y78, y79, x80, x81, x82, x83, x84, hg, hf⟩ := bd8_some hf
  refine L164 FU _ _ _ _ _ _ _ _ _ _ _ _ _ _ _ hg ?_ ?_ ?_ ?_ _ _ hP hD hS _ (lv_sub hl [0] rfl)
  · intro hq
    subst hq
    replace hf := ifp rfl hf
    intro H locs hP hD hS ls hl
    refine lv_iconst (v := (0 : Int32)) hx hb dX10_reads_32 (by decide) ?_
    obtain ⟨rfl, rfl, rfl, rfl, rfl, rfl, rfl, rfl⟩ := inj8 hf
    subst hQ
    exact CM_iret hx hb hr rfl hlocks hAe hP hD hS dX10_reads_33
  · intro hq
    subst hq
    replace hf := ifn (by decide) hf
    replace hf := ifp rfl hf
    intro H locs hP hD hS ls hl
    refine lv_iconst (v := (0 : Int32)) hx hb dX10_reads_56 (by decide) ?_
    obtain ⟨rfl, rfl, rfl, rfl, rfl, rfl, rfl, rfl⟩ := inj8 hf
    subst hQ
    exact CM_iret hx hb hr rfl hlocks hAe hP hD hS dX10_reads_57
  · intro hq
    subst hq
    replace hf := ifn (by decide) hf
    replace hf := ifn (by decide) hf
    replace hf := ifp rfl hf
    intro H locs hP hD hS ls hl
    refine lv_iconst (v := (0 : Int32)) hx hb dX10_reads_93 (by decide) ?_
    obtain ⟨rfl, rfl, rfl, rfl, rfl, rfl, rfl, rfl⟩ := inj8 hf
    subst hQ
    exact CM_iret hx hb hr rfl hlocks hAe hP hD hS dX10_reads_94
  · intro hq
    subst hq
    replace hf := ifn (by decide) hf
    replace hf := ifn (by decide) hf
    replace hf := ifn (by decide) hf
    intro H locs hP hD hS ls hl
    refine lv_iconst (v := (1 : Int32)) hx hb dX10_reads_122 (by decide) ?_
    obtain ⟨rfl, rfl, rfl, rfl, rfl, rfl, rfl, rfl⟩ := inj8 hf
    subst hQ
    exact CM_iret hx hb hr rfl hlocks hAe hP hD hS dX10_reads_123
def rmX10_fault : Room := { frames := 4, cells := 0, slots := 0, locals := 91 }
abbrev wqX10_fault : List Cond := Cond.code yX10_fault cX10_fault 1 (some .int) :: tG
set_option maxHeartbeats 4000000 in
set_option maxRecDepth 100000 in
theorem c_X10_fault (l : Launch) (dC : Nat → ClassId) (dI : Nat → Nat → Nat) (cI cZ : ClassId) (te : Nat → Nat) (h_t : Nat) (h_t_book : Nat) (h_t_images : Nat) (h_t_kept : Nat) (h_t_aside : Nat) (h_t_far : Nat) (h_t_then : Nat) (h_t_row : Nat) (h_t_mays : Nat) (h_t_firstRow : Nat) (h_t_low : Nat) (h_t_high : Nat) (h_t_lowOne : Nat) (h_t_highOne : Nat) (h_t_ways : Nat) (h_t_left : Nat) (h_t_text : Nat) (h_t_verbs : Nat) (h_t_nums : Nat) (t_noOlder : Int32) (t_thanThis : Int32) (t_known : Int32) (t_knownAge : Int32) (t_moved : Int32) (t_met : Int32) (t_hours : Int32) (t_greatest : Int32) (t_typed : Int32) (t_at : Int32) (t_start : Int32) (t_token : Int32) (t_value : Int32) (t_items : Int32) (t_text : Nat → Int32) (t_nums : Nat → Int32) (t_verbs : Nat → Int32) (o0 : Int32) (o1 : Int32) (o2 : Int32) (o3 : Int32) (o4 : Int32) (o5 : Int32) (o6 : Nat → Int32) (o7 : Nat → Int32) (hf : f_X10_fault t_typed t_value t_text t_nums t_verbs = some (o0, o1, o2, o3, o4, o5, o6, o7)) : CM l yX10_fault wqX10_fault rmX10_fault (kS te) dC dI cI cZ [.ref h_t] [(h_t, .inr (8, fX10 h_t_book h_t_images h_t_kept h_t_aside h_t_far h_t_then h_t_row h_t_mays h_t_firstRow h_t_low h_t_high t_noOlder t_thanThis t_known t_knownAge t_moved h_t_lowOne h_t_highOne h_t_ways t_met h_t_left t_hours t_greatest h_t_text t_typed t_at t_start t_token t_value h_t_verbs h_t_nums t_items)), (h_t_text, .inl (cI, 240, .inl t_text)), (h_t_nums, .inl (cI, 960, .inl t_nums)), (h_t_verbs, .inl (cI, 240, .inl t_verbs))] [(h_t, .inr (8, fX10 h_t_book h_t_images h_t_kept h_t_aside h_t_far h_t_then h_t_row h_t_mays h_t_firstRow h_t_low h_t_high t_noOlder t_thanThis t_known t_knownAge t_moved h_t_lowOne h_t_highOne h_t_ways t_met h_t_left t_hours t_greatest h_t_text t_typed o1 o2 o3 o4 h_t_verbs h_t_nums o5)), (h_t_text, .inl (cI, 240, .inl t_text)), (h_t_nums, .inl (cI, 960, .inl o6)), (h_t_verbs, .inl (cI, 240, .inl o7))] (some (.int o0)) := by
  refine CM_of (cc := cX10_fault) (maxL := 1) (ret := (some .int)) (by decide +kernel) rfl (Nat.le_of_ble_eq_true rfl) ?_
  intro p e s m args below meth c A Q hx hb hr hml hown hts hlocks hA hK hP hD hS hE hQ hAe ls hl
  have hown : s.vm.findClass RX10 = some m.cls := hown
  have hl : lv_has ls 1 [(0, .ref h_t)] := hl
  unfold f_X10_fault at hf
  refine lv_aload_n hx hb dX10_fault_0 rfl (lv_at hl 0 rfl) ?_
  obtain ⟨r1, x2, x3, x4, x5, x6, y7, y8, hg9, hf⟩ := bd8_some hf
  refine CM_callV (C := RX10) (As := []) (rest := []) (wc := [(h_t, .inr (8, fX10 h_t_book h_t_images h_t_kept h_t_aside h_t_far h_t_then h_t_row h_t_mays h_t_firstRow h_t_low h_t_high t_noOlder t_thanThis t_known t_knownAge t_moved h_t_lowOne h_t_highOne h_t_ways t_met h_t_left t_hours t_greatest h_t_text t_typed t_at t_start t_token t_value h_t_verbs h_t_nums t_items)), (h_t_text, .inl (cI, 240, .inl t_text)), (h_t_nums, .inl (cI, 960, .inl t_nums)), (h_t_verbs, .inl (cI, 240, .inl t_verbs))]) (w1 := [(h_t, .inr (8, fX10 h_t_book h_t_images h_t_kept h_t_aside h_t_far h_t_then h_t_row h_t_mays h_t_firstRow h_t_low h_t_high t_noOlder t_thanThis t_known t_knownAge t_moved h_t_lowOne h_t_highOne h_t_ways t_met h_t_left t_hours t_greatest h_t_text t_typed x2 x3 x4 x5 h_t_verbs h_t_nums x6)), (h_t_text, .inl (cI, 240, .inl t_text)), (h_t_nums, .inl (cI, 960, .inl y7)), (h_t_verbs, .inl (cI, 240, .inl y8))]) (wr := []) (wo := [(h_t, .inr (8, fX10 h_t_book h_t_images h_t_kept h_t_aside h_t_far h_t_then h_t_row h_t_mays h_t_firstRow h_t_low h_t_high t_noOlder t_thanThis t_known t_knownAge t_moved h_t_lowOne h_t_highOne h_t_ways t_met h_t_left t_hours t_greatest h_t_text t_typed x2 x3 x4 x5 h_t_verbs h_t_nums x6)), (h_t_text, .inl (cI, 240, .inl t_text)), (h_t_nums, .inl (cI, 960, .inl y7)), (h_t_verbs, .inl (cI, 240, .inl y8))]) (v := (some (.int r1))) ⟨hx, hb, hml, hown, hts⟩ (c_X10_reads l dC dI cI cZ te h_t h_t_book h_t_images h_t_kept h_t_aside h_t_far h_t_then h_t_row h_t_mays h_t_firstRow h_t_low h_t_high h_t_lowOne h_t_highOne h_t_ways h_t_left h_t_text h_t_verbs h_t_nums t_noOlder t_thanThis t_known t_knownAge t_moved t_met t_hours t_greatest t_typed t_at t_start t_token t_value t_items t_text t_nums t_verbs r1 x2 x3 x4 x5 x6 y7 y8 hg9) (cwV 0 hts (gV kw_358 kw_359 kw_360 kw_159 kw_361) rfl rfl rfl (by decide +kernel) ⟨Nat.le_of_ble_eq_true rfl, Nat.le_of_ble_eq_true rfl⟩) (kS_env te) hK hP hD hS hA hE [0, 1, 2, 3] [] [0, 1, 2, 3] rfl rfl (by decide) (by decide) (by decide) (by decide) rfl 0 8 rfl rfl rfl rfl hl.1 rfl (Nat.le_of_ble_eq_true rfl) dX10_fault_1 ⟨Nat.zero_le _, Nat.zero_le _⟩ (fun H locs hP hD hS => ?_)
  show W p l e rmX10_fault s m args below meth c H locs 0 0 Q (F0 m 4 ls [.int r1])
  refine lv_if_eq (tgt := 11) hx hb dX10_fault_4 (by decide) (fun c10 => ?_) (fun c10 => ?_)
  · replace hf := ifp c10 hf
    refine lv_aload_n hx hb dX10_fault_11 rfl (lv_at hl 0 rfl) ?_
    refine va_get (D := (dC, dI)) (ci := 8) (v := .int x3) (C := RX10) (T := TX10) (N := 32) hx hb hts (in1 tw_X10) hown hK hP 0 rfl rfl 26 (by decide) (hts _ (List.mem_cons_of_mem _ kw_342)) (fun _ h9 => h9) rfl dX10_fault_12 ?_
    obtain ⟨rfl, rfl, rfl, rfl, rfl, rfl, rfl, rfl⟩ := inj8 hf
    subst hQ
    exact CM_iret hx hb hr rfl hlocks hAe hP hD hS dX10_fault_15
  · replace hf := ifn c10 hf
    refine lv_iconst (v := (-1 : Int32)) hx hb dX10_fault_7 (by decide) ?_
    refine lv_goto (tgt := 15) hx hb dX10_fault_8 (by decide) ?_
    obtain ⟨rfl, rfl, rfl, rfl, rfl, rfl, rfl, rfl⟩ := inj8 hf
    subst hQ
    exact CM_iret hx hb hr rfl hlocks hAe hP hD hS dX10_fault_15
