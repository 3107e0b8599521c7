def rmX6_isTokenTheWord : Room := { frames := 4, cells := 0, slots := 0, locals := 85 }
abbrev wqX6_isTokenTheWord : List Cond := Cond.code yX6_isTokenTheWord cX6_isTokenTheWord 4 (some .boolean) :: tG
set_option maxHeartbeats 4000000 in
set_option maxRecDepth 100000 in
theorem c_X6_isTokenTheWord (l : Launch) (dC : Nat → ClassId) (dI : Nat → Nat → Nat) (cI cZ : ClassId) (te : Nat → Nat) (h_t : Nat) (h_t_bytes : Nat) (h_t_numbers : Nat) (t_size : Int32) (t_start : Int32) (t_value : Int32) (t_next : Int32) (t_word : Int32) (t_bytes : Nat → Int32) (p1 : Int32) (o0 : Int32) (hf : f_X6_isTokenTheWord t_start t_next t_bytes p1 = some o0) : CM l yX6_isTokenTheWord wqX6_isTokenTheWord rmX6_isTokenTheWord (kS te) dC dI cI cZ [.ref h_t, .int p1] [(h_t, .inr (5, fX6 h_t_bytes t_size t_start t_value t_next t_word h_t_numbers)), (h_t_bytes, .inl (cI, 240, .inl t_bytes))] [(h_t, .inr (5, fX6 h_t_bytes t_size t_start t_value t_next t_word h_t_numbers)), (h_t_bytes, .inl (cI, 240, .inl t_bytes))] (some (.int o0)) := by
  refine CM_of (cc := cX6_isTokenTheWord) (maxL := 4) (ret := (some .boolean)) (by decide +kernel) rfl (Nat.le_of_ble_eq_true rfl) ?_
  intro p e s m args below meth c A Q hx hb hr hml hown hts hlocks hA hK hP hD hS hE hQ hAe ls hl
  have hown : s.vm.findClass RX6 = some m.cls := hown
  have hl : lv_has ls 4 [(0, .ref h_t), (1, .int p1)] := hl
  unfold f_X6_isTokenTheWord at hf
  refine lv_aload_n hx hb dX6_isTokenTheWord_0 rfl (lv_at hl 0 rfl) ?_
  refine va_get (D := (dC, dI)) (ci := 5) (v := .int t_next) (C := RX6) (T := TX6) (N := 7) hx hb hts (in1 tw_X6) hown hK hP 0 rfl rfl 4 (by decide) (hts _ (List.mem_cons_of_mem _ kw_621)) (fun _ h9 => h9) rfl dX6_isTokenTheWord_1 ?_
  refine lv_aload_n hx hb dX6_isTokenTheWord_4 rfl (lv_at hl 0 rfl) ?_
  refine va_get (D := (dC, dI)) (ci := 5) (v := .int t_start) (C := RX6) (T := TX6) (N := 7) hx hb hts (in1 tw_X6) hown hK hP 0 rfl rfl 2 (by decide) (hts _ (List.mem_cons_of_mem _ kw_622)) (fun _ h9 => h9) rfl dX6_isTokenTheWord_5 ?_
  refine lv_isub hx hb dX6_isTokenTheWord_8 ?_
  refine lv_bipush (v := (8 : Int32)) hx hb dX6_isTokenTheWord_9 (by decide) ?_
  refine lv_icmp_le (tgt := 16) hx hb dX6_isTokenTheWord_11 (by decide) (fun c1 => ?_) (fun c1 => ?_)
  · replace hf := ifp c1 hf
    refine lv_iconst (v := (0 : Int32)) hx hb dX6_isTokenTheWord_16 (by decide) ?_
    refine lv_istore_n (lv' := [(2, .int (0 : Int32)), (0, .ref h_t), (1, .int p1)]) hx hb dX6_isTokenTheWord_17 rfl hl (by decide) rfl (fun ls hl => ?_)
    have L25 : ∀ (fu14 : Nat) (x12 : Int32) (q11 : Nat), f_X6_isTokenTheWord_L1 t_next t_start t_bytes p1 fu14 x12 = some q11 → (q11 = 0 → ∀ (H : Heap) (locs : List Loc), va_P (dC, dI) vwCl [(h_t, .inr (5, fX6 h_t_bytes t_size t_start t_value t_next t_word h_t_numbers)), (h_t_bytes, .inl (cI, 240, .inl t_bytes))] H → va_D A [(h_t, .inr (5, fX6 h_t_bytes t_size t_start t_value t_next t_word h_t_numbers)), (h_t_bytes, .inl (cI, 240, .inl t_bytes))] → va_S A s.heap H locs → ∀ ls : Array Slot, lv_has ls 4 [] → W p l e rmX6_isTokenTheWord s m args below meth c H locs 0 0 Q (F0 m 69 ls [])) → (q11 = 1 → ∀ (H : Heap) (locs : List Loc), va_P (dC, dI) vwCl [(h_t, .inr (5, fX6 h_t_bytes t_size t_start t_value t_next t_word h_t_numbers)), (h_t_bytes, .inl (cI, 240, .inl t_bytes))] H → va_D A [(h_t, .inr (5, fX6 h_t_bytes t_size t_start t_value t_next t_word h_t_numbers)), (h_t_bytes, .inl (cI, 240, .inl t_bytes))] → va_S A s.heap H locs → ∀ ls : Array Slot, lv_has ls 4 [] → W p l e rmX6_isTokenTheWord s m args below meth c H locs 0 0 Q (F0 m 77 ls [])) → ∀ (H : Heap) (locs : List Loc), va_P (dC, dI) vwCl [(h_t, .inr (5, fX6 h_t_bytes t_size t_start t_value t_next t_word h_t_numbers)), (h_t_bytes, .inl (cI, 240, .inl t_bytes))] H → va_D A [(h_t, .inr (5, fX6 h_t_bytes t_size t_start t_value t_next t_word h_t_numbers)), (h_t_bytes, .inl (cI, 240, .inl t_bytes))] → va_S A s.heap H locs → ∀ ls : Array Slot, lv_has ls 4 [(0, .ref h_t), (1, .int p1), (2, .int x12)] → W p l e rmX6_isTokenTheWord s m args below meth c H locs 0 0 Q (F0 m 18 ls []) := by
      intro fu14
      induction fu14 with
      | zero =>
        intro x12 q11 hf
        unfold f_X6_isTokenTheWord_L1 at hf
        exact none_ne hf
      | succ fu14 ih13 =>
        intro x12 q11 hf hX15 hX16 H locs hP hD hS ls hl
        unfold f_X6_isTokenTheWord_L1 at hf
        refine lv_iload_n hx hb dX6_isTokenTheWord_18 rfl (lv_at hl 2 rfl) ?_
        refine lv_bipush (v := (8 : Int32)) hx hb dX6_isTokenTheWord_19 (by decide) ?_
        refine lv_icmp_ge (tgt := 77) hx hb dX6_isTokenTheWord_21 (by decide) (fun c17 => ?_) (fun c17 => ?_)
        · replace hf := ifp c17 hf
          obtain rfl := inj1 hf
          exact hX16 rfl _ _ hP hD hS _ (lv_sub hl [] rfl)
        · replace hf := ifn c17 hf
          refine lv_aload_n hx hb dX6_isTokenTheWord_24 rfl (lv_at hl 0 rfl) ?_
          refine va_get (D := (dC, dI)) (ci := 5) (v := .int t_start) (C := RX6) (T := TX6) (N := 7) hx hb hts (in1 tw_X6) hown hK hP 0 rfl rfl 2 (by decide) (hts _ (List.mem_cons_of_mem _ kw_622)) (fun _ h9 => h9) rfl dX6_isTokenTheWord_25 ?_
          refine lv_iload_n hx hb dX6_isTokenTheWord_28 rfl (lv_at hl 2 rfl) ?_
          refine lv_iadd hx hb dX6_isTokenTheWord_29 ?_
          refine lv_aload_n hx hb dX6_isTokenTheWord_30 rfl (lv_at hl 0 rfl) ?_
          refine va_get (D := (dC, dI)) (ci := 5) (v := .int t_next) (C := RX6) (T := TX6) (N := 7) hx hb hts (in1 tw_X6) hown hK hP 0 rfl rfl 4 (by decide) (hts _ (List.mem_cons_of_mem _ kw_621)) (fun _ h9 => h9) rfl dX6_isTokenTheWord_31 ?_
          obtain ⟨x18, hg, hf⟩ := bd1_some hf
          have J19 : ∀ (H : Heap) (locs : List Loc), va_P (dC, dI) vwCl [(h_t, .inr (5, fX6 h_t_bytes t_size t_start t_value t_next t_word h_t_numbers)), (h_t_bytes, .inl (cI, 240, .inl t_bytes))] H → va_D A [(h_t, .inr (5, fX6 h_t_bytes t_size t_start t_value t_next t_word h_t_numbers)), (h_t_bytes, .inl (cI, 240, .inl t_bytes))] → va_S A s.heap H locs → ∀ ls : Array Slot, lv_has ls 4 [(0, .ref h_t), (1, .int p1), (2, .int x12)] → W p l e rmX6_isTokenTheWord s m args below meth c H locs 0 0 Q (F0 m 53 ls [.int x18]) := by
            intro H locs hP hD hS ls hl
            refine lv_istore_n (lv' := [(3, .int x18), (0, .ref h_t), (1, .int p1), (2, .int x12)]) hx hb dX6_isTokenTheWord_53 rfl hl (by decide) rfl (fun ls hl => ?_)
            refine va_ldcS hx hb hown (kS_str hE) dX6_isTokenTheWord_54 ?_
            refine lv_bipush (v := (8 : Int32)) hx hb dX6_isTokenTheWord_56 (by decide) ?_
            refine lv_iload_n hx hb dX6_isTokenTheWord_58 rfl (lv_at hl 2 rfl) ?_
            refine lv_imul hx hb dX6_isTokenTheWord_59 ?_
            refine lv_iload_n hx hb dX6_isTokenTheWord_60 rfl (lv_at hl 3 rfl) ?_
            refine lv_iadd hx hb dX6_isTokenTheWord_61 ?_
            obtain ⟨r20, hg21, hf⟩ := bd1_some hf
            refine CM_callVs (C := RJ0) (As := [.int (((8 : Int32) * p1) + x12)]) (rest := []) (wc := []) (w1 := []) (wr := [(h_t, .inr (5, fX6 h_t_bytes t_size t_start t_value t_next t_word h_t_numbers)), (h_t_bytes, .inl (cI, 240, .inl t_bytes))]) (wo := [(h_t, .inr (5, fX6 h_t_bytes t_size t_start t_value t_next t_word h_t_numbers)), (h_t_bytes, .inl (cI, 240, .inl t_bytes))]) (v := (some (.int r20))) ⟨hx, hb, hml, hown, hts⟩ (c_J0_charAt_5068e l dC dI cI cZ te (((8 : Int32) * p1) + x12) r20 hg21) (cwV 1 hts (gV kw_623 kw_624 kw_625 kw_145 kw_626) rfl rfl rfl (by decide +kernel) ⟨Nat.le_of_ble_eq_true rfl, Nat.le_of_ble_eq_true rfl⟩) (kS_env te) hK hP hD hS hA hE [] [0, 1] [0, 1] rfl rfl (by decide) (by decide) (by decide) (by decide) rfl (kS_rc hE hS) rfl hl.1 rfl (Nat.le_of_ble_eq_true rfl) dX6_isTokenTheWord_62 ⟨Nat.zero_le _, Nat.zero_le _⟩ (fun H locs hP hD hS => ?_)
            show W p l e rmX6_isTokenTheWord s m args below meth c H locs 0 0 Q (F0 m 65 ls [.int r20])
            refine lv_iload_n hx hb dX6_isTokenTheWord_65 rfl (lv_at hl 0 rfl) ?_
            refine lv_icmp_eq (tgt := 71) hx hb dX6_isTokenTheWord_66 (by decide) (fun c22 => ?_) (fun c22 => ?_)
            · replace hf := ifp c22 hf
              refine lv_iinc (v := (x12 + (1 : Int32))) (lv' := [(2, .int (x12 + (1 : Int32))), (3, .int x18), (0, .ref h_t), (1, .int p1)]) hx hb dX6_isTokenTheWord_71 hl (k := 3) rfl rfl (by decide) rfl (fun ls hl => ?_)
              refine lv_goto (tgt := 18) hx hb dX6_isTokenTheWord_74 (by decide) ?_
              exact ih13 _ _ hf hX15 hX16 _ _ hP hD hS _ (lv_sub hl [2, 3, 0] rfl)
            · replace hf := ifn c22 hf
              obtain rfl := inj1 hf
              exact hX15 rfl _ _ hP hD hS _ (lv_sub hl [] rfl)
          clear hf
          have hf := hg
          refine lv_icmp_ge (tgt := 51) hx hb dX6_isTokenTheWord_34 (by decide) (fun c23 => ?_) (fun c23 => ?_)
          · replace hf := ifp c23 hf
            refine lv_bipush (v := (32 : Int32)) hx hb dX6_isTokenTheWord_51 (by decide) ?_
            obtain rfl := inj1 hf
            exact J19 _ _ hP hD hS _ (lv_sub hl [0, 1, 2] rfl)
          · replace hf := ifn c23 hf
            refine lv_aload_n hx hb dX6_isTokenTheWord_37 rfl (lv_at hl 0 rfl) ?_
            refine va_get (D := (dC, dI)) (ci := 5) (v := .ref h_t_bytes) (C := RX6) (T := TX6) (N := 7) hx hb hts (in1 tw_X6) hown hK hP 0 rfl rfl 0 (by decide) (hts _ (List.mem_cons_of_mem _ kw_65)) (fun _ h9 => h9) rfl dX6_isTokenTheWord_38 ?_
            refine lv_aload_n hx hb dX6_isTokenTheWord_41 rfl (lv_at hl 0 rfl) ?_
            refine va_get (D := (dC, dI)) (ci := 5) (v := .int t_start) (C := RX6) (T := TX6) (N := 7) hx hb hts (in1 tw_X6) hown hK hP 0 rfl rfl 2 (by decide) (hts _ (List.mem_cons_of_mem _ kw_622)) (fun _ h9 => h9) rfl dX6_isTokenTheWord_42 ?_
            refine lv_iload_n hx hb dX6_isTokenTheWord_45 rfl (lv_at hl 2 rfl) ?_
            refine lv_iadd hx hb dX6_isTokenTheWord_46 ?_
            obtain ⟨g24, hf⟩ := chk_some hf
            refine va_iald hx hb hK hP 1 0 rfl rfl (gin_in g24) dX6_isTokenTheWord_47 ?_
            refine lv_goto (tgt := 53) hx hb dX6_isTokenTheWord_48 (by decide) ?_
            obtain rfl := inj1 hf
            exact J19 _ _ hP hD hS _ (lv_sub hl [0, 1, 2] rfl)
    obtain ⟨q11, hg, hf⟩ := bd1_some hf
    refine L25 FU _ _ hg ?_ ?_ _ _ hP hD hS _ (lv_sub hl [1, 2, 0] rfl)
    · intro hq
      subst hq
      replace hf := ifp rfl hf
      intro H locs hP hD hS ls hl
      refine lv_iconst (v := (0 : Int32)) hx hb dX6_isTokenTheWord_69 (by decide) ?_
      obtain rfl := inj1 hf
      subst hQ
      exact CM_iret hx hb hr rfl hlocks hAe hP hD hS dX6_isTokenTheWord_70
    · intro hq
      subst hq
      replace hf := ifn (by decide) hf
      intro H locs hP hD hS ls hl
      refine lv_iconst (v := (1 : Int32)) hx hb dX6_isTokenTheWord_77 (by decide) ?_
      obtain rfl := inj1 hf
      subst hQ
      exact CM_iret hx hb hr rfl hlocks hAe hP hD hS dX6_isTokenTheWord_78
  · replace hf := ifn c1 hf
    refine lv_iconst (v := (0 : Int32)) hx hb dX6_isTokenTheWord_14 (by decide) ?_
    obtain rfl := inj1 hf
    subst hQ
    exact CM_iret hx hb hr rfl hlocks hAe hP hD hS dX6_isTokenTheWord_15
def rmX6_takeWord : Room := { frames := 5, cells := 0, slots := 0, locals := 108 }
abbrev wqX6_takeWord : List Cond := Cond.code yX6_takeWord cX6_takeWord 2 (some .int) :: tG
set_option maxHeartbeats 4000000 in
set_option maxRecDepth 100000 in
theorem c_X6_takeWord (l : Launch) (dC : Nat → ClassId) (dI : Nat → Nat → Nat) (cI cZ : ClassId) (te : Nat → Nat) (h_t : Nat) (h_t_bytes : Nat) (h_t_numbers : Nat) (t_size : Int32) (t_start : Int32) (t_value : Int32) (t_next : Int32) (t_word : Int32) (t_bytes : Nat → Int32) (o0 : Int32) (o1 : Int32) (o2 : Int32) (hf : f_X6_takeWord t_size t_start t_next t_bytes = some (o0, o1, o2)) : CM l yX6_takeWord wqX6_takeWord rmX6_takeWord (kS te) dC dI cI cZ [.ref h_t] [(h_t, .inr (5, fX6 h_t_bytes t_size t_start t_value t_next t_word h_t_numbers)), (h_t_bytes, .inl (cI, 240, .inl t_bytes))] [(h_t, .inr (5, fX6 h_t_bytes t_size t_start o1 o2 t_word h_t_numbers)), (h_t_bytes, .inl (cI, 240, .inl t_bytes))] (some (.int o0)) := by
  refine CM_of (cc := cX6_takeWord) (maxL := 2) (ret := (some .int)) (by decide +kernel) rfl (Nat.le_of_ble_eq_true rfl) ?_
  intro p e s m args below meth c A Q hx hb hr hml hown hts hlocks hA hK hP hD hS hE hQ hAe ls hl
  have hown : s.vm.findClass RX6 = some m.cls := hown
  have hl : lv_has ls 2 [(0, .ref h_t)] := hl
  unfold f_X6_takeWord at hf
  have L21 : ∀ (fu12 : Nat) (x10 : Int32) (x9 : Int32), f_X6_takeWord_L1 t_size t_bytes fu12 x10 = some x9 → (∀ (H : Heap) (locs : List Loc), va_P (dC, dI) vwCl [(h_t, .inr (5, fX6 h_t_bytes t_size t_start t_value x9 t_word h_t_numbers)), (h_t_bytes, .inl (cI, 240, .inl t_bytes))] H → va_D A [(h_t, .inr (5, fX6 h_t_bytes t_size t_start t_value x9 t_word h_t_numbers)), (h_t_bytes, .inl (cI, 240, .inl t_bytes))] → va_S A s.heap H locs → ∀ ls : Array Slot, lv_has ls 2 [(0, .ref h_t)] → W p l e rmX6_takeWord s m args below meth c H locs 0 0 Q (F0 m 39 ls [])) → ∀ (H : Heap) (locs : List Loc), va_P (dC, dI) vwCl [(h_t, .inr (5, fX6 h_t_bytes t_size t_start t_value x10 t_word h_t_numbers)), (h_t_bytes, .inl (cI, 240, .inl t_bytes))] H → va_D A [(h_t, .inr (5, fX6 h_t_bytes t_size t_start t_value x10 t_word h_t_numbers)), (h_t_bytes, .inl (cI, 240, .inl t_bytes))] → va_S A s.heap H locs → ∀ ls : Array Slot, lv_has ls 2 [(0, .ref h_t)] → W p l e rmX6_takeWord s m args below meth c H locs 0 0 Q (F0 m 0 ls []) := by
    intro fu12
    induction fu12 with
    | zero =>
      intro x10 x9 hf
      unfold f_X6_takeWord_L1 at hf
      exact none_ne hf
    | succ fu12 ih11 =>
      intro x10 x9 hf hX13 H locs hP hD hS ls hl
      unfold f_X6_takeWord_L1 at hf
      refine lv_aload_n hx hb dX6_takeWord_0 rfl (lv_at hl 0 rfl) ?_
      refine va_get (D := (dC, dI)) (ci := 5) (v := .int x10) (C := RX6) (T := TX6) (N := 7) hx hb hts (in1 tw_X6) hown hK hP 0 rfl rfl 4 (by decide) (hts _ (List.mem_cons_of_mem _ kw_621)) (fun _ h9 => h9) rfl dX6_takeWord_1 ?_
      refine lv_aload_n hx hb dX6_takeWord_4 rfl (lv_at hl 0 rfl) ?_
      refine va_get (D := (dC, dI)) (ci := 5) (v := .int t_size) (C := RX6) (T := TX6) (N := 7) hx hb hts (in1 tw_X6) hown hK hP 0 rfl rfl 1 (by decide) (hts _ (List.mem_cons_of_mem _ kw_619)) (fun _ h9 => h9) rfl dX6_takeWord_5 ?_
      refine lv_icmp_ge (tgt := 39) hx hb dX6_takeWord_8 (by decide) (fun c14 => ?_) (fun c14 => ?_)
      · replace hf := ifp c14 hf
        obtain rfl := inj1 hf
        exact hX13 _ _ hP hD hS _ (lv_sub hl [0] rfl)
      · replace hf := ifn c14 hf
        refine lv_aload_n hx hb dX6_takeWord_11 rfl (lv_at hl 0 rfl) ?_
        refine va_get (D := (dC, dI)) (ci := 5) (v := .ref h_t_bytes) (C := RX6) (T := TX6) (N := 7) hx hb hts (in1 tw_X6) hown hK hP 0 rfl rfl 0 (by decide) (hts _ (List.mem_cons_of_mem _ kw_65)) (fun _ h9 => h9) rfl dX6_takeWord_12 ?_
        refine lv_aload_n hx hb dX6_takeWord_15 rfl (lv_at hl 0 rfl) ?_
        refine va_get (D := (dC, dI)) (ci := 5) (v := .int x10) (C := RX6) (T := TX6) (N := 7) hx hb hts (in1 tw_X6) hown hK hP 0 rfl rfl 4 (by decide) (hts _ (List.mem_cons_of_mem _ kw_621)) (fun _ h9 => h9) rfl dX6_takeWord_16 ?_
        obtain ⟨g15, hf⟩ := chk_some hf
        refine va_iald hx hb hK hP 1 0 rfl rfl (gin_in g15) dX6_takeWord_19 ?_
        obtain ⟨r16, hg17, hf⟩ := bd1_some hf
        refine CM_callS (As := [.int (t_bytes x10.toNatClampNeg)]) (rest := []) (wc := []) (w1 := []) (wr := [(h_t, .inr (5, fX6 h_t_bytes t_size t_start t_value x10 t_word h_t_numbers)), (h_t_bytes, .inl (cI, 240, .inl t_bytes))]) (wo := [(h_t, .inr (5, fX6 h_t_bytes t_size t_start t_value x10 t_word h_t_numbers)), (h_t_bytes, .inl (cI, 240, .inl t_bytes))]) (v := (some (.int r16))) ⟨hx, hb, hml, hown, hts⟩ (c_X6_isLetter l dC dI cI cZ te (t_bytes x10.toNatClampNeg) r16 hg17) (va_cwS 1 hts (gS kw_627 kw_628 kw_109 kw_629) rfl rfl rfl (by decide +kernel) ⟨Nat.le_of_ble_eq_true rfl, Nat.le_of_ble_eq_true rfl⟩) (kS_env te) hK hP hD hS hA hE [] [0, 1] [0, 1] rfl rfl (by decide) (by decide) (by decide) (by decide) rfl rfl hl.1 rfl (Nat.le_of_ble_eq_true rfl) dX6_takeWord_20 ⟨Nat.zero_le _, Nat.zero_le _⟩ (fun H locs hP hD hS => ?_)
        show W p l e rmX6_takeWord s m args below meth c H locs 0 0 Q (F0 m 23 ls [.int r16])
        refine lv_if_eq (tgt := 39) hx hb dX6_takeWord_23 (by decide) (fun c18 => ?_) (fun c18 => ?_)
        · replace hf := ifp c18 hf
          obtain rfl := inj1 hf
          exact hX13 _ _ hP hD hS _ (lv_sub hl [0] rfl)
        · replace hf := ifn c18 hf
          refine lv_aload_n hx hb dX6_takeWord_26 rfl (lv_at hl 0 rfl) ?_
          refine lv_dup hx hb dX6_takeWord_27 rfl ?_
          refine va_get (D := (dC, dI)) (ci := 5) (v := .int x10) (C := RX6) (T := TX6) (N := 7) hx hb hts (in1 tw_X6) hown hK hP 0 rfl rfl 4 (by decide) (hts _ (List.mem_cons_of_mem _ kw_621)) (fun _ h9 => h9) rfl dX6_takeWord_28 ?_
          refine lv_iconst (v := (1 : Int32)) hx hb dX6_takeWord_31 (by decide) ?_
          refine lv_iadd hx hb dX6_takeWord_32 ?_
          obtain ⟨x19, e20, hf⟩ := nm_some hf
          refine lv_tope e20 ?_
          refine va_put (D := (dC, dI)) (ci := 5) (v := .int x19) (ty := tyX6 4) (C := RX6) (T := TX6) (N := 7) hx hb hts (in1 tw_X6) tyX6 tyX6_ok nmX6 hown hK hP hD hS 0 rfl rfl 4 (by decide) (hts _ (List.mem_cons_of_mem _ kw_621)) (fun _ h9 => h9) rfl (tyX6_ok 4 (by decide)) rfl rfl (Nat.le_of_ble_eq_true rfl) dX6_takeWord_33 (fun H locs hP hD hS => ?_)
          have hP : va_P (dC, dI) vwCl [(h_t, .inr (5, fX6 h_t_bytes t_size t_start t_value x19 t_word h_t_numbers)), (h_t_bytes, .inl (cI, 240, .inl t_bytes))] H := hP
          have hD : va_D A [(h_t, .inr (5, fX6 h_t_bytes t_size t_start t_value x19 t_word h_t_numbers)), (h_t_bytes, .inl (cI, 240, .inl t_bytes))] := hD
          refine lv_goto (tgt := 0) hx hb dX6_takeWord_36 (by decide) ?_
          exact ih11 _ _ hf hX13 _ _ hP hD hS _ (lv_sub hl [0] rfl)
  obtain ⟨x9, hg, hf⟩ := bd1_some hf
  refine L21 FU _ _ hg ?_ _ _ hP hD hS _ (lv_sub hl [0] rfl)
  · intro H locs hP hD hS ls hl
    refine lv_aload_n hx hb dX6_takeWord_39 rfl (lv_at hl 0 rfl) ?_
    refine lv_iconst (v := (-1 : Int32)) hx hb dX6_takeWord_40 (by decide) ?_
    refine va_put (D := (dC, dI)) (ci := 5) (v := .int (-1 : Int32)) (ty := tyX6 3) (C := RX6) (T := TX6) (N := 7) hx hb hts (in1 tw_X6) tyX6 tyX6_ok nmX6 hown hK hP hD hS 0 rfl rfl 3 (by decide) (hts _ (List.mem_cons_of_mem _ kw_630)) (fun _ h9 => h9) rfl (tyX6_ok 3 (by decide)) rfl rfl (Nat.le_of_ble_eq_true rfl) dX6_takeWord_41 (fun H locs hP hD hS => ?_)
    have hP : va_P (dC, dI) vwCl [(h_t, .inr (5, fX6 h_t_bytes t_size t_start (-1 : Int32) x9 t_word h_t_numbers)), (h_t_bytes, .inl (cI, 240, .inl t_bytes))] H := hP
    have hD : va_D A [(h_t, .inr (5, fX6 h_t_bytes t_size t_start (-1 : Int32) x9 t_word h_t_numbers)), (h_t_bytes, .inl (cI, 240, .inl t_bytes))] := hD
    refine lv_iconst (v := (0 : Int32)) hx hb dX6_takeWord_44 (by decide) ?_
    refine lv_istore_n (lv' := [(1, .int (0 : Int32)), (0, .ref h_t)]) hx hb dX6_takeWord_45 rfl hl (by decide) rfl (fun ls hl => ?_)
    have L38 : ∀ (fu32 : Nat) (x29 : Int32) (x30 : Int32) (x28 : Int32), f_X6_takeWord_L2 t_start x9 t_bytes fu32 x29 x30 = some x28 → (∀ (H : Heap) (locs : List Loc), va_P (dC, dI) vwCl [(h_t, .inr (5, fX6 h_t_bytes t_size t_start x28 x9 t_word h_t_numbers)), (h_t_bytes, .inl (cI, 240, .inl t_bytes))] H → va_D A [(h_t, .inr (5, fX6 h_t_bytes t_size t_start x28 x9 t_word h_t_numbers)), (h_t_bytes, .inl (cI, 240, .inl t_bytes))] → va_S A s.heap H locs → ∀ ls : Array Slot, lv_has ls 2 [(0, .ref h_t)] → W p l e rmX6_takeWord s m args below meth c H locs 0 0 Q (F0 m 71 ls [])) → ∀ (H : Heap) (locs : List Loc), va_P (dC, dI) vwCl [(h_t, .inr (5, fX6 h_t_bytes t_size t_start x29 x9 t_word h_t_numbers)), (h_t_bytes, .inl (cI, 240, .inl t_bytes))] H → va_D A [(h_t, .inr (5, fX6 h_t_bytes t_size t_start x29 x9 t_word h_t_numbers)), (h_t_bytes, .inl (cI, 240, .inl t_bytes))] → va_S A s.heap H locs → ∀ ls : Array Slot, lv_has ls 2 [(0, .ref h_t), (1, .int x30)] → W p l e rmX6_takeWord s m args below meth c H locs 0 0 Q (F0 m 46 ls []) := by
      intro fu32
      induction fu32 with
      | zero =>
        intro x29 x30 x28 hf
        unfold f_X6_takeWord_L2 at hf
        exact none_ne hf
      | succ fu32 ih31 =>
        intro x29 x30 x28 hf hX33 H locs hP hD hS ls hl
        unfold f_X6_takeWord_L2 at hf
        refine lv_iload_n hx hb dX6_takeWord_46 rfl (lv_at hl 1 rfl) ?_
        refine lv_bipush (v := (12 : Int32)) hx hb dX6_takeWord_47 (by decide) ?_
        refine lv_icmp_ge (tgt := 71) hx hb dX6_takeWord_49 (by decide) (fun c34 => ?_) (fun c34 => ?_)
        · replace hf := ifp c34 hf
          obtain rfl := inj1 hf
          exact hX33 _ _ hP hD hS _ (lv_sub hl [0] rfl)
        · replace hf := ifn c34 hf
          refine lv_aload_n hx hb dX6_takeWord_52 rfl (lv_at hl 0 rfl) ?_
          refine lv_iload_n hx hb dX6_takeWord_53 rfl (lv_at hl 1 rfl) ?_
          obtain ⟨r35, hg36, hf⟩ := bd1_some hf
          refine CM_callV (C := RX6) (As := [.int x30]) (rest := []) (wc := [(h_t, .inr (5, fX6 h_t_bytes t_size t_start x29 x9 t_word h_t_numbers)), (h_t_bytes, .inl (cI, 240, .inl t_bytes))]) (w1 := [(h_t, .inr (5, fX6 h_t_bytes t_size t_start x29 x9 t_word h_t_numbers)), (h_t_bytes, .inl (cI, 240, .inl t_bytes))]) (wr := []) (wo := [(h_t, .inr (5, fX6 h_t_bytes t_size t_start x29 x9 t_word h_t_numbers)), (h_t_bytes, .inl (cI, 240, .inl t_bytes))]) (v := (some (.int r35))) ⟨hx, hb, hml, hown, hts⟩ (c_X6_isTokenTheWord l dC dI cI cZ te h_t h_t_bytes h_t_numbers t_size t_start x29 x9 t_word t_bytes x30 r35 hg36) (cwV 1 hts (gV kw_631 kw_632 kw_633 kw_109 kw_634) rfl rfl rfl (by decide +kernel) ⟨Nat.le_of_ble_eq_true rfl, Nat.le_of_ble_eq_true rfl⟩) (kS_env te) hK hP hD hS hA hE [0, 1] [] [0, 1] rfl rfl (by decide) (by decide) (by decide) (by decide) rfl 0 5 rfl rfl rfl rfl hl.1 rfl (Nat.le_of_ble_eq_true rfl) dX6_takeWord_54 ⟨Nat.zero_le _, Nat.zero_le _⟩ (fun H locs hP hD hS => ?_)
          show W p l e rmX6_takeWord s m args below meth c H locs 0 0 Q (F0 m 57 ls [.int r35])
          refine lv_if_eq (tgt := 65) hx hb dX6_takeWord_57 (by decide) (fun c37 => ?_) (fun c37 => ?_)
          · replace hf := ifp c37 hf
            refine lv_iinc (v := (x30 + (1 : Int32))) (lv' := [(1, .int (x30 + (1 : Int32))), (0, .ref h_t)]) hx hb dX6_takeWord_65 hl (k := 1) rfl rfl (by decide) rfl (fun ls hl => ?_)
            refine lv_goto (tgt := 46) hx hb dX6_takeWord_68 (by decide) ?_
            exact ih31 _ _ _ hf hX33 _ _ hP hD hS _ (lv_sub hl [1, 0] rfl)
          · replace hf := ifn c37 hf
            refine lv_aload_n hx hb dX6_takeWord_60 rfl (lv_at hl 0 rfl) ?_
            refine lv_iload_n hx hb dX6_takeWord_61 rfl (lv_at hl 1 rfl) ?_
            refine va_put (D := (dC, dI)) (ci := 5) (v := .int x30) (ty := tyX6 3) (C := RX6) (T := TX6) (N := 7) hx hb hts (in1 tw_X6) tyX6 tyX6_ok nmX6 hown hK hP hD hS 0 rfl rfl 3 (by decide) (hts _ (List.mem_cons_of_mem _ kw_630)) (fun _ h9 => h9) rfl (tyX6_ok 3 (by decide)) rfl rfl (Nat.le_of_ble_eq_true rfl) dX6_takeWord_62 (fun H locs hP hD hS => ?_)
            have hP : va_P (dC, dI) vwCl [(h_t, .inr (5, fX6 h_t_bytes t_size t_start x30 x9 t_word h_t_numbers)), (h_t_bytes, .inl (cI, 240, .inl t_bytes))] H := hP
            have hD : va_D A [(h_t, .inr (5, fX6 h_t_bytes t_size t_start x30 x9 t_word h_t_numbers)), (h_t_bytes, .inl (cI, 240, .inl t_bytes))] := hD
            refine lv_iinc (v := (x30 + (1 : Int32))) (lv' := [(1, .int (x30 + (1 : Int32))), (0, .ref h_t)]) hx hb dX6_takeWord_65 hl (k := 1) rfl rfl (by decide) rfl (fun ls hl => ?_)
            refine lv_goto (tgt := 46) hx hb dX6_takeWord_68 (by decide) ?_
            exact ih31 _ _ _ hf hX33 _ _ hP hD hS _ (lv_sub hl [1, 0] rfl)
    obtain ⟨x28, hg, hf⟩ := bd1_some hf
    refine L38 FU _ _ _ hg ?_ _ _ hP hD hS _ (lv_sub hl [1, 0] rfl)
    · intro H locs hP hD hS ls hl
      refine lv_aload_n hx hb dX6_takeWord_71 rfl (lv_at hl 0 rfl) ?_
      refine va_get (D := (dC, dI)) (ci := 5) (v := .int x28) (C := RX6) (T := TX6) (N := 7) hx hb hts (in1 tw_X6) hown hK hP 0 rfl rfl 3 (by decide) (hts _ (List.mem_cons_of_mem _ kw_630)) (fun _ h9 => h9) rfl dX6_takeWord_72 ?_
      refine lv_iconst (v := (-1 : Int32)) hx hb dX6_takeWord_75 (by decide) ?_
      refine lv_icmp_ne (tgt := 83) hx hb dX6_takeWord_76 (by decide) (fun c39 => ?_) (fun c39 => ?_)
      · replace hf := ifn c39 hf
        refine lv_iconst (v := (1 : Int32)) hx hb dX6_takeWord_83 (by decide) ?_
        obtain ⟨rfl, rfl, rfl⟩ := inj3 hf
        subst hQ
        exact CM_iret hx hb hr rfl hlocks hAe hP hD hS dX6_takeWord_84
      · replace hf := ifp c39 hf
        refine lv_iconst (v := (4 : Int32)) hx hb dX6_takeWord_79 (by decide) ?_
        refine lv_goto (tgt := 84) hx hb dX6_takeWord_80 (by decide) ?_
        obtain ⟨rfl, rfl, rfl⟩ := inj3 hf
        subst hQ
        exact CM_iret hx hb hr rfl hlocks hAe hP hD hS dX6_takeWord_84
def rmX6_isFigure : Room := { frames := 0, cells := 0, slots := 0, locals := 0 }
abbrev wqX6_isFigure : List Cond := Cond.code yX6_isFigure cX6_isFigure 1 (some .boolean) :: tG
set_option maxHeartbeats 4000000 in
set_option maxRecDepth 100000 in
theorem c_X6_isFigure (l : Launch) (dC : Nat → ClassId) (dI : Nat → Nat → Nat) (cI cZ : ClassId) (te : Nat → Nat) (p1 : Int32) (o0 : Int32) (hf : f_X6_isFigure p1 = some o0) : CM l yX6_isFigure wqX6_isFigure rmX6_isFigure (kS te) dC dI cI cZ [.int p1] [] [] (some (.int o0)) := by
  refine CM_of (cc := cX6_isFigure) (maxL := 1) (ret := (some .boolean)) (by decide +kernel) rfl (Nat.le_of_ble_eq_true rfl) ?_
  intro p e s m args below meth c A Q hx hb hr hml hown hts hlocks hA hK hP hD hS hE hQ hAe ls hl
  have hown : s.vm.findClass RX6 = some m.cls := hown
  have hl : lv_has ls 1 [(0, .int p1)] := hl
  unfold f_X6_isFigure at hf
  refine lv_iload_n hx hb dX6_isFigure_0 rfl (lv_at hl 0 rfl) ?_
  refine lv_bipush (v := (48 : Int32)) hx hb dX6_isFigure_1 (by decide) ?_
  refine lv_icmp_lt (tgt := 16) hx hb dX6_isFigure_3 (by decide) (fun c1 => ?_) (fun c1 => ?_)
  · replace hf := ifp c1 hf
    refine lv_iconst (v := (0 : Int32)) hx hb dX6_isFigure_16 (by decide) ?_
    obtain rfl := inj1 hf
    subst hQ
    exact CM_iret hx hb hr rfl hlocks hAe hP hD hS dX6_isFigure_17
  · replace hf := ifn c1 hf
    refine lv_iload_n hx hb dX6_isFigure_6 rfl (lv_at hl 0 rfl) ?_
    refine lv_bipush (v := (57 : Int32)) hx hb dX6_isFigure_7 (by decide) ?_
    refine lv_icmp_gt (tgt := 16) hx hb dX6_isFigure_9 (by decide) (fun c2 => ?_) (fun c2 => ?_)
    · replace hf := ifp c2 hf
      refine lv_iconst (v := (0 : Int32)) hx hb dX6_isFigure_16 (by decide) ?_
      obtain rfl := inj1 hf
      subst hQ
      exact CM_iret hx hb hr rfl hlocks hAe hP hD hS dX6_isFigure_17
    · replace hf := ifn c2 hf
      refine lv_iconst (v := (1 : Int32)) hx hb dX6_isFigure_12 (by decide) ?_
      refine lv_goto (tgt := 17) hx hb dX6_isFigure_13 (by decide) ?_
      obtain rfl := inj1 hf
      subst hQ
      exact CM_iret hx hb hr rfl hlocks hAe hP hD hS dX6_isFigure_17
def rmX6_takeNumber : Room := { frames := 1, cells := 0, slots := 0, locals := 20 }
abbrev wqX6_takeNumber : List Cond := Cond.code yX6_takeNumber cX6_takeNumber 1 (some .int) :: tG
set_option maxHeartbeats 4000000 in
set_option maxRecDepth 100000 in
theorem c_X6_takeNumber (l : Launch) (dC : Nat → ClassId) (dI : Nat → Nat → Nat) (cI cZ : ClassId) (te : Nat → Nat) (h_t : Nat) (h_t_bytes : Nat) (h_t_numbers : Nat) (t_size : Int32) (t_start : Int32) (t_value : Int32) (t_next : Int32) (t_word : Int32) (t_bytes : Nat → Int32) (o0 : Int32) (o1 : Int32) (o2 : Int32) (hf : f_X6_takeNumber t_size t_start t_next t_bytes = some (o0, o1, o2)) : CM l yX6_takeNumber wqX6_takeNumber rmX6_takeNumber (kS te) dC dI cI cZ [.ref h_t] [(h_t, .inr (5, fX6 h_t_bytes t_size t_start t_value t_next t_word h_t_numbers)), (h_t_bytes, .inl (cI, 240, .inl t_bytes))] [(h_t, .inr (5, fX6 h_t_bytes t_size t_start o1 o2 t_word h_t_numbers)), (h_t_bytes, .inl (cI, 240, .inl t_bytes))] (some (.int o0)) := by
  refine CM_of (cc := cX6_takeNumber) (maxL := 1) (ret := (some .int)) (by decide +kernel) rfl (Nat.le_of_ble_eq_true rfl) ?_
  intro p e s m args below meth c A Q hx hb hr hml hown hts hlocks hA hK hP hD hS hE hQ hAe ls hl
  have hown : s.vm.findClass RX6 = some m.cls := hown
  have hl : lv_has ls 1 [(0, .ref h_t)] := hl
  unfold f_X6_takeNumber at hf
  refine lv_aload_n hx hb dX6_takeNumber_0 rfl (lv_at hl 0 rfl) ?_
  refine lv_iconst (v := (0 : Int32)) hx hb dX6_takeNumber_1 (by decide) ?_
  refine va_put (D := (dC, dI)) (ci := 5) (v := .int (0 : Int32)) (ty := tyX6 3) (C := RX6) (T := TX6) (N := 7) hx hb hts (in1 tw_X6) tyX6 tyX6_ok nmX6 hown hK hP hD hS 0 rfl rfl 3 (by decide) (hts _ (List.mem_cons_of_mem _ kw_630)) (fun _ h9 => h9) rfl (tyX6_ok 3 (by decide)) rfl rfl (Nat.le_of_ble_eq_true rfl) dX6_takeNumber_2 (fun H locs hP hD hS => ?_)
  have hP : va_P (dC, dI) vwCl [(h_t, .inr (5, fX6 h_t_bytes t_size t_start (0 : Int32) t_next t_word h_t_numbers)), (h_t_bytes, .inl (cI, 240, .inl t_bytes))] H := hP
  have hD : va_D A [(h_t, .inr (5, fX6 h_t_bytes t_size t_start (0 : Int32) t_next t_word h_t_numbers)), (h_t_bytes, .inl (cI, 240, .inl t_bytes))] := hD
  have L30 : ∀ (fu18 : Nat) (x15 : Int32) (x16 : Int32) (x13 : Int32) (x14 : Int32), f_X6_takeNumber_L1 t_size t_bytes fu18 x15 x16 = some (x13, x14) → (∀ (H : Heap) (locs : List Loc), va_P (dC, dI) vwCl [(h_t, .inr (5, fX6 h_t_bytes t_size t_start x13 x14 t_word h_t_numbers)), (h_t_bytes, .inl (cI, 240, .inl t_bytes))] H → va_D A [(h_t, .inr (5, fX6 h_t_bytes t_size t_start x13 x14 t_word h_t_numbers)), (h_t_bytes, .inl (cI, 240, .inl t_bytes))] → va_S A s.heap H locs → ∀ ls : Array Slot, lv_has ls 1 [(0, .ref h_t)] → W p l e rmX6_takeNumber s m args below meth c H locs 0 0 Q (F0 m 68 ls [])) → ∀ (H : Heap) (locs : List Loc), va_P (dC, dI) vwCl [(h_t, .inr (5, fX6 h_t_bytes t_size t_start x15 x16 t_word h_t_numbers)), (h_t_bytes, .inl (cI, 240, .inl t_bytes))] H → va_D A [(h_t, .inr (5, fX6 h_t_bytes t_size t_start x15 x16 t_word h_t_numbers)), (h_t_bytes, .inl (cI, 240, .inl t_bytes))] → va_S A s.heap H locs → ∀ ls : Array Slot, lv_has ls 1 [(0, .ref h_t)] → W p l e rmX6_takeNumber s m args below meth c H locs 0 0 Q (F0 m 5 ls []) := by
    intro fu18
    induction fu18 with
    | zero =>
      intro x15 x16 x13 x14 hf
      unfold f_X6_takeNumber_L1 at hf
      exact none_ne hf
    | succ fu18 ih17 =>
      intro x15 x16 x13 x14 hf hX19 H locs hP hD hS ls hl
      unfold f_X6_takeNumber_L1 at hf
      refine lv_aload_n hx hb dX6_takeNumber_5 rfl (lv_at hl 0 rfl) ?_
      refine va_get (D := (dC, dI)) (ci := 5) (v := .int x16) (C := RX6) (T := TX6) (N := 7) hx hb hts (in1 tw_X6) hown hK hP 0 rfl rfl 4 (by decide) (hts _ (List.mem_cons_of_mem _ kw_621)) (fun _ h9 => h9) rfl dX6_takeNumber_6 ?_
      refine lv_aload_n hx hb dX6_takeNumber_9 rfl (lv_at hl 0 rfl) ?_
      refine va_get (D := (dC, dI)) (ci := 5) (v := .int t_size) (C := RX6) (T := TX6) (N := 7) hx hb hts (in1 tw_X6) hown hK hP 0 rfl rfl 1 (by decide) (hts _ (List.mem_cons_of_mem _ kw_619)) (fun _ h9 => h9) rfl dX6_takeNumber_10 ?_
      refine lv_icmp_ge (tgt := 68) hx hb dX6_takeNumber_13 (by decide) (fun c20 => ?_) (fun c20 => ?_)
      · replace hf := ifp c20 hf
        obtain ⟨rfl, rfl⟩ := inj2 hf
        exact hX19 _ _ hP hD hS _ (lv_sub hl [0] rfl)
      · replace hf := ifn c20 hf
        refine lv_aload_n hx hb dX6_takeNumber_16 rfl (lv_at hl 0 rfl) ?_
        refine va_get (D := (dC, dI)) (ci := 5) (v := .ref h_t_bytes) (C := RX6) (T := TX6) (N := 7) hx hb hts (in1 tw_X6) hown hK hP 0 rfl rfl 0 (by decide) (hts _ (List.mem_cons_of_mem _ kw_65)) (fun _ h9 => h9) rfl dX6_takeNumber_17 ?_
        refine lv_aload_n hx hb dX6_takeNumber_20 rfl (lv_at hl 0 rfl) ?_
        refine va_get (D := (dC, dI)) (ci := 5) (v := .int x16) (C := RX6) (T := TX6) (N := 7) hx hb hts (in1 tw_X6) hown hK hP 0 rfl rfl 4 (by decide) (hts _ (List.mem_cons_of_mem _ kw_621)) (fun _ h9 => h9) rfl dX6_takeNumber_21 ?_
        obtain ⟨g21, hf⟩ := chk_some hf
        refine va_iald hx hb hK hP 1 0 rfl rfl (gin_in g21) dX6_takeNumber_24 ?_
        obtain ⟨r22, hg23, hf⟩ := bd1_some hf
        refine CM_callS (As := [.int (t_bytes x16.toNatClampNeg)]) (rest := []) (wc := []) (w1 := []) (wr := [(h_t, .inr (5, fX6 h_t_bytes t_size t_start x15 x16 t_word h_t_numbers)), (h_t_bytes, .inl (cI, 240, .inl t_bytes))]) (wo := [(h_t, .inr (5, fX6 h_t_bytes t_size t_start x15 x16 t_word h_t_numbers)), (h_t_bytes, .inl (cI, 240, .inl t_bytes))]) (v := (some (.int r22))) ⟨hx, hb, hml, hown, hts⟩ (c_X6_isFigure l dC dI cI cZ te (t_bytes x16.toNatClampNeg) r22 hg23) (va_cwS 1 hts (gS kw_635 kw_636 kw_109 kw_637) rfl rfl rfl (by decide +kernel) ⟨Nat.le_of_ble_eq_true rfl, Nat.le_of_ble_eq_true rfl⟩) (kS_env te) hK hP hD hS hA hE [] [0, 1] [0, 1] rfl rfl (by decide) (by decide) (by decide) (by decide) rfl rfl hl.1 rfl (Nat.le_of_ble_eq_true rfl) dX6_takeNumber_25 ⟨Nat.zero_le _, Nat.zero_le _⟩ (fun H locs hP hD hS => ?_)
        show W p l e rmX6_takeNumber s m args below meth c H locs 0 0 Q (F0 m 28 ls [.int r22])
        refine lv_if_eq (tgt := 68) hx hb dX6_takeNumber_28 (by decide) (fun c24 => ?_) (fun c24 => ?_)
        · replace hf := ifp c24 hf
          obtain ⟨rfl, rfl⟩ := inj2 hf
          exact hX19 _ _ hP hD hS _ (lv_sub hl [0] rfl)
        · replace hf := ifn c24 hf
          refine lv_aload_n hx hb dX6_takeNumber_31 rfl (lv_at hl 0 rfl) ?_
          refine lv_bipush (v := (10 : Int32)) hx hb dX6_takeNumber_32 (by decide) ?_
          refine lv_aload_n hx hb dX6_takeNumber_34 rfl (lv_at hl 0 rfl) ?_
          refine va_get (D := (dC, dI)) (ci := 5) (v := .int x15) (C := RX6) (T := TX6) (N := 7) hx hb hts (in1 tw_X6) hown hK hP 0 rfl rfl 3 (by decide) (hts _ (List.mem_cons_of_mem _ kw_630)) (fun _ h9 => h9) rfl dX6_takeNumber_35 ?_
          refine lv_imul hx hb dX6_takeNumber_38 ?_
          refine lv_aload_n hx hb dX6_takeNumber_39 rfl (lv_at hl 0 rfl) ?_
          refine va_get (D := (dC, dI)) (ci := 5) (v := .ref h_t_bytes) (C := RX6) (T := TX6) (N := 7) hx hb hts (in1 tw_X6) hown hK hP 0 rfl rfl 0 (by decide) (hts _ (List.mem_cons_of_mem _ kw_65)) (fun _ h9 => h9) rfl dX6_takeNumber_40 ?_
          refine lv_aload_n hx hb dX6_takeNumber_43 rfl (lv_at hl 0 rfl) ?_
          refine va_get (D := (dC, dI)) (ci := 5) (v := .int x16) (C := RX6) (T := TX6) (N := 7) hx hb hts (in1 tw_X6) hown hK hP 0 rfl rfl 4 (by decide) (hts _ (List.mem_cons_of_mem _ kw_621)) (fun _ h9 => h9) rfl dX6_takeNumber_44 ?_
          obtain ⟨g25, hf⟩ := chk_some hf
          refine va_iald hx hb hK hP 1 0 rfl rfl (gin_in g25) dX6_takeNumber_47 ?_
          refine lv_iadd hx hb dX6_takeNumber_48 ?_
          refine lv_bipush (v := (48 : Int32)) hx hb dX6_takeNumber_49 (by decide) ?_
          refine lv_isub hx hb dX6_takeNumber_51 ?_
          obtain ⟨x26, e27, hf⟩ := nm_some hf
          refine lv_tope e27 ?_
          refine va_put (D := (dC, dI)) (ci := 5) (v := .int x26) (ty := tyX6 3) (C := RX6) (T := TX6) (N := 7) hx hb hts (in1 tw_X6) tyX6 tyX6_ok nmX6 hown hK hP hD hS 0 rfl rfl 3 (by decide) (hts _ (List.mem_cons_of_mem _ kw_630)) (fun _ h9 => h9) rfl (tyX6_ok 3 (by decide)) rfl rfl (Nat.le_of_ble_eq_true rfl) dX6_takeNumber_52 (fun H locs hP hD hS => ?_)
          have hP : va_P (dC, dI) vwCl [(h_t, .inr (5, fX6 h_t_bytes t_size t_start x26 x16 t_word h_t_numbers)), (h_t_bytes, .inl (cI, 240, .inl t_bytes))] H := hP
          have hD : va_D A [(h_t, .inr (5, fX6 h_t_bytes t_size t_start x26 x16 t_word h_t_numbers)), (h_t_bytes, .inl (cI, 240, .inl t_bytes))] := hD
          refine lv_aload_n hx hb dX6_takeNumber_55 rfl (lv_at hl 0 rfl) ?_
          refine lv_dup hx hb dX6_takeNumber_56 rfl ?_
          refine va_get (D := (dC, dI)) (ci := 5) (v := .int x16) (C := RX6) (T := TX6) (N := 7) hx hb hts (in1 tw_X6) hown hK hP 0 rfl rfl 4 (by decide) (hts _ (List.mem_cons_of_mem _ kw_621)) (fun _ h9 => h9) rfl dX6_takeNumber_57 ?_
          refine lv_iconst (v := (1 : Int32)) hx hb dX6_takeNumber_60 (by decide) ?_
          refine lv_iadd hx hb dX6_takeNumber_61 ?_
          obtain ⟨x28, e29, hf⟩ := nm_some hf
          refine lv_tope e29 ?_
          refine va_put (D := (dC, dI)) (ci := 5) (v := .int x28) (ty := tyX6 4) (C := RX6) (T := TX6) (N := 7) hx hb hts (in1 tw_X6) tyX6 tyX6_ok nmX6 hown hK hP hD hS 0 rfl rfl 4 (by decide) (hts _ (List.mem_cons_of_mem _ kw_621)) (fun _ h9 => h9) rfl (tyX6_ok 4 (by decide)) rfl rfl (Nat.le_of_ble_eq_true rfl) dX6_takeNumber_62 (fun H locs hP hD hS => ?_)
          have hP : va_P (dC, dI) vwCl [(h_t, .inr (5, fX6 h_t_bytes t_size t_start x26 x28 t_word h_t_numbers)), (h_t_bytes, .inl (cI, 240, .inl t_bytes))] H := hP
          have hD : va_D A [(h_t, .inr (5, fX6 h_t_bytes t_size t_start x26 x28 t_word h_t_numbers)), (h_t_bytes, .inl (cI, 240, .inl t_bytes))] := hD
          refine lv_goto (tgt := 5) hx hb dX6_takeNumber_65 (by decide) ?_
          exact ih17 _ _ _ _ hf hX19 _ _ hP hD hS _ (lv_sub hl [0] rfl)
  obtain ⟨x13, x14, hg, hf⟩ := bd2_some hf
  refine L30 FU _ _ _ _ hg ?_ _ _ hP hD hS _ (lv_sub hl [0] rfl)
  · intro H locs hP hD hS ls hl
    refine lv_aload_n hx hb dX6_takeNumber_68 rfl (lv_at hl 0 rfl) ?_
    refine va_get (D := (dC, dI)) (ci := 5) (v := .int x14) (C := RX6) (T := TX6) (N := 7) hx hb hts (in1 tw_X6) hown hK hP 0 rfl rfl 4 (by decide) (hts _ (List.mem_cons_of_mem _ kw_621)) (fun _ h9 => h9) rfl dX6_takeNumber_69 ?_
    refine lv_aload_n hx hb dX6_takeNumber_72 rfl (lv_at hl 0 rfl) ?_
    refine va_get (D := (dC, dI)) (ci := 5) (v := .int t_start) (C := RX6) (T := TX6) (N := 7) hx hb hts (in1 tw_X6) hown hK hP 0 rfl rfl 2 (by decide) (hts _ (List.mem_cons_of_mem _ kw_622)) (fun _ h9 => h9) rfl dX6_takeNumber_73 ?_
    refine lv_isub hx hb dX6_takeNumber_76 ?_
    refine lv_iconst (v := (4 : Int32)) hx hb dX6_takeNumber_77 (by decide) ?_
    refine lv_icmp_le (tgt := 85) hx hb dX6_takeNumber_78 (by decide) (fun c31 => ?_) (fun c31 => ?_)
    · replace hf := ifp c31 hf
      refine lv_iconst (v := (2 : Int32)) hx hb dX6_takeNumber_85 (by decide) ?_
      obtain ⟨rfl, rfl, rfl⟩ := inj3 hf
      subst hQ
      exact CM_iret hx hb hr rfl hlocks hAe hP hD hS dX6_takeNumber_86
    · replace hf := ifn c31 hf
      refine lv_iconst (v := (4 : Int32)) hx hb dX6_takeNumber_81 (by decide) ?_
      refine lv_goto (tgt := 86) hx hb dX6_takeNumber_82 (by decide) ?_
      obtain ⟨rfl, rfl, rfl⟩ := inj3 hf
      subst hQ
      exact CM_iret hx hb hr rfl hlocks hAe hP hD hS dX6_takeNumber_86
def rmX6_takeToken : Room := { frames := 6, cells := 0, slots := 0, locals := 129 }
abbrev wqX6_takeToken : List Cond := Cond.code yX6_takeToken cX6_takeToken 1 (some .int) :: tG
set_option maxHeartbeats 4000000 in
set_option maxRecDepth 100000 in
theorem c_X6_takeToken (l : Launch) (dC : Nat → ClassId) (dI : Nat → Nat → Nat) (cI cZ : ClassId) (te : Nat → Nat) (h_t : Nat) (h_t_bytes : Nat) (h_t_numbers : Nat) (t_size : Int32) (t_start : Int32) (t_value : Int32) (t_next : Int32) (t_word : Int32) (t_bytes : Nat → Int32) (o0 : Int32) (o1 : Int32) (o2 : Int32) (o3 : Int32) (hf : f_X6_takeToken t_size t_value t_next t_bytes = some (o0, o1, o2, o3)) : CM l yX6_takeToken wqX6_takeToken rmX6_takeToken (kS te) dC dI cI cZ [.ref h_t] [(h_t, .inr (5, fX6 h_t_bytes t_size t_start t_value t_next t_word h_t_numbers)), (h_t_bytes, .inl (cI, 240, .inl t_bytes))] [(h_t, .inr (5, fX6 h_t_bytes t_size o1 o2 o3 t_word h_t_numbers)), (h_t_bytes, .inl (cI, 240, .inl t_bytes))] (some (.int o0)) := by
  refine CM_of (cc := cX6_takeToken) (maxL := 1) (ret := (some .int)) (by decide +kernel) rfl (Nat.le_of_ble_eq_true rfl) ?_
  intro p e s m args below meth c A Q hx hb hr hml hown hts hlocks hA hK hP hD hS hE hQ hAe ls hl
  have hown : s.vm.findClass RX6 = some m.cls := hown
  have hl : lv_has ls 1 [(0, .ref h_t)] := hl
  unfold f_X6_takeToken at hf
  have L17 : ∀ (fu10 : Nat) (x8 : Int32) (x7 : Int32), f_X6_takeToken_L1 t_size t_bytes fu10 x8 = some x7 → (∀ (H : Heap) (locs : List Loc), va_P (dC, dI) vwCl [(h_t, .inr (5, fX6 h_t_bytes t_size t_start t_value x7 t_word h_t_numbers)), (h_t_bytes, .inl (cI, 240, .inl t_bytes))] H → va_D A [(h_t, .inr (5, fX6 h_t_bytes t_size t_start t_value x7 t_word h_t_numbers)), (h_t_bytes, .inl (cI, 240, .inl t_bytes))] → va_S A s.heap H locs → ∀ ls : Array Slot, lv_has ls 1 [(0, .ref h_t)] → W p l e rmX6_takeToken s m args below meth c H locs 0 0 Q (F0 m 38 ls [])) → ∀ (H : Heap) (locs : List Loc), va_P (dC, dI) vwCl [(h_t, .inr (5, fX6 h_t_bytes t_size t_start t_value x8 t_word h_t_numbers)), (h_t_bytes, .inl (cI, 240, .inl t_bytes))] H → va_D A [(h_t, .inr (5, fX6 h_t_bytes t_size t_start t_value x8 t_word h_t_numbers)), (h_t_bytes, .inl (cI, 240, .inl t_bytes))] → va_S A s.heap H locs → ∀ ls : Array Slot, lv_has ls 1 [(0, .ref h_t)] → W p l e rmX6_takeToken s m args below meth c H locs 0 0 Q (F0 m 0 ls []) := by
    intro fu10
    induction fu10 with
    | zero =>
      intro x8 x7 hf
      unfold f_X6_takeToken_L1 at hf
      exact none_ne hf
    | succ fu10 ih9 =>
      intro x8 x7 hf hX11 H locs hP hD hS ls hl
      unfold f_X6_takeToken_L1 at hf
      refine lv_aload_n hx hb dX6_takeToken_0 rfl (lv_at hl 0 rfl) ?_
      refine va_get (D := (dC, dI)) (ci := 5) (v := .int x8) (C := RX6) (T := TX6) (N := 7) hx hb hts (in1 tw_X6) hown hK hP 0 rfl rfl 4 (by decide) (hts _ (List.mem_cons_of_mem _ kw_621)) (fun _ h9 => h9) rfl dX6_takeToken_1 ?_
      refine lv_aload_n hx hb dX6_takeToken_4 rfl (lv_at hl 0 rfl) ?_
      refine va_get (D := (dC, dI)) (ci := 5) (v := .int t_size) (C := RX6) (T := TX6) (N := 7) hx hb hts (in1 tw_X6) hown hK hP 0 rfl rfl 1 (by decide) (hts _ (List.mem_cons_of_mem _ kw_619)) (fun _ h9 => h9) rfl dX6_takeToken_5 ?_
      refine lv_icmp_ge (tgt := 38) hx hb dX6_takeToken_8 (by decide) (fun c12 => ?_) (fun c12 => ?_)
      · replace hf := ifp c12 hf
        obtain rfl := inj1 hf
        exact hX11 _ _ hP hD hS _ (lv_sub hl [0] rfl)
      · replace hf := ifn c12 hf
        refine lv_aload_n hx hb dX6_takeToken_11 rfl (lv_at hl 0 rfl) ?_
        refine va_get (D := (dC, dI)) (ci := 5) (v := .ref h_t_bytes) (C := RX6) (T := TX6) (N := 7) hx hb hts (in1 tw_X6) hown hK hP 0 rfl rfl 0 (by decide) (hts _ (List.mem_cons_of_mem _ kw_65)) (fun _ h9 => h9) rfl dX6_takeToken_12 ?_
        refine lv_aload_n hx hb dX6_takeToken_15 rfl (lv_at hl 0 rfl) ?_
        refine va_get (D := (dC, dI)) (ci := 5) (v := .int x8) (C := RX6) (T := TX6) (N := 7) hx hb hts (in1 tw_X6) hown hK hP 0 rfl rfl 4 (by decide) (hts _ (List.mem_cons_of_mem _ kw_621)) (fun _ h9 => h9) rfl dX6_takeToken_16 ?_
        obtain ⟨g13, hf⟩ := chk_some hf
        refine va_iald hx hb hK hP 1 0 rfl rfl (gin_in g13) dX6_takeToken_19 ?_
        refine lv_bipush (v := (32 : Int32)) hx hb dX6_takeToken_20 (by decide) ?_
        refine lv_icmp_ne (tgt := 38) hx hb dX6_takeToken_22 (by decide) (fun c14 => ?_) (fun c14 => ?_)
        · replace hf := ifn c14 hf
          obtain rfl := inj1 hf
          exact hX11 _ _ hP hD hS _ (lv_sub hl [0] rfl)
        · replace hf := ifp c14 hf
          refine lv_aload_n hx hb dX6_takeToken_25 rfl (lv_at hl 0 rfl) ?_
          refine lv_dup hx hb dX6_takeToken_26 rfl ?_
          refine va_get (D := (dC, dI)) (ci := 5) (v := .int x8) (C := RX6) (T := TX6) (N := 7) hx hb hts (in1 tw_X6) hown hK hP 0 rfl rfl 4 (by decide) (hts _ (List.mem_cons_of_mem _ kw_621)) (fun _ h9 => h9) rfl dX6_takeToken_27 ?_
          refine lv_iconst (v := (1 : Int32)) hx hb dX6_takeToken_30 (by decide) ?_
          refine lv_iadd hx hb dX6_takeToken_31 ?_
          obtain ⟨x15, e16, hf⟩ := nm_some hf
          refine lv_tope e16 ?_
          refine va_put (D := (dC, dI)) (ci := 5) (v := .int x15) (ty := tyX6 4) (C := RX6) (T := TX6) (N := 7) hx hb hts (in1 tw_X6) tyX6 tyX6_ok nmX6 hown hK hP hD hS 0 rfl rfl 4 (by decide) (hts _ (List.mem_cons_of_mem _ kw_621)) (fun _ h9 => h9) rfl (tyX6_ok 4 (by decide)) rfl rfl (Nat.le_of_ble_eq_true rfl) dX6_takeToken_32 (fun H locs hP hD hS => ?_)
          have hP : va_P (dC, dI) vwCl [(h_t, .inr (5, fX6 h_t_bytes t_size t_start t_value x15 t_word h_t_numbers)), (h_t_bytes, .inl (cI, 240, .inl t_bytes))] H := hP
          have hD : va_D A [(h_t, .inr (5, fX6 h_t_bytes t_size t_start t_value x15 t_word h_t_numbers)), (h_t_bytes, .inl (cI, 240, .inl t_bytes))] := hD
          refine lv_goto (tgt := 0) hx hb dX6_takeToken_35 (by decide) ?_
          exact ih9 _ _ hf hX11 _ _ hP hD hS _ (lv_sub hl [0] rfl)
  obtain ⟨x7, hg, hf⟩ := bd1_some hf
  refine L17 FU _ _ hg ?_ _ _ hP hD hS _ (lv_sub hl [0] rfl)
  · intro H locs hP hD hS ls hl
    refine lv_aload_n hx hb dX6_takeToken_38 rfl (lv_at hl 0 rfl) ?_
    refine lv_aload_n hx hb dX6_takeToken_39 rfl (lv_at hl 0 rfl) ?_
    refine va_get (D := (dC, dI)) (ci := 5) (v := .int x7) (C := RX6) (T := TX6) (N := 7) hx hb hts (in1 tw_X6) hown hK hP 0 rfl rfl 4 (by decide) (hts _ (List.mem_cons_of_mem _ kw_621)) (fun _ h9 => h9) rfl dX6_takeToken_40 ?_
    refine va_put (D := (dC, dI)) (ci := 5) (v := .int x7) (ty := tyX6 2) (C := RX6) (T := TX6) (N := 7) hx hb hts (in1 tw_X6) tyX6 tyX6_ok nmX6 hown hK hP hD hS 0 rfl rfl 2 (by decide) (hts _ (List.mem_cons_of_mem _ kw_622)) (fun _ h9 => h9) rfl (tyX6_ok 2 (by decide)) rfl rfl (Nat.le_of_ble_eq_true rfl) dX6_takeToken_43 (fun H locs hP hD hS => ?_)
    have hP : va_P (dC, dI) vwCl [(h_t, .inr (5, fX6 h_t_bytes t_size x7 t_value x7 t_word h_t_numbers)), (h_t_bytes, .inl (cI, 240, .inl t_bytes))] H := hP
    have hD : va_D A [(h_t, .inr (5, fX6 h_t_bytes t_size x7 t_value x7 t_word h_t_numbers)), (h_t_bytes, .inl (cI, 240, .inl t_bytes))] := hD
    refine lv_aload_n hx hb dX6_takeToken_46 rfl (lv_at hl 0 rfl) ?_
    refine va_get (D := (dC, dI)) (ci := 5) (v := .int x7) (C := RX6) (T := TX6) (N := 7) hx hb hts (in1 tw_X6) hown hK hP 0 rfl rfl 4 (by decide) (hts _ (List.mem_cons_of_mem _ kw_621)) (fun _ h9 => h9) rfl dX6_takeToken_47 ?_
    refine lv_aload_n hx hb dX6_takeToken_50 rfl (lv_at hl 0 rfl) ?_
    refine va_get (D := (dC, dI)) (ci := 5) (v := .int t_size) (C := RX6) (T := TX6) (N := 7) hx hb hts (in1 tw_X6) hown hK hP 0 rfl rfl 1 (by decide) (hts _ (List.mem_cons_of_mem _ kw_619)) (fun _ h9 => h9) rfl dX6_takeToken_51 ?_
    refine lv_icmp_lt (tgt := 59) hx hb dX6_takeToken_54 (by decide) (fun c18 => ?_) (fun c18 => ?_)
    · replace hf := ifp c18 hf
      refine lv_aload_n hx hb dX6_takeToken_59 rfl (lv_at hl 0 rfl) ?_
      refine va_get (D := (dC, dI)) (ci := 5) (v := .ref h_t_bytes) (C := RX6) (T := TX6) (N := 7) hx hb hts (in1 tw_X6) hown hK hP 0 rfl rfl 0 (by decide) (hts _ (List.mem_cons_of_mem _ kw_65)) (fun _ h9 => h9) rfl dX6_takeToken_60 ?_
      refine lv_aload_n hx hb dX6_takeToken_63 rfl (lv_at hl 0 rfl) ?_
      refine va_get (D := (dC, dI)) (ci := 5) (v := .int x7) (C := RX6) (T := TX6) (N := 7) hx hb hts (in1 tw_X6) hown hK hP 0 rfl rfl 4 (by decide) (hts _ (List.mem_cons_of_mem _ kw_621)) (fun _ h9 => h9) rfl dX6_takeToken_64 ?_
      obtain ⟨g19, hf⟩ := chk_some hf
      refine va_iald hx hb hK hP 1 0 rfl rfl (gin_in g19) dX6_takeToken_67 ?_
      refine lv_bipush (v := (59 : Int32)) hx hb dX6_takeToken_68 (by decide) ?_
      refine lv_icmp_ne (tgt := 85) hx hb dX6_takeToken_70 (by decide) (fun c20 => ?_) (fun c20 => ?_)
      · replace hf := ifn c20 hf
        refine lv_aload_n hx hb dX6_takeToken_85 rfl (lv_at hl 0 rfl) ?_
        refine va_get (D := (dC, dI)) (ci := 5) (v := .ref h_t_bytes) (C := RX6) (T := TX6) (N := 7) hx hb hts (in1 tw_X6) hown hK hP 0 rfl rfl 0 (by decide) (hts _ (List.mem_cons_of_mem _ kw_65)) (fun _ h9 => h9) rfl dX6_takeToken_86 ?_
        refine lv_aload_n hx hb dX6_takeToken_89 rfl (lv_at hl 0 rfl) ?_
        refine va_get (D := (dC, dI)) (ci := 5) (v := .int x7) (C := RX6) (T := TX6) (N := 7) hx hb hts (in1 tw_X6) hown hK hP 0 rfl rfl 4 (by decide) (hts _ (List.mem_cons_of_mem _ kw_621)) (fun _ h9 => h9) rfl dX6_takeToken_90 ?_
        obtain ⟨g21, hf⟩ := chk_some hf
        refine va_iald hx hb hK hP 1 0 rfl rfl (gin_in g21) dX6_takeToken_93 ?_
        obtain ⟨r22, hg23, hf⟩ := bd1_some hf
        refine CM_callS (As := [.int (t_bytes x7.toNatClampNeg)]) (rest := []) (wc := []) (w1 := []) (wr := [(h_t, .inr (5, fX6 h_t_bytes t_size x7 t_value x7 t_word h_t_numbers)), (h_t_bytes, .inl (cI, 240, .inl t_bytes))]) (wo := [(h_t, .inr (5, fX6 h_t_bytes t_size x7 t_value x7 t_word h_t_numbers)), (h_t_bytes, .inl (cI, 240, .inl t_bytes))]) (v := (some (.int r22))) ⟨hx, hb, hml, hown, hts⟩ (c_X6_isLetter l dC dI cI cZ te (t_bytes x7.toNatClampNeg) r22 hg23) (va_cwS 1 hts (gS kw_627 kw_628 kw_109 kw_629) rfl rfl rfl (by decide +kernel) ⟨Nat.le_of_ble_eq_true rfl, Nat.le_of_ble_eq_true rfl⟩) (kS_env te) hK hP hD hS hA hE [] [0, 1] [0, 1] rfl rfl (by decide) (by decide) (by decide) (by decide) rfl rfl hl.1 rfl (Nat.le_of_ble_eq_true rfl) dX6_takeToken_94 ⟨Nat.zero_le _, Nat.zero_le _⟩ (fun H locs hP hD hS => ?_)
        show W p l e rmX6_takeToken s m args below meth c H locs 0 0 Q (F0 m 97 ls [.int r22])
        refine lv_if_eq (tgt := 105) hx hb dX6_takeToken_97 (by decide) (fun c24 => ?_) (fun c24 => ?_)
        · replace hf := ifp c24 hf
          refine lv_aload_n hx hb dX6_takeToken_105 rfl (lv_at hl 0 rfl) ?_
          refine va_get (D := (dC, dI)) (ci := 5) (v := .ref h_t_bytes) (C := RX6) (T := TX6) (N := 7) hx hb hts (in1 tw_X6) hown hK hP 0 rfl rfl 0 (by decide) (hts _ (List.mem_cons_of_mem _ kw_65)) (fun _ h9 => h9) rfl dX6_takeToken_106 ?_
          refine lv_aload_n hx hb dX6_takeToken_109 rfl (lv_at hl 0 rfl) ?_
          refine va_get (D := (dC, dI)) (ci := 5) (v := .int x7) (C := RX6) (T := TX6) (N := 7) hx hb hts (in1 tw_X6) hown hK hP 0 rfl rfl 4 (by decide) (hts _ (List.mem_cons_of_mem _ kw_621)) (fun _ h9 => h9) rfl dX6_takeToken_110 ?_
          obtain ⟨g25, hf⟩ := chk_some hf
          refine va_iald hx hb hK hP 1 0 rfl rfl (gin_in g25) dX6_takeToken_113 ?_
          obtain ⟨r26, hg27, hf⟩ := bd1_some hf
          refine CM_callS (As := [.int (t_bytes x7.toNatClampNeg)]) (rest := []) (wc := []) (w1 := []) (wr := [(h_t, .inr (5, fX6 h_t_bytes t_size x7 t_value x7 t_word h_t_numbers)), (h_t_bytes, .inl (cI, 240, .inl t_bytes))]) (wo := [(h_t, .inr (5, fX6 h_t_bytes t_size x7 t_value x7 t_word h_t_numbers)), (h_t_bytes, .inl (cI, 240, .inl t_bytes))]) (v := (some (.int r26))) ⟨hx, hb, hml, hown, hts⟩ (c_X6_isFigure l dC dI cI cZ te (t_bytes x7.toNatClampNeg) r26 hg27) (va_cwS 1 hts (gS kw_635 kw_636 kw_109 kw_637) rfl rfl rfl (by decide +kernel) ⟨Nat.le_of_ble_eq_true rfl, Nat.le_of_ble_eq_true rfl⟩) (kS_env te) hK hP hD hS hA hE [] [0, 1] [0, 1] rfl rfl (by decide) (by decide) (by decide) (by decide) rfl rfl hl.1 rfl (Nat.le_of_ble_eq_true rfl) dX6_takeToken_114 ⟨Nat.zero_le _, Nat.zero_le _⟩ (fun H locs hP hD hS => ?_)
          show W p l e rmX6_takeToken s m args below meth c H locs 0 0 Q (F0 m 117 ls [.int r26])
          refine lv_if_eq (tgt := 127) hx hb dX6_takeToken_117 (by decide) (fun c28 => ?_) (fun c28 => ?_)
          · replace hf := ifp c28 hf
            refine lv_iconst (v := (4 : Int32)) hx hb dX6_takeToken_127 (by decide) ?_
            obtain ⟨rfl, rfl, rfl, rfl⟩ := inj4 hf
            subst hQ
            exact CM_iret hx hb hr rfl hlocks hAe hP hD hS dX6_takeToken_128
          · replace hf := ifn c28 hf
            refine lv_aload_n hx hb dX6_takeToken_120 rfl (lv_at hl 0 rfl) ?_
            obtain ⟨r29, x30, x31, hg32, hf⟩ := bd3_some hf
            refine CM_callV (C := RX6) (As := []) (rest := []) (wc := [(h_t, .inr (5, fX6 h_t_bytes t_size x7 t_value x7 t_word h_t_numbers)), (h_t_bytes, .inl (cI, 240, .inl t_bytes))]) (w1 := [(h_t, .inr (5, fX6 h_t_bytes t_size x7 x30 x31 t_word h_t_numbers)), (h_t_bytes, .inl (cI, 240, .inl t_bytes))]) (wr := []) (wo := [(h_t, .inr (5, fX6 h_t_bytes t_size x7 x30 x31 t_word h_t_numbers)), (h_t_bytes, .inl (cI, 240, .inl t_bytes))]) (v := (some (.int r29))) ⟨hx, hb, hml, hown, hts⟩ (c_X6_takeNumber l dC dI cI cZ te h_t h_t_bytes h_t_numbers t_size x7 t_value x7 t_word t_bytes r29 x30 x31 hg32) (cwV 0 hts (gV kw_638 kw_639 kw_640 kw_109 kw_641) rfl rfl rfl (by decide +kernel) ⟨Nat.le_of_ble_eq_true rfl, Nat.le_of_ble_eq_true rfl⟩) (kS_env te) hK hP hD hS hA hE [0, 1] [] [0, 1] rfl rfl (by decide) (by decide) (by decide) (by decide) rfl 0 5 rfl rfl rfl rfl hl.1 rfl (Nat.le_of_ble_eq_true rfl) dX6_takeToken_121 ⟨Nat.zero_le _, Nat.zero_le _⟩ (fun H locs hP hD hS => ?_)
            show W p l e rmX6_takeToken s m args below meth c H locs 0 0 Q (F0 m 124 ls [.int r29])
            refine lv_goto (tgt := 128) hx hb dX6_takeToken_124 (by decide) ?_
            obtain ⟨rfl, rfl, rfl, rfl⟩ := inj4 hf
            subst hQ
            exact CM_iret hx hb hr rfl hlocks hAe hP hD hS dX6_takeToken_128
        · replace hf := ifn c24 hf
          refine lv_aload_n hx hb dX6_takeToken_100 rfl (lv_at hl 0 rfl) ?_
          obtain ⟨r33, x34, x35, hg36, hf⟩ := bd3_some hf
          refine CM_callV (C := RX6) (As := []) (rest := []) (wc := [(h_t, .inr (5, fX6 h_t_bytes t_size x7 t_value x7 t_word h_t_numbers)), (h_t_bytes, .inl (cI, 240, .inl t_bytes))]) (w1 := [(h_t, .inr (5, fX6 h_t_bytes t_size x7 x34 x35 t_word h_t_numbers)), (h_t_bytes, .inl (cI, 240, .inl t_bytes))]) (wr := []) (wo := [(h_t, .inr (5, fX6 h_t_bytes t_size x7 x34 x35 t_word h_t_numbers)), (h_t_bytes, .inl (cI, 240, .inl t_bytes))]) (v := (some (.int r33))) ⟨hx, hb, hml, hown, hts⟩ (c_X6_takeWord l dC dI cI cZ te h_t h_t_bytes h_t_numbers t_size x7 t_value x7 t_word t_bytes r33 x34 x35 hg36) (cwV 0 hts (gV kw_642 kw_643 kw_644 kw_109 kw_645) rfl rfl rfl (by decide +kernel) ⟨Nat.le_of_ble_eq_true rfl, Nat.le_of_ble_eq_true rfl⟩) (kS_env te) hK hP hD hS hA hE [0, 1] [] [0, 1] rfl rfl (by decide) (by decide) (by decide) (by decide) rfl 0 5 rfl rfl rfl rfl hl.1 rfl (Nat.le_of_ble_eq_true rfl) dX6_takeToken_101 ⟨Nat.zero_le _, Nat.zero_le _⟩ (fun H locs hP hD hS => ?_)
          show W p l e rmX6_takeToken s m args below meth c H locs 0 0 Q (F0 m 104 ls [.int r33])
          obtain ⟨rfl, rfl, rfl, rfl⟩ := inj4 hf
          subst hQ
          exact CM_iret hx hb hr rfl hlocks hAe hP hD hS dX6_takeToken_104
      · replace hf := ifp c20 hf
        refine lv_aload_n hx hb dX6_takeToken_73 rfl (lv_at hl 0 rfl) ?_
        refine lv_dup hx hb dX6_takeToken_74 rfl ?_
        refine va_get (D := (dC, dI)) (ci := 5) (v := .int x7) (C := RX6) (T := TX6) (N := 7) hx hb hts (in1 tw_X6) hown hK hP 0 rfl rfl 4 (by decide) (hts _ (List.mem_cons_of_mem _ kw_621)) (fun _ h9 => h9) rfl dX6_takeToken_75 ?_
        refine lv_iconst (v := (1 : Int32)) hx hb dX6_takeToken_78 (by decide) ?_
        refine lv_iadd hx hb dX6_takeToken_79 ?_
        obtain ⟨x37, e38, hf⟩ := nm_some hf
        refine lv_tope e38 ?_
        refine va_put (D := (dC, dI)) (ci := 5) (v := .int x37) (ty := tyX6 4) (C := RX6) (T := TX6) (N := 7) hx hb hts (in1 tw_X6) tyX6 tyX6_ok nmX6 hown hK hP hD hS 0 rfl rfl 4 (by decide) (hts _ (List.mem_cons_of_mem _ kw_621)) (fun _ h9 => h9) rfl (tyX6_ok 4 (by decide)) rfl rfl (Nat.le_of_ble_eq_true rfl) dX6_takeToken_80 (fun H locs hP hD hS => ?_)
        have hP : va_P (dC, dI) vwCl [(h_t, .inr (5, fX6 h_t_bytes t_size x7 t_value x37 t_word h_t_numbers)), (h_t_bytes, .inl (cI, 240, .inl t_bytes))] H := hP
        have hD : va_D A [(h_t, .inr (5, fX6 h_t_bytes t_size x7 t_value x37 t_word h_t_numbers)), (h_t_bytes, .inl (cI, 240, .inl t_bytes))] := hD
        refine lv_iconst (v := (3 : Int32)) hx hb dX6_takeToken_83 (by decide) ?_
        obtain ⟨rfl, rfl, rfl, rfl⟩ := inj4 hf
        subst hQ
        exact CM_iret hx hb hr rfl hlocks hAe hP hD hS dX6_takeToken_84
    · replace hf := ifn c18 hf
      refine lv_iconst (v := (0 : Int32)) hx hb dX6_takeToken_57 (by decide) ?_
      obtain ⟨rfl, rfl, rfl, rfl⟩ := inj4 hf
      subst hQ
      exact CM_iret hx hb hr rfl hlocks hAe hP hD hS dX6_takeToken_58
def rmX6_takeItem : Room := { frames := 7, cells := 0, slots := 0, locals := 149 }
abbrev wqX6_takeItem : List Cond := Cond.code yX6_takeItem cX6_takeItem 4 (some .int) :: tG
set_option maxHeartbeats 4000000 in
set_option maxRecDepth 100000 in
theorem c_X6_takeItem (l : Launch) (dC : Nat → ClassId) (dI : Nat → Nat → Nat) (cI cZ : ClassId) (te : Nat → Nat) (h_t : Nat) (h_t_bytes : Nat) (h_t_numbers : Nat) (t_size : Int32) (t_start : Int32) (t_value : Int32) (t_next : Int32) (t_word : Int32) (t_bytes : Nat → Int32) (t_numbers : Nat → Int32) (o0 : Int32) (o1 : Int32) (o2 : Int32) (o3 : Int32) (o4 : Int32) (o5 : Nat → Int32) (hf : f_X6_takeItem t_size t_value t_next t_word t_bytes t_numbers = some (o0, o1, o2, o3, o4, o5)) : CM l yX6_takeItem wqX6_takeItem rmX6_takeItem (kS te) dC dI cI cZ [.ref h_t] [(h_t, .inr (5, fX6 h_t_bytes t_size t_start t_value t_next t_word h_t_numbers)), (h_t_bytes, .inl (cI, 240, .inl t_bytes)), (h_t_numbers, .inl (cI, 4, .inl t_numbers))] [(h_t, .inr (5, fX6 h_t_bytes t_size o1 o2 o3 o4 h_t_numbers)), (h_t_bytes, .inl (cI, 240, .inl t_bytes)), (h_t_numbers, .inl (cI, 4, .inl o5))] (some (.int o0)) := by
  refine CM_of (cc := cX6_takeItem) (maxL := 4) (ret := (some .int)) (by decide +kernel) rfl (Nat.le_of_ble_eq_true rfl) ?_
  intro p e s m args below meth c A Q hx hb hr hml hown hts hlocks hA hK hP hD hS hE hQ hAe ls hl
  have hown : s.vm.findClass RX6 = some m.cls := hown
  have hl : lv_has ls 4 [(0, .ref h_t)] := hl
  unfold f_X6_takeItem at hf
  refine lv_aload_n hx hb dX6_takeItem_0 rfl (lv_at hl 0 rfl) ?_
  obtain ⟨r1, x2, x3, x4, hg5, hf⟩ := bd4_some hf
  refine CM_callV (C := RX6) (As := []) (rest := []) (wc := [(h_t, .inr (5, fX6 h_t_bytes t_size t_start t_value t_next t_word h_t_numbers)), (h_t_bytes, .inl (cI, 240, .inl t_bytes))]) (w1 := [(h_t, .inr (5, fX6 h_t_bytes t_size x2 x3 x4 t_word h_t_numbers)), (h_t_bytes, .inl (cI, 240, .inl t_bytes))]) (wr := [(h_t_numbers, .inl (cI, 4, .inl t_numbers))]) (wo := [(h_t, .inr (5, fX6 h_t_bytes t_size x2 x3 x4 t_word h_t_numbers)), (h_t_bytes, .inl (cI, 240, .inl t_bytes)), (h_t_numbers, .inl (cI, 4, .inl t_numbers))]) (v := (some (.int r1))) ⟨hx, hb, hml, hown, hts⟩ (c_X6_takeToken l dC dI cI cZ te h_t h_t_bytes h_t_numbers t_size t_start t_value t_next t_word t_bytes r1 x2 x3 x4 hg5) (cwV 0 hts (gV kw_646 kw_647 kw_648 kw_109 kw_649) rfl rfl rfl (by decide +kernel) ⟨Nat.le_of_ble_eq_true rfl, Nat.le_of_ble_eq_true rfl⟩) (kS_env te) hK hP hD hS hA hE [0, 1] [2] [1, 2, 0] rfl rfl (by decide) (by decide) (by decide) (by decide) rfl 0 5 rfl rfl rfl rfl hl.1 rfl (Nat.le_of_ble_eq_true rfl) dX6_takeItem_1 ⟨Nat.zero_le _, Nat.zero_le _⟩ (fun H locs hP hD hS => ?_)
  show W p l e rmX6_takeItem s m args below meth c H locs 0 0 Q (F0 m 4 ls [.int r1])
  refine lv_istore_n (lv' := [(1, .int r1), (0, .ref h_t)]) hx hb dX6_takeItem_4 rfl hl (by decide) rfl (fun ls hl => ?_)
  refine lv_iload_n hx hb dX6_takeItem_5 rfl (lv_at hl 0 rfl) ?_
  refine lv_if_ne (tgt := 11) hx hb dX6_takeItem_6 (by decide) (fun c6 => ?_) (fun c6 => ?_)
  · replace hf := ifn c6 hf
    refine lv_iload_n hx hb dX6_takeItem_11 rfl (lv_at hl 0 rfl) ?_
    refine lv_iconst (v := (1 : Int32)) hx hb dX6_takeItem_12 (by decide) ?_
    refine lv_icmp_ne (tgt := 32) hx hb dX6_takeItem_13 (by decide) (fun c7 => ?_) (fun c7 => ?_)
    · replace hf := ifn c7 hf
      refine lv_iconst (v := (-1 : Int32)) hx hb dX6_takeItem_32 (by decide) ?_
      obtain ⟨rfl, rfl, rfl, rfl, rfl, rfl⟩ := inj6 hf
      subst hQ
      exact CM_iret hx hb hr rfl hlocks hAe hP hD hS dX6_takeItem_33
    · replace hf := ifp c7 hf
      refine lv_aload_n hx hb dX6_takeItem_16 rfl (lv_at hl 1 rfl) ?_
      refine va_get (D := (dC, dI)) (ci := 5) (v := .int x3) (C := RX6) (T := TX6) (N := 7) hx hb hts (in1 tw_X6) hown hK hP 0 rfl rfl 3 (by decide) (hts _ (List.mem_cons_of_mem _ kw_630)) (fun _ h9 => h9) rfl dX6_takeItem_17 ?_
      refine lv_if_lt (tgt := 32) hx hb dX6_takeItem_20 (by decide) (fun c8 => ?_) (fun c8 => ?_)
      · replace hf := ifp c8 hf
        refine lv_iconst (v := (-1 : Int32)) hx hb dX6_takeItem_32 (by decide) ?_
        obtain ⟨rfl, rfl, rfl, rfl, rfl, rfl⟩ := inj6 hf
        subst hQ
        exact CM_iret hx hb hr rfl hlocks hAe hP hD hS dX6_takeItem_33
      · replace hf := ifn c8 hf
        refine lv_aload_n hx hb dX6_takeItem_23 rfl (lv_at hl 1 rfl) ?_
        refine va_get (D := (dC, dI)) (ci := 5) (v := .int x3) (C := RX6) (T := TX6) (N := 7) hx hb hts (in1 tw_X6) hown hK hP 0 rfl rfl 3 (by decide) (hts _ (List.mem_cons_of_mem _ kw_630)) (fun _ h9 => h9) rfl dX6_takeItem_24 ?_
        refine lv_bipush (v := (12 : Int32)) hx hb dX6_takeItem_27 (by decide) ?_
        refine lv_icmp_lt (tgt := 34) hx hb dX6_takeItem_29 (by decide) (fun c9 => ?_) (fun c9 => ?_)
        · replace hf := ifp c9 hf
          refine lv_aload_n hx hb dX6_takeItem_34 rfl (lv_at hl 1 rfl) ?_
          refine lv_aload_n hx hb dX6_takeItem_35 rfl (lv_at hl 1 rfl) ?_
          refine va_get (D := (dC, dI)) (ci := 5) (v := .int x3) (C := RX6) (T := TX6) (N := 7) hx hb hts (in1 tw_X6) hown hK hP 0 rfl rfl 3 (by decide) (hts _ (List.mem_cons_of_mem _ kw_630)) (fun _ h9 => h9) rfl dX6_takeItem_36 ?_
          refine va_put (D := (dC, dI)) (ci := 5) (v := .int x3) (ty := tyX6 5) (C := RX6) (T := TX6) (N := 7) hx hb hts (in1 tw_X6) tyX6 tyX6_ok nmX6 hown hK hP hD hS 0 rfl rfl 5 (by decide) (hts _ (List.mem_cons_of_mem _ kw_650)) (fun _ h9 => h9) rfl (tyX6_ok 5 (by decide)) rfl rfl (Nat.le_of_ble_eq_true rfl) dX6_takeItem_39 (fun H locs hP hD hS => ?_)
          have hP : va_P (dC, dI) vwCl [(h_t, .inr (5, fX6 h_t_bytes t_size x2 x3 x4 x3 h_t_numbers)), (h_t_bytes, .inl (cI, 240, .inl t_bytes)), (h_t_numbers, .inl (cI, 4, .inl t_numbers))] H := hP
          have hD : va_D A [(h_t, .inr (5, fX6 h_t_bytes t_size x2 x3 x4 x3 h_t_numbers)), (h_t_bytes, .inl (cI, 240, .inl t_bytes)), (h_t_numbers, .inl (cI, 4, .inl t_numbers))] := hD
          refine va_gets hx hb (C := "StoneRiver$Text") (n := "NUMBERS_AFTER") (d := "[I") (kS_z4 hE) hS hown (hts _ (List.mem_cons_of_mem _ kw_651)) (fun _ h9 => h9) dX6_takeItem_42 ?_
          refine lv_aload_n hx hb dX6_takeItem_45 rfl (lv_at hl 1 rfl) ?_
          refine va_get (D := (dC, dI)) (ci := 5) (v := .int x3) (C := RX6) (T := TX6) (N := 7) hx hb hts (in1 tw_X6) hown hK hP 0 rfl rfl 5 (by decide) (hts _ (List.mem_cons_of_mem _ kw_650)) (fun _ h9 => h9) rfl dX6_takeItem_46 ?_
          obtain ⟨g10, hf⟩ := chk_some hf
          refine va_ti hx hb (kS_t4 hE) hS (gin_in g10) (v := .int (tb4 x3.toNatClampNeg)) rfl dX6_takeItem_49 ?_
          refine lv_aload_n hx hb dX6_takeItem_50 rfl (lv_at hl 1 rfl) ?_
          refine va_get (D := (dC, dI)) (ci := 5) (v := .ref h_t_numbers) (C := RX6) (T := TX6) (N := 7) hx hb hts (in1 tw_X6) hown hK hP 0 rfl rfl 6 (by decide) (hts _ (List.mem_cons_of_mem _ kw_66)) (fun _ h9 => h9) rfl dX6_takeItem_51 ?_
          refine va_alen hx hb hK hP 2 0 rfl rfl (v := (4 : Int32)) (show Int32.ofNat 4 = (4 : Int32) from by decide) dX6_takeItem_54 ?_
          refine va_mmin hx hb (hml.trans hl.1.symm) hown (hts _ (List.mem_cons_of_mem _ kw_652)) (hts _ (List.mem_cons_of_mem _ kw_4)) (hts _ (List.mem_cons_of_mem _ kw_5)) (hts _ (List.mem_cons_of_mem _ kw_6)) (Nat.le_of_ble_eq_true rfl) (Nat.le_of_ble_eq_true rfl) (Nat.zero_le _) (Nat.zero_le _) dX6_takeItem_55 ?_
          obtain ⟨x11, e12, hf⟩ := nm_some hf
          refine lv_tope e12 ?_
          refine lv_istore_n (lv' := [(2, .int x11), (1, .int r1), (0, .ref h_t)]) hx hb dX6_takeItem_58 rfl hl (by decide) rfl (fun ls hl => ?_)
          refine lv_iconst (v := (0 : Int32)) hx hb dX6_takeItem_59 (by decide) ?_
          refine lv_istore_n (lv' := [(3, .int (0 : Int32)), (2, .int x11), (1, .int r1), (0, .ref h_t)]) hx hb dX6_takeItem_60 rfl hl (by decide) rfl (fun ls hl => ?_)
          have L52 : ∀ (fu39 : Nat) (y33 : Nat → Int32) (x34 : Int32) (x35 : Int32) (x36 : Int32) (x37 : Int32) (q32 : Nat) (y28 : Nat → Int32) (x29 : Int32) (x30 : Int32) (x31 : Int32), f_X6_takeItem_L1 x11 t_size t_bytes fu39 y33 x34 x35 x36 x37 = some (q32, y28, x29, x30, x31) → (q32 = 0 → ∀ (H : Heap) (locs : List Loc), va_P (dC, dI) vwCl [(h_t, .inr (5, fX6 h_t_bytes t_size x29 x30 x31 x3 h_t_numbers)), (h_t_bytes, .inl (cI, 240, .inl t_bytes)), (h_t_numbers, .inl (cI, 4, .inl y28))] H → va_D A [(h_t, .inr (5, fX6 h_t_bytes t_size x29 x30 x31 x3 h_t_numbers)), (h_t_bytes, .inl (cI, 240, .inl t_bytes)), (h_t_numbers, .inl (cI, 4, .inl y28))] → va_S A s.heap H locs → ∀ ls : Array Slot, lv_has ls 4 [] → W p l e rmX6_takeItem s m args below meth c H locs 0 0 Q (F0 m 74 ls [])) → (q32 = 1 → ∀ (H : Heap) (locs : List Loc), va_P (dC, dI) vwCl [(h_t, .inr (5, fX6 h_t_bytes t_size x29 x30 x31 x3 h_t_numbers)), (h_t_bytes, .inl (cI, 240, .inl t_bytes)), (h_t_numbers, .inl (cI, 4, .inl y28))] H → va_D A [(h_t, .inr (5, fX6 h_t_bytes t_size x29 x30 x31 x3 h_t_numbers)), (h_t_bytes, .inl (cI, 240, .inl t_bytes)), (h_t_numbers, .inl (cI, 4, .inl y28))] → va_S A s.heap H locs → ∀ ls : Array Slot, lv_has ls 4 [(0, .ref h_t)] → W p l e rmX6_takeItem s m args below meth c H locs 0 0 Q (F0 m 92 ls [])) → ∀ (H : Heap) (locs : List Loc), va_P (dC, dI) vwCl [(h_t, .inr (5, fX6 h_t_bytes t_size x34 x35 x36 x3 h_t_numbers)), (h_t_bytes, .inl (cI, 240, .inl t_bytes)), (h_t_numbers, .inl (cI, 4, .inl y33))] H → va_D A [(h_t, .inr (5, fX6 h_t_bytes t_size x34 x35 x36 x3 h_t_numbers)), (h_t_bytes, .inl (cI, 240, .inl t_bytes)), (h_t_numbers, .inl (cI, 4, .inl y33))] → va_S A s.heap H locs → ∀ ls : Array Slot, lv_has ls 4 [(0, .ref h_t), (2, .int x11), (3, .int x37)] → W p l e rmX6_takeItem s m args below meth c H locs 0 0 Q (F0 m 61 ls []) := by
            intro fu39
            induction fu39 with
            | zero =>
              intro y33 x34 x35 x36 x37 q32 y28 x29 x30 x31 hf
              unfold f_X6_takeItem_L1 at hf
              exact none_ne hf
            | succ fu39 ih38 =>
              intro y33 x34 x35 x36 x37 q32 y28 x29 x30 x31 hf hX40 hX41 H locs hP hD hS ls hl
              unfold f_X6_takeItem_L1 at hf
              refine lv_iload_n hx hb dX6_takeItem_61 rfl (lv_at hl 2 rfl) ?_
              refine lv_iload_n hx hb dX6_takeItem_62 rfl (lv_at hl 1 rfl) ?_
              refine lv_icmp_ge (tgt := 92) hx hb dX6_takeItem_63 (by decide) (fun c42 => ?_) (fun c42 => ?_)
              · replace hf := ifp c42 hf
                obtain ⟨rfl, rfl, rfl, rfl, rfl⟩ := inj5 hf
                exact hX41 rfl _ _ hP hD hS _ (lv_sub hl [0] rfl)
              · replace hf := ifn c42 hf
                refine lv_aload_n hx hb dX6_takeItem_66 rfl (lv_at hl 0 rfl) ?_
                obtain ⟨r43, x44, x45, x46, hg47, hf⟩ := bd4_some hf
                refine CM_callV (C := RX6) (As := []) (rest := []) (wc := [(h_t, .inr (5, fX6 h_t_bytes t_size x34 x35 x36 x3 h_t_numbers)), (h_t_bytes, .inl (cI, 240, .inl t_bytes))]) (w1 := [(h_t, .inr (5, fX6 h_t_bytes t_size x44 x45 x46 x3 h_t_numbers)), (h_t_bytes, .inl (cI, 240, .inl t_bytes))]) (wr := [(h_t_numbers, .inl (cI, 4, .inl y33))]) (wo := [(h_t, .inr (5, fX6 h_t_bytes t_size x44 x45 x46 x3 h_t_numbers)), (h_t_bytes, .inl (cI, 240, .inl t_bytes)), (h_t_numbers, .inl (cI, 4, .inl y33))]) (v := (some (.int r43))) ⟨hx, hb, hml, hown, hts⟩ (c_X6_takeToken l dC dI cI cZ te h_t h_t_bytes h_t_numbers t_size x34 x35 x36 x3 t_bytes r43 x44 x45 x46 hg47) (cwV 0 hts (gV kw_646 kw_647 kw_648 kw_109 kw_649) rfl rfl rfl (by decide +kernel) ⟨Nat.le_of_ble_eq_true rfl, Nat.le_of_ble_eq_true rfl⟩) (kS_env te) hK hP hD hS hA hE [0, 1] [2] [1, 2, 0] rfl rfl (by decide) (by decide) (by decide) (by decide) rfl 0 5 rfl rfl rfl rfl hl.1 rfl (Nat.le_of_ble_eq_true rfl) dX6_takeItem_67 ⟨Nat.zero_le _, Nat.zero_le _⟩ (fun H locs hP hD hS => ?_)
                show W p l e rmX6_takeItem s m args below meth c H locs 0 0 Q (F0 m 70 ls [.int r43])
                refine lv_iconst (v := (2 : Int32)) hx hb dX6_takeItem_70 (by decide) ?_
                refine lv_icmp_eq (tgt := 76) hx hb dX6_takeItem_71 (by decide) (fun c48 => ?_) (fun c48 => ?_)
                · replace hf := ifp c48 hf
                  refine lv_aload_n hx hb dX6_takeItem_76 rfl (lv_at hl 0 rfl) ?_
                  refine va_get (D := (dC, dI)) (ci := 5) (v := .ref h_t_numbers) (C := RX6) (T := TX6) (N := 7) hx hb hts (in1 tw_X6) hown hK hP 0 rfl rfl 6 (by decide) (hts _ (List.mem_cons_of_mem _ kw_66)) (fun _ h9 => h9) rfl dX6_takeItem_77 ?_
                  refine lv_iload_n hx hb dX6_takeItem_80 rfl (lv_at hl 2 rfl) ?_
                  refine lv_aload_n hx hb dX6_takeItem_81 rfl (lv_at hl 0 rfl) ?_
                  refine va_get (D := (dC, dI)) (ci := 5) (v := .int x45) (C := RX6) (T := TX6) (N := 7) hx hb hts (in1 tw_X6) hown hK hP 0 rfl rfl 3 (by decide) (hts _ (List.mem_cons_of_mem _ kw_630)) (fun _ h9 => h9) rfl dX6_takeItem_82 ?_
                  obtain ⟨g49, hf⟩ := chk_some hf
                  obtain ⟨y50, e51, hf⟩ := nm_some hf
                  refine va_iast hx hb hK hP hD hS 2 0 rfl rfl (gin_in g49) dX6_takeItem_85 (fun H locs hP hD hS => ?_)
                  have hP : va_P (dC, dI) vwCl [(h_t, .inr (5, fX6 h_t_bytes t_size x44 x45 x46 x3 h_t_numbers)), (h_t_bytes, .inl (cI, 240, .inl t_bytes)), (h_t_numbers, .inl (cI, 4, .inl y50))] H := by rw [e51]; exact hP
                  have hD : va_D A [(h_t, .inr (5, fX6 h_t_bytes t_size x44 x45 x46 x3 h_t_numbers)), (h_t_bytes, .inl (cI, 240, .inl t_bytes)), (h_t_numbers, .inl (cI, 4, .inl y50))] := by rw [e51]; exact hD
                  refine lv_iinc (v := (x37 + (1 : Int32))) (lv' := [(3, .int (x37 + (1 : Int32))), (0, .ref h_t), (2, .int x11)]) hx hb dX6_takeItem_86 hl (k := 2) rfl rfl (by decide) rfl (fun ls hl => ?_)
                  refine lv_goto (tgt := 61) hx hb dX6_takeItem_89 (by decide) ?_
                  exact ih38 _ _ _ _ _ _ _ _ _ _ hf hX40 hX41 _ _ hP hD hS _ (lv_sub hl [1, 2, 0] rfl)
                · replace hf := ifn c48 hf
                  obtain ⟨rfl, rfl, rfl, rfl, rfl⟩ := inj5 hf
                  exact hX40 rfl _ _ hP hD hS _ (lv_sub hl [] rfl)
          obtain ⟨q32, y28, x29, x30, x31, hg, hf⟩ := bd5_some hf
          refine L52 FU _ _ _ _ _ _ _ _ _ _ hg ?_ ?_ _ _ hP hD hS _ (lv_sub hl [3, 1, 0] rfl)
          · intro hq
            subst hq
            replace hf := ifp rfl hf
            intro H locs hP hD hS ls hl
            refine lv_iconst (v := (-1 : Int32)) hx hb dX6_takeItem_74 (by decide) ?_
            obtain ⟨rfl, rfl, rfl, rfl, rfl, rfl⟩ := inj6 hf
            subst hQ
            exact CM_iret hx hb hr rfl hlocks hAe hP hD hS dX6_takeItem_75
          · intro hq
            subst hq
            replace hf := ifn (by decide) hf
            intro H locs hP hD hS ls hl
            refine lv_aload_n hx hb dX6_takeItem_92 rfl (lv_at hl 0 rfl) ?_
            obtain ⟨r53, x54, x55, x56, hg57, hf⟩ := bd4_some hf
            refine CM_callV (C := RX6) (As := []) (rest := []) (wc := [(h_t, .inr (5, fX6 h_t_bytes t_size x29 x30 x31 x3 h_t_numbers)), (h_t_bytes, .inl (cI, 240, .inl t_bytes))]) (w1 := [(h_t, .inr (5, fX6 h_t_bytes t_size x54 x55 x56 x3 h_t_numbers)), (h_t_bytes, .inl (cI, 240, .inl t_bytes))]) (wr := [(h_t_numbers, .inl (cI, 4, .inl y28))]) (wo := [(h_t, .inr (5, fX6 h_t_bytes t_size x54 x55 x56 x3 h_t_numbers)), (h_t_bytes, .inl (cI, 240, .inl t_bytes)), (h_t_numbers, .inl (cI, 4, .inl y28))]) (v := (some (.int r53))) ⟨hx, hb, hml, hown, hts⟩ (c_X6_takeToken l dC dI cI cZ te h_t h_t_bytes h_t_numbers t_size x29 x30 x31 x3 t_bytes r53 x54 x55 x56 hg57) (cwV 0 hts (gV kw_646 kw_647 kw_648 kw_109 kw_649) rfl rfl rfl (by decide +kernel) ⟨Nat.le_of_ble_eq_true rfl, Nat.le_of_ble_eq_true rfl⟩) (kS_env te) hK hP hD hS hA hE [0, 1] [2] [1, 2, 0] rfl rfl (by decide) (by decide) (by decide) (by decide) rfl 0 5 rfl rfl rfl rfl hl.1 rfl (Nat.le_of_ble_eq_true rfl) dX6_takeItem_93 ⟨Nat.zero_le _, Nat.zero_le _⟩ (fun H locs hP hD hS => ?_)
            show W p l e rmX6_takeItem s m args below meth c H locs 0 0 Q (F0 m 96 ls [.int r53])
            refine lv_iconst (v := (3 : Int32)) hx hb dX6_takeItem_96 (by decide) ?_
            refine lv_icmp_ne (tgt := 104) hx hb dX6_takeItem_97 (by decide) (fun c58 => ?_) (fun c58 => ?_)
            · replace hf := ifn c58 hf
              refine lv_iconst (v := (-1 : Int32)) hx hb dX6_takeItem_104 (by decide) ?_
              obtain ⟨rfl, rfl, rfl, rfl, rfl, rfl⟩ := inj6 hf
              subst hQ
              exact CM_iret hx hb hr rfl hlocks hAe hP hD hS dX6_takeItem_105
            · replace hf := ifp c58 hf
              refine lv_iconst (v := (1 : Int32)) hx hb dX6_takeItem_100 (by decide) ?_
              refine lv_goto (tgt := 105) hx hb dX6_takeItem_101 (by decide) ?_
              obtain ⟨rfl, rfl, rfl, rfl, rfl, rfl⟩ := inj6 hf
              subst hQ
              exact CM_iret hx hb hr rfl hlocks hAe hP hD hS dX6_takeItem_105
        · replace hf := ifn c9 hf
          refine lv_iconst (v := (-1 : Int32)) hx hb dX6_takeItem_32 (by decide) ?_
          obtain ⟨rfl, rfl, rfl, rfl, rfl, rfl⟩ := inj6 hf
          subst hQ
          exact CM_iret hx hb hr rfl hlocks hAe hP hD hS dX6_takeItem_33
  · replace hf := ifp c6 hf
    refine lv_iconst (v := (0 : Int32)) hx hb dX6_takeItem_9 (by decide) ?_
    obtain ⟨rfl, rfl, rfl, rfl, rfl, rfl⟩ := inj6 hf
    subst hQ
    exact CM_iret hx hb hr rfl hlocks hAe hP hD hS dX6_takeItem_10
def rmX6_faultPlace : Room := { frames := 8, cells := 0, slots := 0, locals := 172 }
abbrev wqX6_faultPlace : List Cond := Cond.code yX6_faultPlace cX6_faultPlace 3 (some .int) :: tG
set_option maxHeartbeats 4000000 in
set_option maxRecDepth 100000 in
theorem c_X6_faultPlace (l : Launch) (dC : Nat → ClassId) (dI : Nat → Nat → Nat) (cI cZ : ClassId) (te : Nat → Nat) (h_t : Nat) (h_t_bytes : Nat) (h_t_numbers : Nat) (t_size : Int32) (t_start : Int32) (t_value : Int32) (t_next : Int32) (t_word : Int32) (t_bytes : Nat → Int32) (t_numbers : Nat → Int32) (o0 : Int32) (o1 : Int32) (o2 : Int32) (o3 : Int32) (o4 : Int32) (o5 : Nat → Int32) (hf : f_X6_faultPlace t_size t_start t_value t_word t_bytes t_numbers = some (o0, o1, o2, o3, o4, o5)) : CM l yX6_faultPlace wqX6_faultPlace rmX6_faultPlace (kS te) dC dI cI cZ [.ref h_t] [(h_t, .inr (5, fX6 h_t_bytes t_size t_start t_value t_next t_word h_t_numbers)), (h_t_bytes, .inl (cI, 240, .inl t_bytes)), (h_t_numbers, .inl (cI, 4, .inl t_numbers))] [(h_t, .inr (5, fX6 h_t_bytes t_size o1 o2 o3 o4 h_t_numbers)), (h_t_bytes, .inl (cI, 240, .inl t_bytes)), (h_t_numbers, .inl (cI, 4, .inl o5))] (some (.int o0)) := by
  refine CM_of (cc := cX6_faultPlace) (maxL := 3) (ret := (some .int)) (by decide +kernel) rfl (Nat.le_of_ble_eq_true rfl) ?_
  intro p e s m args below meth c A Q hx hb hr hml hown hts hlocks hA hK hP hD hS hE hQ hAe ls hl
  have hown : s.vm.findClass RX6 = some m.cls := hown
  have hl : lv_has ls 3 [(0, .ref h_t)] := hl
  unfold f_X6_faultPlace at hf
  refine lv_aload_n hx hb dX6_faultPlace_0 rfl (lv_at hl 0 rfl) ?_
  obtain ⟨x1, hg2, hf⟩ := bd1_some hf
  refine CM_callV (C := RX6) (As := []) (rest := []) (wc := [(h_t, .inr (5, fX6 h_t_bytes t_size t_start t_value t_next t_word h_t_numbers))]) (w1 := [(h_t, .inr (5, fX6 h_t_bytes t_size t_start t_value x1 t_word h_t_numbers))]) (wr := [(h_t_bytes, .inl (cI, 240, .inl t_bytes)), (h_t_numbers, .inl (cI, 4, .inl t_numbers))]) (wo := [(h_t, .inr (5, fX6 h_t_bytes t_size t_start t_value x1 t_word h_t_numbers)), (h_t_bytes, .inl (cI, 240, .inl t_bytes)), (h_t_numbers, .inl (cI, 4, .inl t_numbers))]) (v := (none)) ⟨hx, hb, hml, hown, hts⟩ (c_X6_goToStart l dC dI cI cZ te h_t h_t_bytes h_t_numbers t_size t_start t_value t_next t_word x1 hg2) (cwV 0 hts (gV kw_653 kw_654 kw_655 kw_109 kw_656) rfl rfl rfl (by decide +kernel) ⟨Nat.le_of_ble_eq_true rfl, Nat.le_of_ble_eq_true rfl⟩) (kS_env te) hK hP hD hS hA hE [0] [1, 2] [2, 0, 1] rfl rfl (by decide) (by decide) (by decide) (by decide) rfl 0 5 rfl rfl rfl rfl hl.1 rfl (Nat.le_of_ble_eq_true rfl) dX6_faultPlace_1 ⟨Nat.zero_le _, Nat.zero_le _⟩ (fun H locs hP hD hS => ?_)
  show W p l e rmX6_faultPlace s m args below meth c H locs 0 0 Q (F0 m 4 ls [])
  refine lv_iconst (v := (1 : Int32)) hx hb dX6_faultPlace_4 (by decide) ?_
  refine lv_istore_n (lv' := [(1, .int (1 : Int32)), (0, .ref h_t)]) hx hb dX6_faultPlace_5 rfl hl (by decide) rfl (fun ls hl => ?_)
  refine lv_iconst (v := (0 : Int32)) hx hb dX6_faultPlace_6 (by decide) ?_
  refine lv_istore_n (lv' := [(2, .int (0 : Int32)), (1, .int (1 : Int32)), (0, .ref h_t)]) hx hb dX6_faultPlace_7 rfl hl (by decide) rfl (fun ls hl => ?_)
  have L44 : ∀ (fu33 : Nat) (y25 : Nat → Int32) (x26 : Int32) (x27 : Int32) (x28 : Int32) (x29 : Int32) (x30 : Int32) (x31 : Int32) (y19 : Nat → Int32) (x20 : Int32) (x21 : Int32) (x22 : Int32) (x23 : Int32) (x24 : Int32), f_X6_faultPlace_L1 t_size t_bytes fu33 y25 x26 x27 x28 x29 x30 x31 = some (y19, x20, x21, x22, x23, x24) → (∀ (H : Heap) (locs : List Loc), va_P (dC, dI) vwCl [(h_t, .inr (5, fX6 h_t_bytes t_size x20 x21 x22 x23 h_t_numbers)), (h_t_bytes, .inl (cI, 240, .inl t_bytes)), (h_t_numbers, .inl (cI, 4, .inl y19))] H → va_D A [(h_t, .inr (5, fX6 h_t_bytes t_size x20 x21 x22 x23 h_t_numbers)), (h_t_bytes, .inl (cI, 240, .inl t_bytes)), (h_t_numbers, .inl (cI, 4, .inl y19))] → va_S A s.heap H locs → ∀ ls : Array Slot, lv_has ls 3 [(0, .ref h_t), (1, .int x24)] → W p l e rmX6_faultPlace s m args below meth c H locs 0 0 Q (F0 m 31 ls [])) → ∀ (H : Heap) (locs : List Loc), va_P (dC, dI) vwCl [(h_t, .inr (5, fX6 h_t_bytes t_size x26 x27 x28 x29 h_t_numbers)), (h_t_bytes, .inl (cI, 240, .inl t_bytes)), (h_t_numbers, .inl (cI, 4, .inl y25))] H → va_D A [(h_t, .inr (5, fX6 h_t_bytes t_size x26 x27 x28 x29 h_t_numbers)), (h_t_bytes, .inl (cI, 240, .inl t_bytes)), (h_t_numbers, .inl (cI, 4, .inl y25))] → va_S A s.heap H locs → ∀ ls : Array Slot, lv_has ls 3 [(0, .ref h_t), (1, .int x30), (2, .int x31)] → W p l e rmX6_faultPlace s m args below meth c H locs 0 0 Q (F0 m 8 ls []) := by
    intro fu33
    induction fu33 with
    | zero =>
      intro y25 x26 x27 x28 x29 x30 x31 y19 x20 x21 x22 x23 x24 hf
      unfold f_X6_faultPlace_L1 at hf
      exact none_ne hf
    | succ fu33 ih32 =>
      intro y25 x26 x27 x28 x29 x30 x31 y19 x20 x21 x22 x23 x24 hf hX34 H locs hP hD hS ls hl
      unfold f_X6_faultPlace_L1 at hf
      refine lv_iload_n hx hb dX6_faultPlace_8 rfl (lv_at hl 2 rfl) ?_
      refine lv_sipush (v := (240 : Int32)) hx hb dX6_faultPlace_9 (by decide) ?_
      refine lv_icmp_gt (tgt := 31) hx hb dX6_faultPlace_12 (by decide) (fun c35 => ?_) (fun c35 => ?_)
      · replace hf := ifp c35 hf
        obtain ⟨rfl, rfl, rfl, rfl, rfl, rfl⟩ := inj6 hf
        exact hX34 _ _ hP hD hS _ (lv_sub hl [0, 1] rfl)
      · replace hf := ifn c35 hf
        refine lv_iload_n hx hb dX6_faultPlace_15 rfl (lv_at hl 1 rfl) ?_
        refine lv_iconst (v := (1 : Int32)) hx hb dX6_faultPlace_16 (by decide) ?_
        refine lv_icmp_ne (tgt := 31) hx hb dX6_faultPlace_17 (by decide) (fun c36 => ?_) (fun c36 => ?_)
        · replace hf := ifn c36 hf
          obtain ⟨rfl, rfl, rfl, rfl, rfl, rfl⟩ := inj6 hf
          exact hX34 _ _ hP hD hS _ (lv_sub hl [0, 1] rfl)
        · replace hf := ifp c36 hf
          refine lv_aload_n hx hb dX6_faultPlace_20 rfl (lv_at hl 0 rfl) ?_
          obtain ⟨r37, x38, x39, x40, x41, y42, hg43, hf⟩ := bd6_some hf
          refine CM_callV (C := RX6) (As := []) (rest := []) (wc := [(h_t, .inr (5, fX6 h_t_bytes t_size x26 x27 x28 x29 h_t_numbers)), (h_t_bytes, .inl (cI, 240, .inl t_bytes)), (h_t_numbers, .inl (cI, 4, .inl y25))]) (w1 := [(h_t, .inr (5, fX6 h_t_bytes t_size x38 x39 x40 x41 h_t_numbers)), (h_t_bytes, .inl (cI, 240, .inl t_bytes)), (h_t_numbers, .inl (cI, 4, .inl y42))]) (wr := []) (wo := [(h_t, .inr (5, fX6 h_t_bytes t_size x38 x39 x40 x41 h_t_numbers)), (h_t_bytes, .inl (cI, 240, .inl t_bytes)), (h_t_numbers, .inl (cI, 4, .inl y42))]) (v := (some (.int r37))) ⟨hx, hb, hml, hown, hts⟩ (c_X6_takeItem l dC dI cI cZ te h_t h_t_bytes h_t_numbers t_size x26 x27 x28 x29 t_bytes y25 r37 x38 x39 x40 x41 y42 hg43) (cwV 0 hts (gV kw_657 kw_658 kw_659 kw_109 kw_660) rfl rfl rfl (by decide +kernel) ⟨Nat.le_of_ble_eq_true rfl, Nat.le_of_ble_eq_true rfl⟩) (kS_env te) hK hP hD hS hA hE [0, 1, 2] [] [0, 1, 2] rfl rfl (by decide) (by decide) (by decide) (by decide) rfl 0 5 rfl rfl rfl rfl hl.1 rfl (Nat.le_of_ble_eq_true rfl) dX6_faultPlace_21 ⟨Nat.zero_le _, Nat.zero_le _⟩ (fun H locs hP hD hS => ?_)
          show W p l e rmX6_faultPlace s m args below meth c H locs 0 0 Q (F0 m 24 ls [.int r37])
          refine lv_istore_n (lv' := [(1, .int r37), (0, .ref h_t), (2, .int x31)]) hx hb dX6_faultPlace_24 rfl hl (by decide) rfl (fun ls hl => ?_)
          refine lv_iinc (v := (x31 + (1 : Int32))) (lv' := [(2, .int (x31 + (1 : Int32))), (1, .int r37), (0, .ref h_t)]) hx hb dX6_faultPlace_25 hl (k := 2) rfl rfl (by decide) rfl (fun ls hl => ?_)
          refine lv_goto (tgt := 8) hx hb dX6_faultPlace_28 (by decide) ?_
          exact ih32 _ _ _ _ _ _ _ _ _ _ _ _ _ hf hX34 _ _ hP hD hS _ (lv_sub hl [2, 1, 0] rfl)
  obtain ⟨y19, x20, x21, x22, x23, x24, hg, hf⟩ := bd6_some hf
  refine L44 FU _ _ _ _ _ _ _ _ _ _ _ _ _ hg ?_ _ _ hP hD hS _ (lv_sub hl [2, 1, 0] rfl)
  · intro H locs hP hD hS ls hl
    refine lv_iload_n hx hb dX6_faultPlace_31 rfl (lv_at hl 1 rfl) ?_
    refine lv_iconst (v := (-1 : Int32)) hx hb dX6_faultPlace_32 (by decide) ?_
    refine lv_icmp_ne (tgt := 43) hx hb dX6_faultPlace_33 (by decide) (fun c45 => ?_) (fun c45 => ?_)
    · replace hf := ifn c45 hf
      refine lv_iconst (v := (-1 : Int32)) hx hb dX6_faultPlace_43 (by decide) ?_
      obtain ⟨rfl, rfl, rfl, rfl, rfl, rfl⟩ := inj6 hf
      subst hQ
      exact CM_iret hx hb hr rfl hlocks hAe hP hD hS dX6_faultPlace_44
    · replace hf := ifp c45 hf
      refine lv_aload_n hx hb dX6_faultPlace_36 rfl (lv_at hl 0 rfl) ?_
      refine va_get (D := (dC, dI)) (ci := 5) (v := .int x20) (C := RX6) (T := TX6) (N := 7) hx hb hts (in1 tw_X6) hown hK hP 0 rfl rfl 2 (by decide) (hts _ (List.mem_cons_of_mem _ kw_622)) (fun _ h9 => h9) rfl dX6_faultPlace_37 ?_
      refine lv_goto (tgt := 44) hx hb dX6_faultPlace_40 (by decide) ?_
      obtain ⟨rfl, rfl, rfl, rfl, rfl, rfl⟩ := inj6 hf
      subst hQ
      exact CM_iret hx hb hr rfl hlocks hAe hP hD hS dX6_faultPlace_44
def rmX6_word : Room := { frames := 0, cells := 0, slots := 0, locals := 0 }
abbrev wqX6_word : List Cond := Cond.code yX6_word cX6_word 1 (some .int) :: tG
set_option maxHeartbeats 4000000 in
set_option maxRecDepth 100000 in
theorem c_X6_word (l : Launch) (dC : Nat → ClassId) (dI : Nat → Nat → Nat) (cI cZ : ClassId) (te : Nat → Nat) (h_t : Nat) (h_t_bytes : Nat) (h_t_numbers : Nat) (t_size : Int32) (t_start : Int32) (t_value : Int32) (t_next : Int32) (t_word : Int32) (o0 : Int32) (hf : f_X6_word t_word = some o0) : CM l yX6_word wqX6_word rmX6_word (kS te) dC dI cI cZ [.ref h_t] [(h_t, .inr (5, fX6 h_t_bytes t_size t_start t_value t_next t_word h_t_numbers))] [(h_t, .inr (5, fX6 h_t_bytes t_size t_start t_value t_next t_word h_t_numbers))] (some (.int o0)) := by
  refine CM_of (cc := cX6_word) (maxL := 1) (ret := (some .int)) (by decide +kernel) rfl (Nat.le_of_ble_eq_true rfl) ?_
  intro p e s m args below meth c A Q hx hb hr hml hown hts hlocks hA hK hP hD hS hE hQ hAe ls hl
  have hown : s.vm.findClass RX6 = some m.cls := hown
  have hl : lv_has ls 1 [(0, .ref h_t)] := hl
  unfold f_X6_word at hf
  refine lv_aload_n hx hb dX6_word_0 rfl (lv_at hl 0 rfl) ?_
  refine va_get (D := (dC, dI)) (ci := 5) (v := .int t_word) (C := RX6) (T := TX6) (N := 7) hx hb hts (in1 tw_X6) hown hK hP 0 rfl rfl 5 (by decide) (hts _ (List.mem_cons_of_mem _ kw_650)) (fun _ h9 => h9) rfl dX6_word_1 ?_
  obtain rfl := inj1 hf
  subst hQ
  exact CM_iret hx hb hr rfl hlocks hAe hP hD hS dX6_word_4
def rmX6_number : Room := { frames := 0, cells := 0, slots := 0, locals := 0 }
abbrev wqX6_number : List Cond := Cond.code yX6_number cX6_number 2 (some .int) :: tG
set_option maxHeartbeats 4000000 in
set_option maxRecDepth 100000 in
theorem c_X6_number (l : Launch) (dC : Nat → ClassId) (dI : Nat → Nat → Nat) (cI cZ : ClassId) (te : Nat → Nat) (h_t : Nat) (h_t_bytes : Nat) (h_t_numbers : Nat) (t_size : Int32) (t_start : Int32) (t_value : Int32) (t_next : Int32) (t_word : Int32) (t_numbers : Nat → Int32) (p1 : Int32) (o0 : Int32) (hf : f_X6_number t_numbers p1 = some o0) : CM l yX6_number wqX6_number rmX6_number (kS te) dC dI cI cZ [.ref h_t, .int p1] [(h_t, .inr (5, fX6 h_t_bytes t_size t_start t_value t_next t_word h_t_numbers)), (h_t_numbers, .inl (cI, 4, .inl t_numbers))] [(h_t, .inr (5, fX6 h_t_bytes t_size t_start t_value t_next t_word h_t_numbers)), (h_t_numbers, .inl (cI, 4, .inl t_numbers))] (some (.int o0)) := by
  refine CM_of (cc := cX6_number) (maxL := 2) (ret := (some .int)) (by decide +kernel) rfl (Nat.le_of_ble_eq_true rfl) ?_
  intro p e s m args below meth c A Q hx hb hr hml hown hts hlocks hA hK hP hD hS hE hQ hAe ls hl
  have hown : s.vm.findClass RX6 = some m.cls := hown
  have hl : lv_has ls 2 [(0, .ref h_t), (1, .int p1)] := hl
  unfold f_X6_number at hf
  refine lv_iload_n hx hb dX6_number_0 rfl (lv_at hl 1 rfl) ?_
  refine lv_if_lt (tgt := 22) hx hb dX6_number_1 (by decide) (fun c1 => ?_) (fun c1 => ?_)
  · replace hf := ifp c1 hf
    refine lv_iconst (v := (-1 : Int32)) hx hb dX6_number_22 (by decide) ?_
    obtain rfl := inj1 hf
    subst hQ
    exact CM_iret hx hb hr rfl hlocks hAe hP hD hS dX6_number_23
  · replace hf := ifn c1 hf
    refine lv_iload_n hx hb dX6_number_4 rfl (lv_at hl 1 rfl) ?_
    refine lv_aload_n hx hb dX6_number_5 rfl (lv_at hl 0 rfl) ?_
    refine va_get (D := (dC, dI)) (ci := 5) (v := .ref h_t_numbers) (C := RX6) (T := TX6) (N := 7) hx hb hts (in1 tw_X6) hown hK hP 0 rfl rfl 6 (by decide) (hts _ (List.mem_cons_of_mem _ kw_66)) (fun _ h9 => h9) rfl dX6_number_6 ?_
    refine va_alen hx hb hK hP 1 0 rfl rfl (v := (4 : Int32)) (show Int32.ofNat 4 = (4 : Int32) from by decide) dX6_number_9 ?_
    refine lv_icmp_ge (tgt := 22) hx hb dX6_number_10 (by decide) (fun c2 => ?_) (fun c2 => ?_)
    · replace hf := ifp c2 hf
      refine lv_iconst (v := (-1 : Int32)) hx hb dX6_number_22 (by decide) ?_
      obtain rfl := inj1 hf
      subst hQ
      exact CM_iret hx hb hr rfl hlocks hAe hP hD hS dX6_number_23
    · replace hf := ifn c2 hf
      refine lv_aload_n hx hb dX6_number_13 rfl (lv_at hl 0 rfl) ?_
      refine va_get (D := (dC, dI)) (ci := 5) (v := .ref h_t_numbers) (C := RX6) (T := TX6) (N := 7) hx hb hts (in1 tw_X6) hown hK hP 0 rfl rfl 6 (by decide) (hts _ (List.mem_cons_of_mem _ kw_66)) (fun _ h9 => h9) rfl dX6_number_14 ?_
      refine lv_iload_n hx hb dX6_number_17 rfl (lv_at hl 1 rfl) ?_
      obtain ⟨g3, hf⟩ := chk_some hf
      refine va_iald hx hb hK hP 1 0 rfl rfl (gin_in g3) dX6_number_18 ?_
      refine lv_goto (tgt := 23) hx hb dX6_number_19 (by decide) ?_
      obtain rfl := inj1 hf
      subst hQ
      exact CM_iret hx hb hr rfl hlocks hAe hP hD hS dX6_number_23
def rmX7_fewestDownFrom : Room := { frames := 1, cells := 0, slots := 0, locals := 21 }
abbrev wqX7_fewestDownFrom : List Cond := Cond.code yX7_fewestDownFrom cX7_fewestDownFrom 5 (some .int) :: tG
set_option maxHeartbeats 4000000 in
set_option maxRecDepth 100000 in
theorem c_X7_fewestDownFrom (l : Launch) (dC : Nat → ClassId) (dI : Nat → Nat → Nat) (cI cZ : ClassId) (te : Nat → Nat) (h_t : Nat) (h_t_next : Nat) (h_t_stepsToGoal : Nat) (h_t_stepsFromEarlier : Nat) (t_stepsToGoal : Nat → Int32) (t_next : Nat → Int32) (p1 : Int32) (o0 : Int32) (hf : f_X7_fewestDownFrom t_stepsToGoal t_next p1 = some o0) : CM l yX7_fewestDownFrom wqX7_fewestDownFrom rmX7_fewestDownFrom (kS te) dC dI cI cZ [.ref h_t, .int p1] [(h_t, .inr (6, fX7 h_t_next h_t_stepsToGoal h_t_stepsFromEarlier)), (h_t_stepsToGoal, .inl (cI, 64, .inl t_stepsToGoal)), (h_t_next, .inl (cI, 64, .inl t_next))] [(h_t, .inr (6, fX7 h_t_next h_t_stepsToGoal h_t_stepsFromEarlier)), (h_t_stepsToGoal, .inl (cI, 64, .inl t_stepsToGoal)), (h_t_next, .inl (cI, 64, .inl t_next))] (some (.int o0)) := by
  refine CM_of (cc := cX7_fewestDownFrom) (maxL := 5) (ret := (some .int)) (by decide +kernel) rfl (Nat.le_of_ble_eq_true rfl) ?_
  intro p e s m args below meth c A Q hx hb hr hml hown hts hlocks hA hK hP hD hS hE hQ hAe ls hl
  have hown : s.vm.findClass RX7 = some m.cls := hown
  have hl : lv_has ls 5 [(0, .ref h_t), (1, .int p1)] := hl
  unfold f_X7_fewestDownFrom at hf
  refine lv_ldc (v := (1000000 : Int32)) hx hb hown (hts _ (List.mem_cons_of_mem _ kw_661)) dX7_fewestDownFrom_0 ?_
  refine lv_istore_n (lv' := [(2, .int (1000000 : Int32)), (0, .ref h_t), (1, .int p1)]) hx hb dX7_fewestDownFrom_2 rfl hl (by decide) rfl (fun ls hl => ?_)
  refine lv_iload_n hx hb dX7_fewestDownFrom_3 rfl (lv_at hl 2 rfl) ?_
  refine lv_istore_n (lv' := [(3, .int p1), (2, .int (1000000 : Int32)), (0, .ref h_t), (1, .int p1)]) hx hb dX7_fewestDownFrom_4 rfl hl (by decide) rfl (fun ls hl => ?_)
  refine lv_iconst (v := (0 : Int32)) hx hb dX7_fewestDownFrom_5 (by decide) ?_
  refine lv_istore (lv' := [(4, .int (0 : Int32)), (3, .int p1), (2, .int (1000000 : Int32)), (0, .ref h_t), (1, .int p1)]) hx hb dX7_fewestDownFrom_6 hl (by decide) rfl (fun ls hl => ?_)
  have L29 : ∀ (fu18 : Nat) (x14 : Int32) (x15 : Int32) (x16 : Int32) (x13 : Int32), f_X7_fewestDownFrom_L1 t_stepsToGoal t_next fu18 x14 x15 x16 = some x13 → (∀ (H : Heap) (locs : List Loc), va_P (dC, dI) vwCl [(h_t, .inr (6, fX7 h_t_next h_t_stepsToGoal h_t_stepsFromEarlier)), (h_t_stepsToGoal, .inl (cI, 64, .inl t_stepsToGoal)), (h_t_next, .inl (cI, 64, .inl t_next))] H → va_D A [(h_t, .inr (6, fX7 h_t_next h_t_stepsToGoal h_t_stepsFromEarlier)), (h_t_stepsToGoal, .inl (cI, 64, .inl t_stepsToGoal)), (h_t_next, .inl (cI, 64, .inl t_next))] → va_S A s.heap H locs → ∀ ls : Array Slot, lv_has ls 5 [(2, .int x13)] → W p l e rmX7_fewestDownFrom s m args below meth c H locs 0 0 Q (F0 m 52 ls [])) → ∀ (H : Heap) (locs : List Loc), va_P (dC, dI) vwCl [(h_t, .inr (6, fX7 h_t_next h_t_stepsToGoal h_t_stepsFromEarlier)), (h_t_stepsToGoal, .inl (cI, 64, .inl t_stepsToGoal)), (h_t_next, .inl (cI, 64, .inl t_next))] H → va_D A [(h_t, .inr (6, fX7 h_t_next h_t_stepsToGoal h_t_stepsFromEarlier)), (h_t_stepsToGoal, .inl (cI, 64, .inl t_stepsToGoal)), (h_t_next, .inl (cI, 64, .inl t_next))] → va_S A s.heap H locs → ∀ ls : Array Slot, lv_has ls 5 [(0, .ref h_t), (2, .int x14), (3, .int x15), (4, .int x16)] → W p l e rmX7_fewestDownFrom s m args below meth c H locs 0 0 Q (F0 m 8 ls []) := by
    intro fu18
    induction fu18 with
    | zero =>
      intro x14 x15 x16 x13 hf
      unfold f_X7_fewestDownFrom_L1 at hf
      exact none_ne hf
    | succ fu18 ih17 =>
      intro x14 x15 x16 x13 hf hX19 H locs hP hD hS ls hl
      unfold f_X7_fewestDownFrom_L1 at hf
      refine lv_iload hx hb dX7_fewestDownFrom_8 (lv_at hl 3 rfl) ?_
      refine lv_bipush (v := (64 : Int32)) hx hb dX7_fewestDownFrom_10 (by decide) ?_
      refine lv_icmp_ge (tgt := 52) hx hb dX7_fewestDownFrom_12 (by decide) (fun c20 => ?_) (fun c20 => ?_)
      · replace hf := ifp c20 hf
        obtain rfl := inj1 hf
        exact hX19 _ _ hP hD hS _ (lv_sub hl [1] rfl)
      · replace hf := ifn c20 hf
        refine lv_iload_n hx hb dX7_fewestDownFrom_15 rfl (lv_at hl 2 rfl) ?_
        refine lv_if_lt (tgt := 52) hx hb dX7_fewestDownFrom_16 (by decide) (fun c21 => ?_) (fun c21 => ?_)
        · replace hf := ifp c21 hf
          obtain rfl := inj1 hf
          exact hX19 _ _ hP hD hS _ (lv_sub hl [1] rfl)
        · replace hf := ifn c21 hf
          refine lv_iload_n hx hb dX7_fewestDownFrom_19 rfl (lv_at hl 2 rfl) ?_
          refine lv_bipush (v := (64 : Int32)) hx hb dX7_fewestDownFrom_20 (by decide) ?_
          refine lv_icmp_ge (tgt := 52) hx hb dX7_fewestDownFrom_22 (by decide) (fun c22 => ?_) (fun c22 => ?_)
          · replace hf := ifp c22 hf
            obtain rfl := inj1 hf
            exact hX19 _ _ hP hD hS _ (lv_sub hl [1] rfl)
          · replace hf := ifn c22 hf
            refine lv_iload_n hx hb dX7_fewestDownFrom_25 rfl (lv_at hl 1 rfl) ?_
            refine lv_iload hx hb dX7_fewestDownFrom_26 (lv_at hl 3 rfl) ?_
            refine lv_aload_n hx hb dX7_fewestDownFrom_28 rfl (lv_at hl 0 rfl) ?_
            refine va_get (D := (dC, dI)) (ci := 6) (v := .ref h_t_stepsToGoal) (C := RX7) (T := TX7) (N := 3) hx hb hts (in1 tw_X7) hown hK hP 0 rfl rfl 1 (by decide) (hts _ (List.mem_cons_of_mem _ kw_34)) (fun _ h9 => h9) rfl dX7_fewestDownFrom_29 ?_
            refine lv_iload_n hx hb dX7_fewestDownFrom_32 rfl (lv_at hl 2 rfl) ?_
            obtain ⟨g23, hf⟩ := chk_some hf
            refine va_iald hx hb hK hP 1 0 rfl rfl (gin_in g23) dX7_fewestDownFrom_33 ?_
            refine lv_iadd hx hb dX7_fewestDownFrom_34 ?_
            refine va_mmin hx hb (hml.trans hl.1.symm) hown (hts _ (List.mem_cons_of_mem _ kw_662)) (hts _ (List.mem_cons_of_mem _ kw_4)) (hts _ (List.mem_cons_of_mem _ kw_5)) (hts _ (List.mem_cons_of_mem _ kw_6)) (Nat.le_of_ble_eq_true rfl) (Nat.le_of_ble_eq_true rfl) (Nat.zero_le _) (Nat.zero_le _) dX7_fewestDownFrom_35 ?_
            obtain ⟨x24, e25, hf⟩ := nm_some hf
            refine lv_tope e25 ?_
            refine lv_istore_n (lv' := [(2, .int x24), (0, .ref h_t), (3, .int x15), (4, .int x16)]) hx hb dX7_fewestDownFrom_38 rfl hl (by decide) rfl (fun ls hl => ?_)
            refine lv_aload_n hx hb dX7_fewestDownFrom_39 rfl (lv_at hl 1 rfl) ?_
            refine va_get (D := (dC, dI)) (ci := 6) (v := .ref h_t_next) (C := RX7) (T := TX7) (N := 3) hx hb hts (in1 tw_X7) hown hK hP 0 rfl rfl 0 (by decide) (hts _ (List.mem_cons_of_mem _ kw_33)) (fun _ h9 => h9) rfl dX7_fewestDownFrom_40 ?_
            refine lv_iload_n hx hb dX7_fewestDownFrom_43 rfl (lv_at hl 2 rfl) ?_
            obtain ⟨g26, hf⟩ := chk_some hf
            refine va_iald hx hb hK hP 2 0 rfl rfl (gin_in g26) dX7_fewestDownFrom_44 ?_
            obtain ⟨x27, e28, hf⟩ := nm_some hf
            refine lv_tope e28 ?_
            refine lv_istore_n (lv' := [(3, .int x27), (2, .int x24), (0, .ref h_t), (4, .int x16)]) hx hb dX7_fewestDownFrom_45 rfl hl (by decide) rfl (fun ls hl => ?_)
            refine lv_iinc (v := (x16 + (1 : Int32))) (lv' := [(4, .int (x16 + (1 : Int32))), (3, .int x27), (2, .int x24), (0, .ref h_t)]) hx hb dX7_fewestDownFrom_46 hl (k := 3) rfl rfl (by decide) rfl (fun ls hl => ?_)
            refine lv_goto (tgt := 8) hx hb dX7_fewestDownFrom_49 (by decide) ?_
            exact ih17 _ _ _ _ hf hX19 _ _ hP hD hS _ (lv_sub hl [3, 2, 1, 0] rfl)
  obtain ⟨x13, hg, hf⟩ := bd1_some hf
  refine L29 FU _ _ _ _ hg ?_ _ _ hP hD hS _ (lv_sub hl [3, 2, 1, 0] rfl)
  · intro H locs hP hD hS ls hl
    refine lv_iload_n hx hb dX7_fewestDownFrom_52 rfl (lv_at hl 0 rfl) ?_
    obtain rfl := inj1 hf
    subst hQ
    exact CM_iret hx hb hr rfl hlocks hAe hP hD hS dX7_fewestDownFrom_53
def rmX7_leadTo : Room := { frames := 2, cells := 0, slots := 0, locals := 50 }
abbrev wqX7_leadTo : List Cond := Cond.code yX7_leadTo cX7_leadTo 5 none :: tG
set_option maxHeartbeats 4000000 in
set_option maxRecDepth 100000 in
theorem c_X7_leadTo (l : Launch) (dC : Nat → ClassId) (dI : Nat → Nat → Nat) (cI cZ : ClassId) (te : Nat → Nat) (h_t : Nat) (h_p1 : Nat) (h_t_next : Nat) (h_t_stepsToGoal : Nat) (h_t_stepsFromEarlier : Nat) (t_stepsToGoal : Nat → Int32) (n_p1 : Nat) (p1 : Nat → Int32) (t_next : Nat → Int32) (t_stepsFromEarlier : Nat → Int32) (p2 : Int32) (o0 : Nat → Int32) (o1 : Nat → Int32) (o2 : Nat → Int32) (hf : f_X7_leadTo t_stepsToGoal n_p1 p1 t_next t_stepsFromEarlier p2 = some (o0, o1, o2)) : CM l yX7_leadTo wqX7_leadTo rmX7_leadTo (kS te) dC dI cI cZ [.ref h_t, .ref h_p1, .int p2] [(h_t, .inr (6, fX7 h_t_next h_t_stepsToGoal h_t_stepsFromEarlier)), (h_t_stepsToGoal, .inl (cI, 64, .inl t_stepsToGoal)), (h_p1, .inl (cI, n_p1, .inl p1)), (h_t_next, .inl (cI, 64, .inl t_next)), (h_t_stepsFromEarlier, .inl (cI, 64, .inl t_stepsFromEarlier))] [(h_t, .inr (6, fX7 h_t_next h_t_stepsToGoal h_t_stepsFromEarlier)), (h_t_stepsToGoal, .inl (cI, 64, .inl o0)), (h_p1, .inl (cI, n_p1, .inl p1)), (h_t_next, .inl (cI, 64, .inl o1)), (h_t_stepsFromEarlier, .inl (cI, 64, .inl o2))] none := by
  refine CM_of (cc := cX7_leadTo) (maxL := 5) (ret := none) (by decide +kernel) rfl (Nat.le_of_ble_eq_true rfl) ?_
  intro p e s m args below meth c A Q hx hb hr hml hown hts hlocks hA hK hP hD hS hE hQ hAe ls hl
  have hown : s.vm.findClass RX7 = some m.cls := hown
  have hl : lv_has ls 5 [(0, .ref h_t), (1, .ref h_p1), (2, .int p2)] := hl
  unfold f_X7_leadTo at hf
  refine lv_iconst (v := (0 : Int32)) hx hb dX7_leadTo_0 (by decide) ?_
  refine lv_istore_n (lv' := [(3, .int (0 : Int32)), (0, .ref h_t), (1, .ref h_p1), (2, .int p2)]) hx hb dX7_leadTo_1 rfl hl (by decide) rfl (fun ls hl => ?_)
  have L23 : ∀ (fu14 : Nat) (y11 : Nat → Int32) (x12 : Int32) (y10 : Nat → Int32), f_X7_leadTo_L1 p2 fu14 y11 x12 = some y10 → (∀ (H : Heap) (locs : List Loc), va_P (dC, dI) vwCl [(h_t, .inr (6, fX7 h_t_next h_t_stepsToGoal h_t_stepsFromEarlier)), (h_t_stepsToGoal, .inl (cI, 64, .inl y10)), (h_p1, .inl (cI, n_p1, .inl p1)), (h_t_next, .inl (cI, 64, .inl t_next)), (h_t_stepsFromEarlier, .inl (cI, 64, .inl t_stepsFromEarlier))] H → va_D A [(h_t, .inr (6, fX7 h_t_next h_t_stepsToGoal h_t_stepsFromEarlier)), (h_t_stepsToGoal, .inl (cI, 64, .inl y10)), (h_p1, .inl (cI, n_p1, .inl p1)), (h_t_next, .inl (cI, 64, .inl t_next)), (h_t_stepsFromEarlier, .inl (cI, 64, .inl t_stepsFromEarlier))] → va_S A s.heap H locs → ∀ ls : Array Slot, lv_has ls 5 [(0, .ref h_t), (1, .ref h_p1)] → W p l e rmX7_leadTo s m args below meth c H locs 0 0 Q (F0 m 31 ls [])) → ∀ (H : Heap) (locs : List Loc), va_P (dC, dI) vwCl [(h_t, .inr (6, fX7 h_t_next h_t_stepsToGoal h_t_stepsFromEarlier)), (h_t_stepsToGoal, .inl (cI, 64, .inl y11)), (h_p1, .inl (cI, n_p1, .inl p1)), (h_t_next, .inl (cI, 64, .inl t_next)), (h_t_stepsFromEarlier, .inl (cI, 64, .inl t_stepsFromEarlier))] H → va_D A [(h_t, .inr (6, fX7 h_t_next h_t_stepsToGoal h_t_stepsFromEarlier)), (h_t_stepsToGoal, .inl (cI, 64, .inl y11)), (h_p1, .inl (cI, n_p1, .inl p1)), (h_t_next, .inl (cI, 64, .inl t_next)), (h_t_stepsFromEarlier, .inl (cI, 64, .inl t_stepsFromEarlier))] → va_S A s.heap H locs → ∀ ls : Array Slot, lv_has ls 5 [(0, .ref h_t), (1, .ref h_p1), (2, .int p2), (3, .int x12)] → W p l e rmX7_leadTo s m args below meth c H locs 0 0 Q (F0 m 2 ls []) := by
    intro fu14
    induction fu14 with
    | zero =>
      intro y11 x12 y10 hf
      unfold f_X7_leadTo_L1 at hf
      exact none_ne hf
    | succ fu14 ih13 =>
      intro y11 x12 y10 hf hX15 H locs hP hD hS ls hl
      unfold f_X7_leadTo_L1 at hf
      refine lv_iload_n hx hb dX7_leadTo_2 rfl (lv_at hl 3 rfl) ?_
      refine lv_bipush (v := (64 : Int32)) hx hb dX7_leadTo_3 (by decide) ?_
      refine lv_icmp_ge (tgt := 31) hx hb dX7_leadTo_5 (by decide) (fun c16 => ?_) (fun c16 => ?_)
      · replace hf := ifp c16 hf
        obtain rfl := inj1 hf
        exact hX15 _ _ hP hD hS _ (lv_sub hl [0, 1] rfl)
      · replace hf := ifn c16 hf
        refine lv_aload_n hx hb dX7_leadTo_8 rfl (lv_at hl 0 rfl) ?_
        refine va_get (D := (dC, dI)) (ci := 6) (v := .ref h_t_stepsToGoal) (C := RX7) (T := TX7) (N := 3) hx hb hts (in1 tw_X7) hown hK hP 0 rfl rfl 1 (by decide) (hts _ (List.mem_cons_of_mem _ kw_34)) (fun _ h9 => h9) rfl dX7_leadTo_9 ?_
        refine lv_iload_n hx hb dX7_leadTo_12 rfl (lv_at hl 3 rfl) ?_
        refine lv_iload_n hx hb dX7_leadTo_13 rfl (lv_at hl 3 rfl) ?_
        refine lv_iload_n hx hb dX7_leadTo_14 rfl (lv_at hl 2 rfl) ?_
        obtain ⟨x17, hg, hf⟩ := bd1_some hf
        have J18 : ∀ (H : Heap) (locs : List Loc), va_P (dC, dI) vwCl [(h_t, .inr (6, fX7 h_t_next h_t_stepsToGoal h_t_stepsFromEarlier)), (h_t_stepsToGoal, .inl (cI, 64, .inl y11)), (h_p1, .inl (cI, n_p1, .inl p1)), (h_t_next, .inl (cI, 64, .inl t_next)), (h_t_stepsFromEarlier, .inl (cI, 64, .inl t_stepsFromEarlier))] H → va_D A [(h_t, .inr (6, fX7 h_t_next h_t_stepsToGoal h_t_stepsFromEarlier)), (h_t_stepsToGoal, .inl (cI, 64, .inl y11)), (h_p1, .inl (cI, n_p1, .inl p1)), (h_t_next, .inl (cI, 64, .inl t_next)), (h_t_stepsFromEarlier, .inl (cI, 64, .inl t_stepsFromEarlier))] → va_S A s.heap H locs → ∀ ls : Array Slot, lv_has ls 5 [(0, .ref h_t), (1, .ref h_p1), (2, .int p2), (3, .int x12)] → W p l e rmX7_leadTo s m args below meth c H locs 0 0 Q (F0 m 24 ls [.int x17, .int x12, .ref h_t_stepsToGoal]) := by
          intro H locs hP hD hS ls hl
          obtain ⟨g19, hf⟩ := chk_some hf
          obtain ⟨y20, e21, hf⟩ := nm_some hf
          refine va_iast hx hb hK hP hD hS 1 0 rfl rfl (gin_in g19) dX7_leadTo_24 (fun H locs hP hD hS => ?_)
          have hP : va_P (dC, dI) vwCl [(h_t, .inr (6, fX7 h_t_next h_t_stepsToGoal h_t_stepsFromEarlier)), (h_t_stepsToGoal, .inl (cI, 64, .inl y20)), (h_p1, .inl (cI, n_p1, .inl p1)), (h_t_next, .inl (cI, 64, .inl t_next)), (h_t_stepsFromEarlier, .inl (cI, 64, .inl t_stepsFromEarlier))] H := by rw [e21]; exact hP
          have hD : va_D A [(h_t, .inr (6, fX7 h_t_next h_t_stepsToGoal h_t_stepsFromEarlier)), (h_t_stepsToGoal, .inl (cI, 64, .inl y20)), (h_p1, .inl (cI, n_p1, .inl p1)), (h_t_next, .inl (cI, 64, .inl t_next)), (h_t_stepsFromEarlier, .inl (cI, 64, .inl t_stepsFromEarlier))] := by rw [e21]; exact hD
          refine lv_iinc (v := (x12 + (1 : Int32))) (lv' := [(3, .int (x12 + (1 : Int32))), (0, .ref h_t), (1, .ref h_p1), (2, .int p2)]) hx hb dX7_leadTo_25 hl (k := 3) rfl rfl (by decide) rfl (fun ls hl => ?_)
          refine lv_goto (tgt := 2) hx hb dX7_leadTo_28 (by decide) ?_
          exact ih13 _ _ _ hf hX15 _ _ hP hD hS _ (lv_sub hl [1, 2, 3, 0] rfl)
        clear hf
        have hf := hg
        refine lv_icmp_ne (tgt := 22) hx hb dX7_leadTo_15 (by decide) (fun c22 => ?_) (fun c22 => ?_)
        · replace hf := ifn c22 hf
          refine lv_ldc (v := (1000000 : Int32)) hx hb hown (hts _ (List.mem_cons_of_mem _ kw_661)) dX7_leadTo_22 ?_
          obtain rfl := inj1 hf
          exact J18 _ _ hP hD hS _ (lv_sub hl [0, 1, 2, 3] rfl)
        · replace hf := ifp c22 hf
          refine lv_iconst (v := (0 : Int32)) hx hb dX7_leadTo_18 (by decide) ?_
          refine lv_goto (tgt := 24) hx hb dX7_leadTo_19 (by decide) ?_
          obtain rfl := inj1 hf
          exact J18 _ _ hP hD hS _ (lv_sub hl [0, 1, 2, 3] rfl)
  obtain ⟨y10, hg, hf⟩ := bd1_some hf
  refine L23 FU _ _ _ hg ?_ _ _ hP hD hS _ (lv_sub hl [1, 2, 3, 0] rfl)
  · intro H locs hP hD hS ls hl
    refine lv_iconst (v := (2 : Int32)) hx hb dX7_leadTo_31 (by decide) ?_
    refine lv_istore_n (lv' := [(3, .int (2 : Int32)), (0, .ref h_t), (1, .ref h_p1)]) hx hb dX7_leadTo_32 rfl hl (by decide) rfl (fun ls hl => ?_)
    have L138 : ∀ (fu86 : Nat) (y81 : Nat → Int32) (y82 : Nat → Int32) (y83 : Nat → Int32) (x84 : Int32) (y78 : Nat → Int32) (y79 : Nat → Int32) (y80 : Nat → Int32), f_X7_leadTo_L6 n_p1 p1 fu86 y81 y82 y83 x84 = some (y78, y79, y80) → (∀ (H : Heap) (locs : List Loc), va_P (dC, dI) vwCl [(h_t, .inr (6, fX7 h_t_next h_t_stepsToGoal h_t_stepsFromEarlier)), (h_t_stepsToGoal, .inl (cI, 64, .inl y80)), (h_p1, .inl (cI, n_p1, .inl p1)), (h_t_next, .inl (cI, 64, .inl y78)), (h_t_stepsFromEarlier, .inl (cI, 64, .inl y79))] H → va_D A [(h_t, .inr (6, fX7 h_t_next h_t_stepsToGoal h_t_stepsFromEarlier)), (h_t_stepsToGoal, .inl (cI, 64, .inl y80)), (h_p1, .inl (cI, n_p1, .inl p1)), (h_t_next, .inl (cI, 64, .inl y78)), (h_t_stepsFromEarlier, .inl (cI, 64, .inl y79))] → va_S A s.heap H locs → ∀ ls : Array Slot, lv_has ls 5 [] → W p l e rmX7_leadTo s m args below meth c H locs 0 0 Q (F0 m 122 ls [])) → ∀ (H : Heap) (locs : List Loc), va_P (dC, dI) vwCl [(h_t, .inr (6, fX7 h_t_next h_t_stepsToGoal h_t_stepsFromEarlier)), (h_t_stepsToGoal, .inl (cI, 64, .inl y83)), (h_p1, .inl (cI, n_p1, .inl p1)), (h_t_next, .inl (cI, 64, .inl y81)), (h_t_stepsFromEarlier, .inl (cI, 64, .inl y82))] H → va_D A [(h_t, .inr (6, fX7 h_t_next h_t_stepsToGoal h_t_stepsFromEarlier)), (h_t_stepsToGoal, .inl (cI, 64, .inl y83)), (h_p1, .inl (cI, n_p1, .inl p1)), (h_t_next, .inl (cI, 64, .inl y81)), (h_t_stepsFromEarlier, .inl (cI, 64, .inl y82))] → va_S A s.heap H locs → ∀ ls : Array Slot, lv_has ls 5 [(0, .ref h_t), (1, .ref h_p1), (3, .int x84)] → W p l e rmX7_leadTo s m args below meth c H locs 0 0 Q (F0 m 33 ls []) := by
      intro fu86
      induction fu86 with
      | zero =>
        intro y81 y82 y83 x84 y78 y79 y80 hf
        unfold f_X7_leadTo_L6 at hf
        exact none_ne hf
      | succ fu86 ih85 =>
        intro y81 y82 y83 x84 y78 y79 y80 hf hX87 H locs hP hD hS ls hl
        unfold f_X7_leadTo_L6 at hf
        refine lv_iload_n hx hb dX7_leadTo_33 rfl (lv_at hl 2 rfl) ?_
        refine lv_if_lt (tgt := 122) hx hb dX7_leadTo_34 (by decide) (fun c88 => ?_) (fun c88 => ?_)
        · replace hf := ifp c88 hf
          obtain ⟨rfl, rfl, rfl⟩ := inj3 hf
          exact hX87 _ _ hP hD hS _ (lv_sub hl [] rfl)
        · replace hf := ifn c88 hf
          refine lv_iconst (v := (0 : Int32)) hx hb dX7_leadTo_37 (by decide) ?_
          refine lv_istore (lv' := [(4, .int (0 : Int32)), (0, .ref h_t), (1, .ref h_p1), (3, .int x84)]) hx hb dX7_leadTo_38 hl (by decide) rfl (fun ls hl => ?_)
          have L113 : ∀ (fu103 : Nat) (y100 : Nat → Int32) (x101 : Int32) (y99 : Nat → Int32), f_X7_leadTo_L7 n_p1 p1 x84 fu103 y100 x101 = some y99 → (∀ (H : Heap) (locs : List Loc), va_P (dC, dI) vwCl [(h_t, .inr (6, fX7 h_t_next h_t_stepsToGoal h_t_stepsFromEarlier)), (h_t_stepsToGoal, .inl (cI, 64, .inl y83)), (h_p1, .inl (cI, n_p1, .inl p1)), (h_t_next, .inl (cI, 64, .inl y99)), (h_t_stepsFromEarlier, .inl (cI, 64, .inl y82))] H → va_D A [(h_t, .inr (6, fX7 h_t_next h_t_stepsToGoal h_t_stepsFromEarlier)), (h_t_stepsToGoal, .inl (cI, 64, .inl y83)), (h_p1, .inl (cI, n_p1, .inl p1)), (h_t_next, .inl (cI, 64, .inl y99)), (h_t_stepsFromEarlier, .inl (cI, 64, .inl y82))] → va_S A s.heap H locs → ∀ ls : Array Slot, lv_has ls 5 [(0, .ref h_t), (1, .ref h_p1), (3, .int x84)] → W p l e rmX7_leadTo s m args below meth c H locs 0 0 Q (F0 m 72 ls [])) → ∀ (H : Heap) (locs : List Loc), va_P (dC, dI) vwCl [(h_t, .inr (6, fX7 h_t_next h_t_stepsToGoal h_t_stepsFromEarlier)), (h_t_stepsToGoal, .inl (cI, 64, .inl y83)), (h_p1, .inl (cI, n_p1, .inl p1)), (h_t_next, .inl (cI, 64, .inl y100)), (h_t_stepsFromEarlier, .inl (cI, 64, .inl y82))] H → va_D A [(h_t, .inr (6, fX7 h_t_next h_t_stepsToGoal h_t_stepsFromEarlier)), (h_t_stepsToGoal, .inl (cI, 64, .inl y83)), (h_p1, .inl (cI, n_p1, .inl p1)), (h_t_next, .inl (cI, 64, .inl y100)), (h_t_stepsFromEarlier, .inl (cI, 64, .inl y82))] → va_S A s.heap H locs → ∀ ls : Array Slot, lv_has ls 5 [(0, .ref h_t), (1, .ref h_p1), (3, .int x84), (4, .int x101)] → W p l e rmX7_leadTo s m args below meth c H locs 0 0 Q (F0 m 40 ls []) := by
            intro fu103
            induction fu103 with
            | zero =>
              intro y100 x101 y99 hf
              unfold f_X7_leadTo_L7 at hf
              exact none_ne hf
            | succ fu103 ih102 =>
              intro y100 x101 y99 hf hX104 H locs hP hD hS ls hl
              unfold f_X7_leadTo_L7 at hf
              refine lv_iload hx hb dX7_leadTo_40 (lv_at hl 3 rfl) ?_
              refine lv_bipush (v := (64 : Int32)) hx hb dX7_leadTo_42 (by decide) ?_
              refine lv_icmp_ge (tgt := 72) hx hb dX7_leadTo_44 (by decide) (fun c105 => ?_) (fun c105 => ?_)
              · replace hf := ifp c105 hf
                obtain rfl := inj1 hf
                exact hX104 _ _ hP hD hS _ (lv_sub hl [0, 1, 2] rfl)
              · replace hf := ifn c105 hf
                refine lv_aload_n hx hb dX7_leadTo_47 rfl (lv_at hl 0 rfl) ?_
                refine va_get (D := (dC, dI)) (ci := 6) (v := .ref h_t_next) (C := RX7) (T := TX7) (N := 3) hx hb hts (in1 tw_X7) hown hK hP 0 rfl rfl 0 (by decide) (hts _ (List.mem_cons_of_mem _ kw_33)) (fun _ h9 => h9) rfl dX7_leadTo_48 ?_
                refine lv_iload hx hb dX7_leadTo_51 (lv_at hl 3 rfl) ?_
                refine lv_iload hx hb dX7_leadTo_53 (lv_at hl 3 rfl) ?_
                refine lv_aload_n hx hb dX7_leadTo_55 rfl (lv_at hl 1 rfl) ?_
                refine lv_iload_n hx hb dX7_leadTo_56 rfl (lv_at hl 2 rfl) ?_
                refine lv_iload hx hb dX7_leadTo_57 (lv_at hl 3 rfl) ?_
                obtain ⟨r106, hg107, hf⟩ := bd1_some hf
                refine CM_callS (As := [.ref h_p1, .int x84, .int x101]) (rest := [.int x101, .int x101, .ref h_t_next]) (wc := [(h_p1, .inl (cI, n_p1, .inl p1))]) (w1 := [(h_p1, .inl (cI, n_p1, .inl p1))]) (wr := [(h_t, .inr (6, fX7 h_t_next h_t_stepsToGoal h_t_stepsFromEarlier)), (h_t_stepsToGoal, .inl (cI, 64, .inl y83)), (h_t_next, .inl (cI, 64, .inl y100)), (h_t_stepsFromEarlier, .inl (cI, 64, .inl y82))]) (wo := [(h_t, .inr (6, fX7 h_t_next h_t_stepsToGoal h_t_stepsFromEarlier)), (h_t_stepsToGoal, .inl (cI, 64, .inl y83)), (h_p1, .inl (cI, n_p1, .inl p1)), (h_t_next, .inl (cI, 64, .inl y100)), (h_t_stepsFromEarlier, .inl (cI, 64, .inl y82))]) (v := (some (.int r106))) ⟨hx, hb, hml, hown, hts⟩ (c_X7_directionOfFlow l dC dI cI cZ te h_p1 n_p1 p1 x84 x101 r106 hg107) (va_cwS 3 hts (gS kw_663 kw_595 kw_81 kw_596) rfl rfl rfl (by decide +kernel) ⟨Nat.le_of_ble_eq_true rfl, Nat.le_of_ble_eq_true rfl⟩) (kS_env te) hK hP hD hS hA hE [2] [0, 1, 3, 4] [0, 1, 4, 2, 3] rfl rfl (by decide) (by decide) (by decide) (by decide) rfl rfl hl.1 rfl (Nat.le_of_ble_eq_true rfl) dX7_leadTo_59 ⟨Nat.zero_le _, Nat.zero_le _⟩ (fun H locs hP hD hS => ?_)
                show W p l e rmX7_leadTo s m args below meth c H locs 0 0 Q (F0 m 62 ls [.int r106, .int x101, .int x101, .ref h_t_next])
                obtain ⟨r108, hg109, hf⟩ := bd1_some hf
                refine CM_callS (As := [.int x101, .int r106]) (rest := [.int x101, .ref h_t_next]) (wc := []) (w1 := []) (wr := [(h_t, .inr (6, fX7 h_t_next h_t_stepsToGoal h_t_stepsFromEarlier)), (h_t_stepsToGoal, .inl (cI, 64, .inl y83)), (h_p1, .inl (cI, n_p1, .inl p1)), (h_t_next, .inl (cI, 64, .inl y100)), (h_t_stepsFromEarlier, .inl (cI, 64, .inl y82))]) (wo := [(h_t, .inr (6, fX7 h_t_next h_t_stepsToGoal h_t_stepsFromEarlier)), (h_t_stepsToGoal, .inl (cI, 64, .inl y83)), (h_p1, .inl (cI, n_p1, .inl p1)), (h_t_next, .inl (cI, 64, .inl y100)), (h_t_stepsFromEarlier, .inl (cI, 64, .inl y82))]) (v := (some (.int r108))) ⟨hx, hb, hml, hown, hts⟩ (c_X7_placeBeside l dC dI cI cZ te x101 r106 r108 hg109) (va_cwS 2 hts (gS kw_583 kw_584 kw_81 kw_585) rfl rfl rfl (by decide +kernel) ⟨Nat.le_of_ble_eq_true rfl, Nat.le_of_ble_eq_true rfl⟩) (kS_env te) hK hP hD hS hA hE [] [0, 1, 2, 3, 4] [0, 1, 2, 3, 4] rfl rfl (by decide) (by decide) (by decide) (by decide) rfl rfl hl.1 rfl (Nat.le_of_ble_eq_true rfl) dX7_leadTo_62 ⟨Nat.zero_le _, Nat.zero_le _⟩ (fun H locs hP hD hS => ?_)
                show W p l e rmX7_leadTo s m args below meth c H locs 0 0 Q (F0 m 65 ls [.int r108, .int x101, .ref h_t_next])
                obtain ⟨g110, hf⟩ := chk_some hf
                obtain ⟨y111, e112, hf⟩ := nm_some hf
                refine va_iast hx hb hK hP hD hS 3 0 rfl rfl (gin_in g110) dX7_leadTo_65 (fun H locs hP hD hS => ?_)
                have hP : va_P (dC, dI) vwCl [(h_t, .inr (6, fX7 h_t_next h_t_stepsToGoal h_t_stepsFromEarlier)), (h_t_stepsToGoal, .inl (cI, 64, .inl y83)), (h_p1, .inl (cI, n_p1, .inl p1)), (h_t_next, .inl (cI, 64, .inl y111)), (h_t_stepsFromEarlier, .inl (cI, 64, .inl y82))] H := by rw [e112]; exact hP
                have hD : va_D A [(h_t, .inr (6, fX7 h_t_next h_t_stepsToGoal h_t_stepsFromEarlier)), (h_t_stepsToGoal, .inl (cI, 64, .inl y83)), (h_p1, .inl (cI, n_p1, .inl p1)), (h_t_next, .inl (cI, 64, .inl y111)), (h_t_stepsFromEarlier, .inl (cI, 64, .inl y82))] := by rw [e112]; exact hD
                refine lv_iinc (v := (x101 + (1 : Int32))) (lv' := [(4, .int (x101 + (1 : Int32))), (0, .ref h_t), (1, .ref h_p1), (3, .int x84)]) hx hb dX7_leadTo_66 hl (k := 3) rfl rfl (by decide) rfl (fun ls hl => ?_)
                refine lv_goto (tgt := 40) hx hb dX7_leadTo_69 (by decide) ?_
                exact ih102 _ _ _ hf hX104 _ _ hP hD hS _ (lv_sub hl [1, 2, 3, 0] rfl)
          obtain ⟨y99, hg, hf⟩ := bd1_some hf
          refine L113 FU _ _ _ hg ?_ _ _ hP hD hS _ (lv_sub hl [1, 2, 3, 0] rfl)
          · intro H locs hP hD hS ls hl
            refine lv_iconst (v := (0 : Int32)) hx hb dX7_leadTo_72 (by decide) ?_
            refine lv_istore (lv' := [(4, .int (0 : Int32)), (0, .ref h_t), (1, .ref h_p1), (3, .int x84)]) hx hb dX7_leadTo_73 hl (by decide) rfl (fun ls hl => ?_)
            have L134 : ∀ (fu126 : Nat) (y123 : Nat → Int32) (x124 : Int32) (y122 : Nat → Int32), f_X7_leadTo_L8 y83 y99 fu126 y123 x124 = some y122 → (∀ (H : Heap) (locs : List Loc), va_P (dC, dI) vwCl [(h_t, .inr (6, fX7 h_t_next h_t_stepsToGoal h_t_stepsFromEarlier)), (h_t_stepsToGoal, .inl (cI, 64, .inl y83)), (h_p1, .inl (cI, n_p1, .inl p1)), (h_t_next, .inl (cI, 64, .inl y99)), (h_t_stepsFromEarlier, .inl (cI, 64, .inl y122))] H → va_D A [(h_t, .inr (6, fX7 h_t_next h_t_stepsToGoal h_t_stepsFromEarlier)), (h_t_stepsToGoal, .inl (cI, 64, .inl y83)), (h_p1, .inl (cI, n_p1, .inl p1)), (h_t_next, .inl (cI, 64, .inl y99)), (h_t_stepsFromEarlier, .inl (cI, 64, .inl y122))] → va_S A s.heap H locs → ∀ ls : Array Slot, lv_has ls 5 [(0, .ref h_t), (1, .ref h_p1), (3, .int x84)] → W p l e rmX7_leadTo s m args below meth c H locs 0 0 Q (F0 m 101 ls [])) → ∀ (H : Heap) (locs : List Loc), va_P (dC, dI) vwCl [(h_t, .inr (6, fX7 h_t_next h_t_stepsToGoal h_t_stepsFromEarlier)), (h_t_stepsToGoal, .inl (cI, 64, .inl y83)), (h_p1, .inl (cI, n_p1, .inl p1)), (h_t_next, .inl (cI, 64, .inl y99)), (h_t_stepsFromEarlier, .inl (cI, 64, .inl y123))] H → va_D A [(h_t, .inr (6, fX7 h_t_next h_t_stepsToGoal h_t_stepsFromEarlier)), (h_t_stepsToGoal, .inl (cI, 64, .inl y83)), (h_p1, .inl (cI, n_p1, .inl p1)), (h_t_next, .inl (cI, 64, .inl y99)), (h_t_stepsFromEarlier, .inl (cI, 64, .inl y123))] → va_S A s.heap H locs → ∀ ls : Array Slot, lv_has ls 5 [(0, .ref h_t), (1, .ref h_p1), (3, .int x84), (4, .int x124)] → W p l e rmX7_leadTo s m args below meth c H locs 0 0 Q (F0 m 75 ls []) := by
              intro fu126
              induction fu126 with
              | zero =>
                intro y123 x124 y122 hf
                unfold f_X7_leadTo_L8 at hf
                exact none_ne hf
              | succ fu126 ih125 =>
                intro y123 x124 y122 hf hX127 H locs hP hD hS ls hl
                unfold f_X7_leadTo_L8 at hf
                refine lv_iload hx hb dX7_leadTo_75 (lv_at hl 3 rfl) ?_
                refine lv_bipush (v := (64 : Int32)) hx hb dX7_leadTo_77 (by decide) ?_
                refine lv_icmp_ge (tgt := 101) hx hb dX7_leadTo_79 (by decide) (fun c128 => ?_) (fun c128 => ?_)
                · replace hf := ifp c128 hf
                  obtain rfl := inj1 hf
                  exact hX127 _ _ hP hD hS _ (lv_sub hl [0, 1, 2] rfl)
                · replace hf := ifn c128 hf
                  refine lv_aload_n hx hb dX7_leadTo_82 rfl (lv_at hl 0 rfl) ?_
                  refine va_get (D := (dC, dI)) (ci := 6) (v := .ref h_t_stepsFromEarlier) (C := RX7) (T := TX7) (N := 3) hx hb hts (in1 tw_X7) hown hK hP 0 rfl rfl 2 (by decide) (hts _ (List.mem_cons_of_mem _ kw_35)) (fun _ h9 => h9) rfl dX7_leadTo_83 ?_
                  refine lv_iload hx hb dX7_leadTo_86 (lv_at hl 3 rfl) ?_
                  refine lv_aload_n hx hb dX7_leadTo_88 rfl (lv_at hl 0 rfl) ?_
                  refine lv_iload hx hb dX7_leadTo_89 (lv_at hl 3 rfl) ?_
                  obtain ⟨r129, hg130, hf⟩ := bd1_some hf
                  refine CM_callV (C := RX7) (As := [.int x124]) (rest := [.int x124, .ref h_t_stepsFromEarlier]) (wc := [(h_t, .inr (6, fX7 h_t_next h_t_stepsToGoal h_t_stepsFromEarlier)), (h_t_stepsToGoal, .inl (cI, 64, .inl y83)), (h_t_next, .inl (cI, 64, .inl y99))]) (w1 := [(h_t, .inr (6, fX7 h_t_next h_t_stepsToGoal h_t_stepsFromEarlier)), (h_t_stepsToGoal, .inl (cI, 64, .inl y83)), (h_t_next, .inl (cI, 64, .inl y99))]) (wr := [(h_p1, .inl (cI, n_p1, .inl p1)), (h_t_stepsFromEarlier, .inl (cI, 64, .inl y123))]) (wo := [(h_t, .inr (6, fX7 h_t_next h_t_stepsToGoal h_t_stepsFromEarlier)), (h_t_stepsToGoal, .inl (cI, 64, .inl y83)), (h_p1, .inl (cI, n_p1, .inl p1)), (h_t_next, .inl (cI, 64, .inl y99)), (h_t_stepsFromEarlier, .inl (cI, 64, .inl y123))]) (v := (some (.int r129))) ⟨hx, hb, hml, hown, hts⟩ (c_X7_fewestDownFrom l dC dI cI cZ te h_t h_t_next h_t_stepsToGoal h_t_stepsFromEarlier y83 y99 x124 r129 hg130) (cwV 1 hts (gV kw_664 kw_665 kw_666 kw_81 kw_667) rfl rfl rfl (by decide +kernel) ⟨Nat.le_of_ble_eq_true rfl, Nat.le_of_ble_eq_true rfl⟩) (kS_env te) hK hP hD hS hA hE [0, 1, 3] [2, 4] [2, 3, 0, 4, 1] rfl rfl (by decide) (by decide) (by decide) (by decide) rfl 0 6 rfl rfl rfl rfl hl.1 rfl (Nat.le_of_ble_eq_true rfl) dX7_leadTo_91 ⟨Nat.zero_le _, Nat.zero_le _⟩ (fun H locs hP hD hS => ?_)
                  show W p l e rmX7_leadTo s m args below meth c H locs 0 0 Q (F0 m 94 ls [.int r129, .int x124, .ref h_t_stepsFromEarlier])
                  obtain ⟨g131, hf⟩ := chk_some hf
                  obtain ⟨y132, e133, hf⟩ := nm_some hf
                  refine va_iast hx hb hK hP hD hS 4 0 rfl rfl (gin_in g131) dX7_leadTo_94 (fun H locs hP hD hS => ?_)
                  have hP : va_P (dC, dI) vwCl [(h_t, .inr (6, fX7 h_t_next h_t_stepsToGoal h_t_stepsFromEarlier)), (h_t_stepsToGoal, .inl (cI, 64, .inl y83)), (h_p1, .inl (cI, n_p1, .inl p1)), (h_t_next, .inl (cI, 64, .inl y99)), (h_t_stepsFromEarlier, .inl (cI, 64, .inl y132))] H := by rw [e133]; exact hP
                  have hD : va_D A [(h_t, .inr (6, fX7 h_t_next h_t_stepsToGoal h_t_stepsFromEarlier)), (h_t_stepsToGoal, .inl (cI, 64, .inl y83)), (h_p1, .inl (cI, n_p1, .inl p1)), (h_t_next, .inl (cI, 64, .inl y99)), (h_t_stepsFromEarlier, .inl (cI, 64, .inl y132))] := by rw [e133]; exact hD
                  refine lv_iinc (v := (x124 + (1 : Int32))) (lv' := [(4, .int (x124 + (1 : Int32))), (0, .ref h_t), (1, .ref h_p1), (3, .int x84)]) hx hb dX7_leadTo_95 hl (k := 3) rfl rfl (by decide) rfl (fun ls hl => ?_)
                  refine lv_goto (tgt := 75) hx hb dX7_leadTo_98 (by decide) ?_
                  exact ih125 _ _ _ hf hX127 _ _ hP hD hS _ (lv_sub hl [1, 2, 3, 0] rfl)
            obtain ⟨y122, hg, hf⟩ := bd1_some hf
            refine L134 FU _ _ _ hg ?_ _ _ hP hD hS _ (lv_sub hl [1, 2, 3, 0] rfl)
            · intro H locs hP hD hS ls hl
              refine lv_aload_n hx hb dX7_leadTo_101 rfl (lv_at hl 0 rfl) ?_
              refine va_get (D := (dC, dI)) (ci := 6) (v := .ref h_t_stepsFromEarlier) (C := RX7) (T := TX7) (N := 3) hx hb hts (in1 tw_X7) hown hK hP 0 rfl rfl 2 (by decide) (hts _ (List.mem_cons_of_mem _ kw_35)) (fun _ h9 => h9) rfl dX7_leadTo_102 ?_
              refine lv_iconst (v := (0 : Int32)) hx hb dX7_leadTo_105 (by decide) ?_
              refine lv_aload_n hx hb dX7_leadTo_106 rfl (lv_at hl 0 rfl) ?_
              refine va_get (D := (dC, dI)) (ci := 6) (v := .ref h_t_stepsToGoal) (C := RX7) (T := TX7) (N := 3) hx hb hts (in1 tw_X7) hown hK hP 0 rfl rfl 1 (by decide) (hts _ (List.mem_cons_of_mem _ kw_34)) (fun _ h9 => h9) rfl dX7_leadTo_107 ?_
              refine lv_iconst (v := (0 : Int32)) hx hb dX7_leadTo_110 (by decide) ?_
              refine lv_bipush (v := (64 : Int32)) hx hb dX7_leadTo_111 (by decide) ?_
              obtain ⟨g135, hf⟩ := chk_some hf
              obtain ⟨y136, e137, hf⟩ := nm_some hf
              refine va_copyi hx hb (hml.trans hl.1.symm) hown (hts _ (List.mem_cons_of_mem _ kw_668)) (hts _ (List.mem_cons_of_mem _ kw_448)) (hts _ (List.mem_cons_of_mem _ kw_449)) (hts _ (List.mem_cons_of_mem _ kw_450)) hK hP hD hS 4 1 0 0 rfl rfl rfl rfl rfl (gcp_of g135).1 (gcp_of g135).2.1 (gcp_of g135).2.2.1 (gcp_of g135).2.2.2.1 (gcp_of g135).2.2.2.2 (fun _ _ => rfl) (Nat.le_of_ble_eq_true rfl) (Nat.le_of_ble_eq_true rfl) dX7_leadTo_113 (fun H locs hP hD hS => ?_)
              have hP : va_P (dC, dI) vwCl [(h_t, .inr (6, fX7 h_t_next h_t_stepsToGoal h_t_stepsFromEarlier)), (h_t_stepsToGoal, .inl (cI, 64, .inl y136)), (h_p1, .inl (cI, n_p1, .inl p1)), (h_t_next, .inl (cI, 64, .inl y99)), (h_t_stepsFromEarlier, .inl (cI, 64, .inl y122))] H := by rw [e137]; exact hP
              have hD : va_D A [(h_t, .inr (6, fX7 h_t_next h_t_stepsToGoal h_t_stepsFromEarlier)), (h_t_stepsToGoal, .inl (cI, 64, .inl y136)), (h_p1, .inl (cI, n_p1, .inl p1)), (h_t_next, .inl (cI, 64, .inl y99)), (h_t_stepsFromEarlier, .inl (cI, 64, .inl y122))] := by rw [e137]; exact hD
              refine lv_iinc (v := (x84 + (-1 : Int32))) (lv' := [(3, .int (x84 + (-1 : Int32))), (0, .ref h_t), (1, .ref h_p1)]) hx hb dX7_leadTo_116 hl (k := 2) rfl rfl (by decide) rfl (fun ls hl => ?_)
              refine lv_goto (tgt := 33) hx hb dX7_leadTo_119 (by decide) ?_
              exact ih85 _ _ _ _ _ _ _ hf hX87 _ _ hP hD hS _ (lv_sub hl [1, 2, 0] rfl)
    obtain ⟨y78, y79, y80, hg, hf⟩ := bd3_some hf
    refine L138 FU _ _ _ _ _ _ _ hg ?_ _ _ hP hD hS _ (lv_sub hl [1, 2, 0] rfl)
    · intro H locs hP hD hS ls hl
      obtain ⟨rfl, rfl, rfl⟩ := inj3 hf
      subst hQ
      exact CM_vret hx hb hr hlocks hAe hP hD hS dX7_leadTo_122
def rmX7_stepsFrom : Room := { frames := 0, cells := 0, slots := 0, locals := 0 }
abbrev wqX7_stepsFrom : List Cond := Cond.code yX7_stepsFrom cX7_stepsFrom 2 (some .int) :: tG
set_option maxHeartbeats 4000000 in
set_option maxRecDepth 100000 in
theorem c_X7_stepsFrom (l : Launch) (dC : Nat → ClassId) (dI : Nat → Nat → Nat) (cI cZ : ClassId) (te : Nat → Nat) (h_t : Nat) (h_t_next : Nat) (h_t_stepsToGoal : Nat) (h_t_stepsFromEarlier : Nat) (t_stepsToGoal : Nat → Int32) (p1 : Int32) (o0 : Int32) (hf : f_X7_stepsFrom t_stepsToGoal p1 = some o0) : CM l yX7_stepsFrom wqX7_stepsFrom rmX7_stepsFrom (kS te) dC dI cI cZ [.ref h_t, .int p1] [(h_t, .inr (6, fX7 h_t_next h_t_stepsToGoal h_t_stepsFromEarlier)), (h_t_stepsToGoal, .inl (cI, 64, .inl t_stepsToGoal))] [(h_t, .inr (6, fX7 h_t_next h_t_stepsToGoal h_t_stepsFromEarlier)), (h_t_stepsToGoal, .inl (cI, 64, .inl t_stepsToGoal))] (some (.int o0)) := by
  refine CM_of (cc := cX7_stepsFrom) (maxL := 2) (ret := (some .int)) (by decide +kernel) rfl (Nat.le_of_ble_eq_true rfl) ?_
  intro p e s m args below meth c A Q hx hb hr hml hown hts hlocks hA hK hP hD hS hE hQ hAe ls hl
  have hown : s.vm.findClass RX7 = some m.cls := hown
  have hl : lv_has ls 2 [(0, .ref h_t), (1, .int p1)] := hl
  unfold f_X7_stepsFrom at hf
  refine lv_iload_n hx hb dX7_stepsFrom_0 rfl (lv_at hl 1 rfl) ?_
  refine lv_if_lt (tgt := 21) hx hb dX7_stepsFrom_1 (by decide) (fun c1 => ?_) (fun c1 => ?_)
  · replace hf := ifp c1 hf
    refine lv_iconst (v := (-1 : Int32)) hx hb dX7_stepsFrom_21 (by decide) ?_
    obtain rfl := inj1 hf
    subst hQ
    exact CM_iret hx hb hr rfl hlocks hAe hP hD hS dX7_stepsFrom_22
  · replace hf := ifn c1 hf
    refine lv_iload_n hx hb dX7_stepsFrom_4 rfl (lv_at hl 1 rfl) ?_
    refine lv_bipush (v := (64 : Int32)) hx hb dX7_stepsFrom_5 (by decide) ?_
    refine lv_icmp_ge (tgt := 21) hx hb dX7_stepsFrom_7 (by decide) (fun c2 => ?_) (fun c2 => ?_)
    · replace hf := ifp c2 hf
      refine lv_iconst (v := (-1 : Int32)) hx hb dX7_stepsFrom_21 (by decide) ?_
      obtain rfl := inj1 hf
      subst hQ
      exact CM_iret hx hb hr rfl hlocks hAe hP hD hS dX7_stepsFrom_22
    · replace hf := ifn c2 hf
      refine lv_aload_n hx hb dX7_stepsFrom_10 rfl (lv_at hl 0 rfl) ?_
      refine va_get (D := (dC, dI)) (ci := 6) (v := .ref h_t_stepsToGoal) (C := RX7) (T := TX7) (N := 3) hx hb hts (in1 tw_X7) hown hK hP 0 rfl rfl 1 (by decide) (hts _ (List.mem_cons_of_mem _ kw_34)) (fun _ h9 => h9) rfl dX7_stepsFrom_11 ?_
      refine lv_iload_n hx hb dX7_stepsFrom_14 rfl (lv_at hl 1 rfl) ?_
      obtain ⟨g3, hf⟩ := chk_some hf
      refine va_iald hx hb hK hP 1 0 rfl rfl (gin_in g3) dX7_stepsFrom_15 ?_
      refine lv_ldc (v := (1000000 : Int32)) hx hb hown (hts _ (List.mem_cons_of_mem _ kw_661)) dX7_stepsFrom_16 ?_
      refine lv_icmp_lt (tgt := 23) hx hb dX7_stepsFrom_18 (by decide) (fun c4 => ?_) (fun c4 => ?_)
      · replace hf := ifp c4 hf
        refine lv_aload_n hx hb dX7_stepsFrom_23 rfl (lv_at hl 0 rfl) ?_
        refine va_get (D := (dC, dI)) (ci := 6) (v := .ref h_t_stepsToGoal) (C := RX7) (T := TX7) (N := 3) hx hb hts (in1 tw_X7) hown hK hP 0 rfl rfl 1 (by decide) (hts _ (List.mem_cons_of_mem _ kw_34)) (fun _ h9 => h9) rfl dX7_stepsFrom_24 ?_
        refine lv_iload_n hx hb dX7_stepsFrom_27 rfl (lv_at hl 1 rfl) ?_
        obtain ⟨g5, hf⟩ := chk_some hf
        refine va_iald hx hb hK hP 1 0 rfl rfl (gin_in g5) dX7_stepsFrom_28 ?_
        obtain rfl := inj1 hf
        subst hQ
        exact CM_iret hx hb hr rfl hlocks hAe hP hD hS dX7_stepsFrom_29
      · replace hf := ifn c4 hf
        refine lv_iconst (v := (-1 : Int32)) hx hb dX7_stepsFrom_21 (by decide) ?_
        obtain rfl := inj1 hf
        subst hQ
        exact CM_iret hx hb hr rfl hlocks hAe hP hD hS dX7_stepsFrom_22
def rmX7_fewestSteps : Room := { frames := 3, cells := 0, slots := 0, locals := 74 }
abbrev wqX7_fewestSteps : List Cond := Cond.code yX7_fewestSteps cX7_fewestSteps 4 (some .int) :: tG
set_option maxHeartbeats 4000000 in
set_option maxRecDepth 100000 in
theorem c_X7_fewestSteps (l : Launch) (dC : Nat → ClassId) (dI : Nat → Nat → Nat) (cI cZ : ClassId) (te : Nat → Nat) (h_t : Nat) (h_p1 : Nat) (h_p1_surfaces : Nat) (h_p1_cliffs : Nat) (h_p1_boulders : Nat) (h_p1_scratches : Nat) (h_p1_numbers : Nat) (h_p1_facts : Nat) (h_p1_signs : Nat) (h_p1_areas : Nat) (h_p1_heights : Nat) (h_p1_boulders_cells : Nat) (h_t_next : Nat) (h_t_stepsToGoal : Nat) (h_t_stepsFromEarlier : Nat) (h_p1_cliffs_cells : Nat) (p1_ridges : Int32) (p1_boulders_limit : Int32) (p1_boulders_size : Int32) (n_p1_boulders_cells : Nat) (p1_boulders_cells : Nat → Int32) (t_stepsToGoal : Nat → Int32) (p1_surfaces : Nat → Int32) (t_next : Nat → Int32) (t_stepsFromEarlier : Nat → Int32) (p1_cliffs_limit : Int32) (p1_cliffs_size : Int32) (n_p1_cliffs_cells : Nat) (p1_cliffs_cells : Nat → Int32) (p2 : Int32) (p3 : Int32) (o0 : Int32) (o1 : Nat → Int32) (o2 : Nat → Int32) (o3 : Nat → Int32) (hf : f_X7_fewestSteps p1_boulders_size n_p1_boulders_cells p1_boulders_cells t_stepsToGoal p1_surfaces t_next t_stepsFromEarlier p1_cliffs_size n_p1_cliffs_cells p1_cliffs_cells p2 p3 = some (o0, o1, o2, o3)) : CM l yX7_fewestSteps wqX7_fewestSteps rmX7_fewestSteps (kS te) dC dI cI cZ [.ref h_t, .ref h_p1, .int p2, .int p3] [(h_p1, .inr (1, fX1 h_p1_surfaces h_p1_cliffs h_p1_boulders h_p1_scratches h_p1_numbers h_p1_facts h_p1_signs h_p1_areas h_p1_heights p1_ridges)), (h_p1_boulders, .inr (4, fX4 p1_boulders_limit h_p1_boulders_cells p1_boulders_size)), (h_p1_boulders_cells, .inl (cI, n_p1_boulders_cells, .inl p1_boulders_cells)), (h_t, .inr (6, fX7 h_t_next h_t_stepsToGoal h_t_stepsFromEarlier)), (h_t_stepsToGoal, .inl (cI, 64, .inl t_stepsToGoal)), (h_p1_surfaces, .inl (cI, 192, .inl p1_surfaces)), (h_t_next, .inl (cI, 64, .inl t_next)), (h_t_stepsFromEarlier, .inl (cI, 64, .inl t_stepsFromEarlier)), (h_p1_cliffs, .inr (4, fX4 p1_cliffs_limit h_p1_cliffs_cells p1_cliffs_size)), (h_p1_cliffs_cells, .inl (cI, n_p1_cliffs_cells, .inl p1_cliffs_cells))] [(h_p1, .inr (1, fX1 h_p1_surfaces h_p1_cliffs h_p1_boulders h_p1_scratches h_p1_numbers h_p1_facts h_p1_signs h_p1_areas h_p1_heights p1_ridges)), (h_p1_boulders, .inr (4, fX4 p1_boulders_limit h_p1_boulders_cells p1_boulders_size)), (h_p1_boulders_cells, .inl (cI, n_p1_boulders_cells, .inl p1_boulders_cells)), (h_t, .inr (6, fX7 h_t_next h_t_stepsToGoal h_t_stepsFromEarlier)), (h_t_stepsToGoal, .inl (cI, 64, .inl o1)), (h_p1_surfaces, .inl (cI, 192, .inl p1_surfaces)), (h_t_next, .inl (cI, 64, .inl o2)), (h_t_stepsFromEarlier, .inl (cI, 64, .inl o3)), (h_p1_cliffs, .inr (4, fX4 p1_cliffs_limit h_p1_cliffs_cells p1_cliffs_size)), (h_p1_cliffs_cells, .inl (cI, n_p1_cliffs_cells, .inl p1_cliffs_cells))] (some (.int o0)) := by
  refine CM_of (cc := cX7_fewestSteps) (maxL := 4) (ret := (some .int)) (by decide +kernel) rfl (Nat.le_of_ble_eq_true rfl) ?_
  intro p e s m args below meth c A Q hx hb hr hml hown hts hlocks hA hK hP hD hS hE hQ hAe ls hl
  have hown : s.vm.findClass RX7 = some m.cls := hown
  have hl : lv_has ls 4 [(0, .ref h_t), (1, .ref h_p1), (2, .int p2), (3, .int p3)] := hl
  unfold f_X7_fewestSteps at hf
  refine lv_aload_n hx hb dX7_fewestSteps_0 rfl (lv_at hl 0 rfl) ?_
  refine lv_aload_n hx hb dX7_fewestSteps_1 rfl (lv_at hl 1 rfl) ?_
  refine va_get (D := (dC, dI)) (ci := 1) (v := .ref h_p1_surfaces) (C := RX1) (T := TX1) (N := 10) hx hb hts (in1 tw_X1) hown hK hP 0 rfl rfl 0 (by decide) (hts _ (List.mem_cons_of_mem _ kw_669)) (fun _ h9 => h9) rfl dX7_fewestSteps_2 ?_
  refine lv_aload_n hx hb dX7_fewestSteps_5 rfl (lv_at hl 1 rfl) ?_
  refine va_get (D := (dC, dI)) (ci := 1) (v := .ref h_p1_boulders) (C := RX1) (T := TX1) (N := 10) hx hb hts (in1 tw_X1) hown hK hP 0 rfl rfl 2 (by decide) (hts _ (List.mem_cons_of_mem _ kw_670)) (fun _ h9 => h9) rfl dX7_fewestSteps_6 ?_
  refine lv_iload_n hx hb dX7_fewestSteps_9 rfl (lv_at hl 2 rfl) ?_
  refine lv_iconst (v := (0 : Int32)) hx hb dX7_fewestSteps_10 (by decide) ?_
  obtain ⟨r1, hg2, hf⟩ := bd1_some hf
  refine CM_callV (C := RX4) (As := [.int p2, .int (0 : Int32)]) (rest := [.ref h_p1_surfaces, .ref h_t]) (wc := [(h_p1_boulders, .inr (4, fX4 p1_boulders_limit h_p1_boulders_cells p1_boulders_size)), (h_p1_boulders_cells, .inl (cI, n_p1_boulders_cells, .inl p1_boulders_cells))]) (w1 := [(h_p1_boulders, .inr (4, fX4 p1_boulders_limit h_p1_boulders_cells p1_boulders_size)), (h_p1_boulders_cells, .inl (cI, n_p1_boulders_cells, .inl p1_boulders_cells))]) (wr := [(h_p1, .inr (1, fX1 h_p1_surfaces h_p1_cliffs h_p1_boulders h_p1_scratches h_p1_numbers h_p1_facts h_p1_signs h_p1_areas h_p1_heights p1_ridges)), (h_t, .inr (6, fX7 h_t_next h_t_stepsToGoal h_t_stepsFromEarlier)), (h_t_stepsToGoal, .inl (cI, 64, .inl t_stepsToGoal)), (h_p1_surfaces, .inl (cI, 192, .inl p1_surfaces)), (h_t_next, .inl (cI, 64, .inl t_next)), (h_t_stepsFromEarlier, .inl (cI, 64, .inl t_stepsFromEarlier)), (h_p1_cliffs, .inr (4, fX4 p1_cliffs_limit h_p1_cliffs_cells p1_cliffs_size)), (h_p1_cliffs_cells, .inl (cI, n_p1_cliffs_cells, .inl p1_cliffs_cells))]) (wo := [(h_p1, .inr (1, fX1 h_p1_surfaces h_p1_cliffs h_p1_boulders h_p1_scratches h_p1_numbers h_p1_facts h_p1_signs h_p1_areas h_p1_heights p1_ridges)), (h_p1_boulders, .inr (4, fX4 p1_boulders_limit h_p1_boulders_cells p1_boulders_size)), (h_p1_boulders_cells, .inl (cI, n_p1_boulders_cells, .inl p1_boulders_cells)), (h_t, .inr (6, fX7 h_t_next h_t_stepsToGoal h_t_stepsFromEarlier)), (h_t_stepsToGoal, .inl (cI, 64, .inl t_stepsToGoal)), (h_p1_surfaces, .inl (cI, 192, .inl p1_surfaces)), (h_t_next, .inl (cI, 64, .inl t_next)), (h_t_stepsFromEarlier, .inl (cI, 64, .inl t_stepsFromEarlier)), (h_p1_cliffs, .inr (4, fX4 p1_cliffs_limit h_p1_cliffs_cells p1_cliffs_size)), (h_p1_cliffs_cells, .inl (cI, n_p1_cliffs_cells, .inl p1_cliffs_cells))]) (v := (some (.int r1))) ⟨hx, hb, hml, hown, hts⟩ (c_X4_cell l dC dI cI cZ te h_p1_boulders h_p1_boulders_cells p1_boulders_limit p1_boulders_size n_p1_boulders_cells p1_boulders_cells p2 (0 : Int32) r1 hg2) (cwV 2 hts (gV kw_671 kw_414 kw_415 kw_19 kw_416) rfl rfl rfl (by decide +kernel) ⟨Nat.le_of_ble_eq_true rfl, Nat.le_of_ble_eq_true rfl⟩) (kS_env te) hK hP hD hS hA hE [1, 2] [0, 3, 4, 5, 6, 7, 8, 9] [0, 8, 9, 1, 2, 3, 4, 5, 6, 7] rfl rfl (by decide) (by decide) (by decide) (by decide) rfl 1 4 rfl rfl rfl rfl hl.1 rfl (Nat.le_of_ble_eq_true rfl) dX7_fewestSteps_11 ⟨Nat.zero_le _, Nat.zero_le _⟩ (fun H locs hP hD hS => ?_)
  show W p l e rmX7_fewestSteps s m args below meth c H locs 0 0 Q (F0 m 14 ls [.int r1, .ref h_p1_surfaces, .ref h_t])
  obtain ⟨y3, y4, y5, hg6, hf⟩ := bd3_some hf
  refine CM_callV (C := RX7) (As := [.ref h_p1_surfaces, .int r1]) (rest := []) (wc := [(h_t, .inr (6, fX7 h_t_next h_t_stepsToGoal h_t_stepsFromEarlier)), (h_t_stepsToGoal, .inl (cI, 64, .inl t_stepsToGoal)), (h_p1_surfaces, .inl (cI, 192, .inl p1_surfaces)), (h_t_next, .inl (cI, 64, .inl t_next)), (h_t_stepsFromEarlier, .inl (cI, 64, .inl t_stepsFromEarlier))]) (w1 := [(h_t, .inr (6, fX7 h_t_next h_t_stepsToGoal h_t_stepsFromEarlier)), (h_t_stepsToGoal, .inl (cI, 64, .inl y3)), (h_p1_surfaces, .inl (cI, 192, .inl p1_surfaces)), (h_t_next, .inl (cI, 64, .inl y4)), (h_t_stepsFromEarlier, .inl (cI, 64, .inl y5))]) (wr := [(h_p1, .inr (1, fX1 h_p1_surfaces h_p1_cliffs h_p1_boulders h_p1_scratches h_p1_numbers h_p1_facts h_p1_signs h_p1_areas h_p1_heights p1_ridges)), (h_p1_boulders, .inr (4, fX4 p1_boulders_limit h_p1_boulders_cells p1_boulders_size)), (h_p1_boulders_cells, .inl (cI, n_p1_boulders_cells, .inl p1_boulders_cells)), (h_p1_cliffs, .inr (4, fX4 p1_cliffs_limit h_p1_cliffs_cells p1_cliffs_size)), (h_p1_cliffs_cells, .inl (cI, n_p1_cliffs_cells, .inl p1_cliffs_cells))]) (wo := [(h_p1, .inr (1, fX1 h_p1_surfaces h_p1_cliffs h_p1_boulders h_p1_scratches h_p1_numbers h_p1_facts h_p1_signs h_p1_areas h_p1_heights p1_ridges)), (h_p1_boulders, .inr (4, fX4 p1_boulders_limit h_p1_boulders_cells p1_boulders_size)), (h_p1_boulders_cells, .inl (cI, n_p1_boulders_cells, .inl p1_boulders_cells)), (h_t, .inr (6, fX7 h_t_next h_t_stepsToGoal h_t_stepsFromEarlier)), (h_t_stepsToGoal, .inl (cI, 64, .inl y3)), (h_p1_surfaces, .inl (cI, 192, .inl p1_surfaces)), (h_t_next, .inl (cI, 64, .inl y4)), (h_t_stepsFromEarlier, .inl (cI, 64, .inl y5)), (h_p1_cliffs, .inr (4, fX4 p1_cliffs_limit h_p1_cliffs_cells p1_cliffs_size)), (h_p1_cliffs_cells, .inl (cI, n_p1_cliffs_cells, .inl p1_cliffs_cells))]) (v := (none)) ⟨hx, hb, hml, hown, hts⟩ (c_X7_leadTo l dC dI cI cZ te h_t h_p1_surfaces h_t_next h_t_stepsToGoal h_t_stepsFromEarlier t_stepsToGoal (192) p1_surfaces t_next t_stepsFromEarlier r1 y3 y4 y5 hg6) (cwV 2 hts (gV kw_672 kw_673 kw_674 kw_81 kw_675) rfl rfl rfl (by decide +kernel) ⟨Nat.le_of_ble_eq_true rfl, Nat.le_of_ble_eq_true rfl⟩) (kS_env te) hK hP hD hS hA hE [3, 4, 5, 6, 7] [0, 1, 2, 8, 9] [0, 1, 2, 5, 6, 7, 8, 9, 3, 4] rfl rfl (by decide) (by decide) (by decide) (by decide) rfl 3 6 rfl rfl rfl rfl hl.1 rfl (Nat.le_of_ble_eq_true rfl) dX7_fewestSteps_14 ⟨Nat.zero_le _, Nat.zero_le _⟩ (fun H locs hP hD hS => ?_)
  show W p l e rmX7_fewestSteps s m args below meth c H locs 0 0 Q (F0 m 17 ls [])
  refine lv_aload_n hx hb dX7_fewestSteps_17 rfl (lv_at hl 0 rfl) ?_
  refine lv_aload_n hx hb dX7_fewestSteps_18 rfl (lv_at hl 1 rfl) ?_
  refine va_get (D := (dC, dI)) (ci := 1) (v := .ref h_p1_cliffs) (C := RX1) (T := TX1) (N := 10) hx hb hts (in1 tw_X1) hown hK hP 0 rfl rfl 1 (by decide) (hts _ (List.mem_cons_of_mem _ kw_676)) (fun _ h9 => h9) rfl dX7_fewestSteps_19 ?_
  refine lv_iload_n hx hb dX7_fewestSteps_22 rfl (lv_at hl 3 rfl) ?_
  refine lv_iconst (v := (0 : Int32)) hx hb dX7_fewestSteps_23 (by decide) ?_
  obtain ⟨r7, hg8, hf⟩ := bd1_some hf
  refine CM_callV (C := RX4) (As := [.int p3, .int (0 : Int32)]) (rest := [.ref h_t]) (wc := [(h_p1_cliffs, .inr (4, fX4 p1_cliffs_limit h_p1_cliffs_cells p1_cliffs_size)), (h_p1_cliffs_cells, .inl (cI, n_p1_cliffs_cells, .inl p1_cliffs_cells))]) (w1 := [(h_p1_cliffs, .inr (4, fX4 p1_cliffs_limit h_p1_cliffs_cells p1_cliffs_size)), (h_p1_cliffs_cells, .inl (cI, n_p1_cliffs_cells, .inl p1_cliffs_cells))]) (wr := [(h_p1, .inr (1, fX1 h_p1_surfaces h_p1_cliffs h_p1_boulders h_p1_scratches h_p1_numbers h_p1_facts h_p1_signs h_p1_areas h_p1_heights p1_ridges)), (h_p1_boulders, .inr (4, fX4 p1_boulders_limit h_p1_boulders_cells p1_boulders_size)), (h_p1_boulders_cells, .inl (cI, n_p1_boulders_cells, .inl p1_boulders_cells)), (h_t, .inr (6, fX7 h_t_next h_t_stepsToGoal h_t_stepsFromEarlier)), (h_t_stepsToGoal, .inl (cI, 64, .inl y3)), (h_p1_surfaces, .inl (cI, 192, .inl p1_surfaces)), (h_t_next, .inl (cI, 64, .inl y4)), (h_t_stepsFromEarlier, .inl (cI, 64, .inl y5))]) (wo := [(h_p1, .inr (1, fX1 h_p1_surfaces h_p1_cliffs h_p1_boulders h_p1_scratches h_p1_numbers h_p1_facts h_p1_signs h_p1_areas h_p1_heights p1_ridges)), (h_p1_boulders, .inr (4, fX4 p1_boulders_limit h_p1_boulders_cells p1_boulders_size)), (h_p1_boulders_cells, .inl (cI, n_p1_boulders_cells, .inl p1_boulders_cells)), (h_t, .inr (6, fX7 h_t_next h_t_stepsToGoal h_t_stepsFromEarlier)), (h_t_stepsToGoal, .inl (cI, 64, .inl y3)), (h_p1_surfaces, .inl (cI, 192, .inl p1_surfaces)), (h_t_next, .inl (cI, 64, .inl y4)), (h_t_stepsFromEarlier, .inl (cI, 64, .inl y5)), (h_p1_cliffs, .inr (4, fX4 p1_cliffs_limit h_p1_cliffs_cells p1_cliffs_size)), (h_p1_cliffs_cells, .inl (cI, n_p1_cliffs_cells, .inl p1_cliffs_cells))]) (v := (some (.int r7))) ⟨hx, hb, hml, hown, hts⟩ (c_X4_cell l dC dI cI cZ te h_p1_cliffs h_p1_cliffs_cells p1_cliffs_limit p1_cliffs_size n_p1_cliffs_cells p1_cliffs_cells p3 (0 : Int32) r7 hg8) (cwV 2 hts (gV kw_671 kw_414 kw_415 kw_19 kw_416) rfl rfl rfl (by decide +kernel) ⟨Nat.le_of_ble_eq_true rfl, Nat.le_of_ble_eq_true rfl⟩) (kS_env te) hK hP hD hS hA hE [8, 9] [0, 1, 2, 3, 4, 5, 6, 7] [0, 1, 2, 3, 4, 5, 6, 7, 8, 9] rfl rfl (by decide) (by decide) (by decide) (by decide) rfl 8 4 rfl rfl rfl rfl hl.1 rfl (Nat.le_of_ble_eq_true rfl) dX7_fewestSteps_24 ⟨Nat.zero_le _, Nat.zero_le _⟩ (fun H locs hP hD hS => ?_)
  show W p l e rmX7_fewestSteps s m args below meth c H locs 0 0 Q (F0 m 27 ls [.int r7, .ref h_t])
  obtain ⟨r9, hg10, hf⟩ := bd1_some hf
  refine CM_callV (C := RX7) (As := [.int r7]) (rest := []) (wc := [(h_t, .inr (6, fX7 h_t_next h_t_stepsToGoal h_t_stepsFromEarlier)), (h_t_stepsToGoal, .inl (cI, 64, .inl y3))]) (w1 := [(h_t, .inr (6, fX7 h_t_next h_t_stepsToGoal h_t_stepsFromEarlier)), (h_t_stepsToGoal, .inl (cI, 64, .inl y3))]) (wr := [(h_p1, .inr (1, fX1 h_p1_surfaces h_p1_cliffs h_p1_boulders h_p1_scratches h_p1_numbers h_p1_facts h_p1_signs h_p1_areas h_p1_heights p1_ridges)), (h_p1_boulders, .inr (4, fX4 p1_boulders_limit h_p1_boulders_cells p1_boulders_size)), (h_p1_boulders_cells, .inl (cI, n_p1_boulders_cells, .inl p1_boulders_cells)), (h_p1_surfaces, .inl (cI, 192, .inl p1_surfaces)), (h_t_next, .inl (cI, 64, .inl y4)), (h_t_stepsFromEarlier, .inl (cI, 64, .inl y5)), (h_p1_cliffs, .inr (4, fX4 p1_cliffs_limit h_p1_cliffs_cells p1_cliffs_size)), (h_p1_cliffs_cells, .inl (cI, n_p1_cliffs_cells, .inl p1_cliffs_cells))]) (wo := [(h_p1, .inr (1, fX1 h_p1_surfaces h_p1_cliffs h_p1_boulders h_p1_scratches h_p1_numbers h_p1_facts h_p1_signs h_p1_areas h_p1_heights p1_ridges)), (h_p1_boulders, .inr (4, fX4 p1_boulders_limit h_p1_boulders_cells p1_boulders_size)), (h_p1_boulders_cells, .inl (cI, n_p1_boulders_cells, .inl p1_boulders_cells)), (h_t, .inr (6, fX7 h_t_next h_t_stepsToGoal h_t_stepsFromEarlier)), (h_t_stepsToGoal, .inl (cI, 64, .inl y3)), (h_p1_surfaces, .inl (cI, 192, .inl p1_surfaces)), (h_t_next, .inl (cI, 64, .inl y4)), (h_t_stepsFromEarlier, .inl (cI, 64, .inl y5)), (h_p1_cliffs, .inr (4, fX4 p1_cliffs_limit h_p1_cliffs_cells p1_cliffs_size)), (h_p1_cliffs_cells, .inl (cI, n_p1_cliffs_cells, .inl p1_cliffs_cells))]) (v := (some (.int r9))) ⟨hx, hb, hml, hown, hts⟩ (c_X7_stepsFrom l dC dI cI cZ te h_t h_t_next h_t_stepsToGoal h_t_stepsFromEarlier y3 r7 r9 hg10) (cwV 1 hts (gV kw_677 kw_678 kw_679 kw_81 kw_680) rfl rfl rfl (by decide +kernel) ⟨Nat.le_of_ble_eq_true rfl, Nat.le_of_ble_eq_true rfl⟩) (kS_env te) hK hP hD hS hA hE [3, 4] [0, 1, 2, 5, 6, 7, 8, 9] [0, 1, 2, 8, 9, 3, 4, 5, 6, 7] rfl rfl (by decide) (by decide) (by decide) (by decide) rfl 3 6 rfl rfl rfl rfl hl.1 rfl (Nat.le_of_ble_eq_true rfl) dX7_fewestSteps_27 ⟨Nat.zero_le _, Nat.zero_le _⟩ (fun H locs hP hD hS => ?_)
  show W p l e rmX7_fewestSteps s m args below meth c H locs 0 0 Q (F0 m 30 ls [.int r9])
  obtain ⟨rfl, rfl, rfl, rfl⟩ := inj4 hf
  subst hQ
  exact CM_iret hx hb hr rfl hlocks hAe hP hD hS dX7_fewestSteps_30
def rmX7_stepsOfSort : Room := { frames := 2, cells := 0, slots := 0, locals := 43 }
abbrev wqX7_stepsOfSort : List Cond := Cond.code yX7_stepsOfSort cX7_stepsOfSort 4 (some .int) :: tG
set_option maxHeartbeats 4000000 in
set_option maxRecDepth 100000 in
theorem c_X7_stepsOfSort (l : Launch) (dC : Nat → ClassId) (dI : Nat → Nat → Nat) (cI cZ : ClassId) (te : Nat → Nat) (h_t : Nat) (h_p1 : Nat) (h_p1_surfaces : Nat) (h_p1_cliffs : Nat) (h_p1_boulders : Nat) (h_p1_scratches : Nat) (h_p1_numbers : Nat) (h_p1_facts : Nat) (h_p1_signs : Nat) (h_p1_areas : Nat) (h_p1_heights : Nat) (h_p1_cliffs_cells : Nat) (h_p1_boulders_cells : Nat) (h_t_next : Nat) (h_t_stepsToGoal : Nat) (h_t_stepsFromEarlier : Nat) (p1_ridges : Int32) (p1_cliffs_limit : Int32) (p1_cliffs_size : Int32) (n_p1_cliffs_cells : Nat) (p1_cliffs_cells : Nat → Int32) (p1_boulders_limit : Int32) (p1_boulders_size : Int32) (n_p1_boulders_cells : Nat) (p1_boulders_cells : Nat → Int32) (t_stepsToGoal : Nat → Int32) (p2 : Int32) (p3 : Int32) (o0 : Int32) (hf : f_X7_stepsOfSort p1_cliffs_size n_p1_cliffs_cells p1_cliffs_cells p1_boulders_size n_p1_boulders_cells p1_boulders_cells t_stepsToGoal p2 p3 = some o0) : CM l yX7_stepsOfSort wqX7_stepsOfSort rmX7_stepsOfSort (kS te) dC dI cI cZ [.ref h_t, .ref h_p1, .int p2, .int p3] [(h_p1, .inr (1, fX1 h_p1_surfaces h_p1_cliffs h_p1_boulders h_p1_scratches h_p1_numbers h_p1_facts h_p1_signs h_p1_areas h_p1_heights p1_ridges)), (h_p1_cliffs, .inr (4, fX4 p1_cliffs_limit h_p1_cliffs_cells p1_cliffs_size)), (h_p1_cliffs_cells, .inl (cI, n_p1_cliffs_cells, .inl p1_cliffs_cells)), (h_p1_boulders, .inr (4, fX4 p1_boulders_limit h_p1_boulders_cells p1_boulders_size)), (h_p1_boulders_cells, .inl (cI, n_p1_boulders_cells, .inl p1_boulders_cells)), (h_t, .inr (6, fX7 h_t_next h_t_stepsToGoal h_t_stepsFromEarlier)), (h_t_stepsToGoal, .inl (cI, 64, .inl t_stepsToGoal))] [(h_p1, .inr (1, fX1 h_p1_surfaces h_p1_cliffs h_p1_boulders h_p1_scratches h_p1_numbers h_p1_facts h_p1_signs h_p1_areas h_p1_heights p1_ridges)), (h_p1_cliffs, .inr (4, fX4 p1_cliffs_limit h_p1_cliffs_cells p1_cliffs_size)), (h_p1_cliffs_cells, .inl (cI, n_p1_cliffs_cells, .inl p1_cliffs_cells)), (h_p1_boulders, .inr (4, fX4 p1_boulders_limit h_p1_boulders_cells p1_boulders_size)), (h_p1_boulders_cells, .inl (cI, n_p1_boulders_cells, .inl p1_boulders_cells)), (h_t, .inr (6, fX7 h_t_next h_t_stepsToGoal h_t_stepsFromEarlier)), (h_t_stepsToGoal, .inl (cI, 64, .inl t_stepsToGoal))] (some (.int o0)) := by
  refine CM_of (cc := cX7_stepsOfSort) (maxL := 4) (ret := (some .int)) (by decide +kernel) rfl (Nat.le_of_ble_eq_true rfl) ?_
  intro p e s m args below meth c A Q hx hb hr hml hown hts hlocks hA hK hP hD hS hE hQ hAe ls hl
  have hown : s.vm.findClass RX7 = some m.cls := hown
  have hl : lv_has ls 4 [(0, .ref h_t), (1, .ref h_p1), (2, .int p2), (3, .int p3)] := hl
  unfold f_X7_stepsOfSort at hf
  refine lv_aload_n hx hb dX7_stepsOfSort_0 rfl (lv_at hl 1 rfl) ?_
  refine va_get (D := (dC, dI)) (ci := 1) (v := .ref h_p1_cliffs) (C := RX1) (T := TX1) (N := 10) hx hb hts (in1 tw_X1) hown hK hP 0 rfl rfl 1 (by decide) (hts _ (List.mem_cons_of_mem _ kw_676)) (fun _ h9 => h9) rfl dX7_stepsOfSort_1 ?_
  refine lv_iload_n hx hb dX7_stepsOfSort_4 rfl (lv_at hl 3 rfl) ?_
  refine lv_iconst (v := (1 : Int32)) hx hb dX7_stepsOfSort_5 (by decide) ?_
  obtain ⟨r1, hg2, hf⟩ := bd1_some hf
  refine CM_callV (C := RX4) (As := [.int p3, .int (1 : Int32)]) (rest := []) (wc := [(h_p1_cliffs, .inr (4, fX4 p1_cliffs_limit h_p1_cliffs_cells p1_cliffs_size)), (h_p1_cliffs_cells, .inl (cI, n_p1_cliffs_cells, .inl p1_cliffs_cells))]) (w1 := [(h_p1_cliffs, .inr (4, fX4 p1_cliffs_limit h_p1_cliffs_cells p1_cliffs_size)), (h_p1_cliffs_cells, .inl (cI, n_p1_cliffs_cells, .inl p1_cliffs_cells))]) (wr := [(h_p1, .inr (1, fX1 h_p1_surfaces h_p1_cliffs h_p1_boulders h_p1_scratches h_p1_numbers h_p1_facts h_p1_signs h_p1_areas h_p1_heights p1_ridges)), (h_p1_boulders, .inr (4, fX4 p1_boulders_limit h_p1_boulders_cells p1_boulders_size)), (h_p1_boulders_cells, .inl (cI, n_p1_boulders_cells, .inl p1_boulders_cells)), (h_t, .inr (6, fX7 h_t_next h_t_stepsToGoal h_t_stepsFromEarlier)), (h_t_stepsToGoal, .inl (cI, 64, .inl t_stepsToGoal))]) (wo := [(h_p1, .inr (1, fX1 h_p1_surfaces h_p1_cliffs h_p1_boulders h_p1_scratches h_p1_numbers h_p1_facts h_p1_signs h_p1_areas h_p1_heights p1_ridges)), (h_p1_cliffs, .inr (4, fX4 p1_cliffs_limit h_p1_cliffs_cells p1_cliffs_size)), (h_p1_cliffs_cells, .inl (cI, n_p1_cliffs_cells, .inl p1_cliffs_cells)), (h_p1_boulders, .inr (4, fX4 p1_boulders_limit h_p1_boulders_cells p1_boulders_size)), (h_p1_boulders_cells, .inl (cI, n_p1_boulders_cells, .inl p1_boulders_cells)), (h_t, .inr (6, fX7 h_t_next h_t_stepsToGoal h_t_stepsFromEarlier)), (h_t_stepsToGoal, .inl (cI, 64, .inl t_stepsToGoal))]) (v := (some (.int r1))) ⟨hx, hb, hml, hown, hts⟩ (c_X4_cell l dC dI cI cZ te h_p1_cliffs h_p1_cliffs_cells p1_cliffs_limit p1_cliffs_size n_p1_cliffs_cells p1_cliffs_cells p3 (1 : Int32) r1 hg2) (cwV 2 hts (gV kw_671 kw_414 kw_415 kw_19 kw_416) rfl rfl rfl (by decide +kernel) ⟨Nat.le_of_ble_eq_true rfl, Nat.le_of_ble_eq_true rfl⟩) (kS_env te) hK hP hD hS hA hE [1, 2] [0, 3, 4, 5, 6] [0, 5, 6, 1, 2, 3, 4] rfl rfl (by decide) (by decide) (by decide) (by decide) rfl 1 4 rfl rfl rfl rfl hl.1 rfl (Nat.le_of_ble_eq_true rfl) dX7_stepsOfSort_6 ⟨Nat.zero_le _, Nat.zero_le _⟩ (fun H locs hP hD hS => ?_)
  show W p l e rmX7_stepsOfSort s m args below meth c H locs 0 0 Q (F0 m 9 ls [.int r1])
  refine lv_aload_n hx hb dX7_stepsOfSort_9 rfl (lv_at hl 1 rfl) ?_
  refine va_get (D := (dC, dI)) (ci := 1) (v := .ref h_p1_boulders) (C := RX1) (T := TX1) (N := 10) hx hb hts (in1 tw_X1) hown hK hP 0 rfl rfl 2 (by decide) (hts _ (List.mem_cons_of_mem _ kw_670)) (fun _ h9 => h9) rfl dX7_stepsOfSort_10 ?_
  refine lv_iload_n hx hb dX7_stepsOfSort_13 rfl (lv_at hl 2 rfl) ?_
  refine lv_iconst (v := (1 : Int32)) hx hb dX7_stepsOfSort_14 (by decide) ?_
  obtain ⟨r3, hg4, hf⟩ := bd1_some hf
  refine CM_callV (C := RX4) (As := [.int p2, .int (1 : Int32)]) (rest := [.int r1]) (wc := [(h_p1_boulders, .inr (4, fX4 p1_boulders_limit h_p1_boulders_cells p1_boulders_size)), (h_p1_boulders_cells, .inl (cI, n_p1_boulders_cells, .inl p1_boulders_cells))]) (w1 := [(h_p1_boulders, .inr (4, fX4 p1_boulders_limit h_p1_boulders_cells p1_boulders_size)), (h_p1_boulders_cells, .inl (cI, n_p1_boulders_cells, .inl p1_boulders_cells))]) (wr := [(h_p1, .inr (1, fX1 h_p1_surfaces h_p1_cliffs h_p1_boulders h_p1_scratches h_p1_numbers h_p1_facts h_p1_signs h_p1_areas h_p1_heights p1_ridges)), (h_p1_cliffs, .inr (4, fX4 p1_cliffs_limit h_p1_cliffs_cells p1_cliffs_size)), (h_p1_cliffs_cells, .inl (cI, n_p1_cliffs_cells, .inl p1_cliffs_cells)), (h_t, .inr (6, fX7 h_t_next h_t_stepsToGoal h_t_stepsFromEarlier)), (h_t_stepsToGoal, .inl (cI, 64, .inl t_stepsToGoal))]) (wo := [(h_p1, .inr (1, fX1 h_p1_surfaces h_p1_cliffs h_p1_boulders h_p1_scratches h_p1_numbers h_p1_facts h_p1_signs h_p1_areas h_p1_heights p1_ridges)), (h_p1_cliffs, .inr (4, fX4 p1_cliffs_limit h_p1_cliffs_cells p1_cliffs_size)), (h_p1_cliffs_cells, .inl (cI, n_p1_cliffs_cells, .inl p1_cliffs_cells)), (h_p1_boulders, .inr (4, fX4 p1_boulders_limit h_p1_boulders_cells p1_boulders_size)), (h_p1_boulders_cells, .inl (cI, n_p1_boulders_cells, .inl p1_boulders_cells)), (h_t, .inr (6, fX7 h_t_next h_t_stepsToGoal h_t_stepsFromEarlier)), (h_t_stepsToGoal, .inl (cI, 64, .inl t_stepsToGoal))]) (v := (some (.int r3))) ⟨hx, hb, hml, hown, hts⟩ (c_X4_cell l dC dI cI cZ te h_p1_boulders h_p1_boulders_cells p1_boulders_limit p1_boulders_size n_p1_boulders_cells p1_boulders_cells p2 (1 : Int32) r3 hg4) (cwV 2 hts (gV kw_671 kw_414 kw_415 kw_19 kw_416) rfl rfl rfl (by decide +kernel) ⟨Nat.le_of_ble_eq_true rfl, Nat.le_of_ble_eq_true rfl⟩) (kS_env te) hK hP hD hS hA hE [3, 4] [0, 1, 2, 5, 6] [0, 1, 2, 5, 6, 3, 4] rfl rfl (by decide) (by decide) (by decide) (by decide) rfl 3 4 rfl rfl rfl rfl hl.1 rfl (Nat.le_of_ble_eq_true rfl) dX7_stepsOfSort_15 ⟨Nat.zero_le _, Nat.zero_le _⟩ (fun H locs hP hD hS => ?_)
  show W p l e rmX7_stepsOfSort s m args below meth c H locs 0 0 Q (F0 m 18 ls [.int r3, .int r1])
  refine lv_icmp_eq (tgt := 23) hx hb dX7_stepsOfSort_18 (by decide) (fun c5 => ?_) (fun c5 => ?_)
  · replace hf := ifp c5 hf
    refine lv_aload_n hx hb dX7_stepsOfSort_23 rfl (lv_at hl 0 rfl) ?_
    refine lv_aload_n hx hb dX7_stepsOfSort_24 rfl (lv_at hl 1 rfl) ?_
    refine va_get (D := (dC, dI)) (ci := 1) (v := .ref h_p1_cliffs) (C := RX1) (T := TX1) (N := 10) hx hb hts (in1 tw_X1) hown hK hP 0 rfl rfl 1 (by decide) (hts _ (List.mem_cons_of_mem _ kw_676)) (fun _ h9 => h9) rfl dX7_stepsOfSort_25 ?_
    refine lv_iload_n hx hb dX7_stepsOfSort_28 rfl (lv_at hl 3 rfl) ?_
    refine lv_iconst (v := (0 : Int32)) hx hb dX7_stepsOfSort_29 (by decide) ?_
    obtain ⟨r6, hg7, hf⟩ := bd1_some hf
    refine CM_callV (C := RX4) (As := [.int p3, .int (0 : Int32)]) (rest := [.ref h_t]) (wc := [(h_p1_cliffs, .inr (4, fX4 p1_cliffs_limit h_p1_cliffs_cells p1_cliffs_size)), (h_p1_cliffs_cells, .inl (cI, n_p1_cliffs_cells, .inl p1_cliffs_cells))]) (w1 := [(h_p1_cliffs, .inr (4, fX4 p1_cliffs_limit h_p1_cliffs_cells p1_cliffs_size)), (h_p1_cliffs_cells, .inl (cI, n_p1_cliffs_cells, .inl p1_cliffs_cells))]) (wr := [(h_p1, .inr (1, fX1 h_p1_surfaces h_p1_cliffs h_p1_boulders h_p1_scratches h_p1_numbers h_p1_facts h_p1_signs h_p1_areas h_p1_heights p1_ridges)), (h_p1_boulders, .inr (4, fX4 p1_boulders_limit h_p1_boulders_cells p1_boulders_size)), (h_p1_boulders_cells, .inl (cI, n_p1_boulders_cells, .inl p1_boulders_cells)), (h_t, .inr (6, fX7 h_t_next h_t_stepsToGoal h_t_stepsFromEarlier)), (h_t_stepsToGoal, .inl (cI, 64, .inl t_stepsToGoal))]) (wo := [(h_p1, .inr (1, fX1 h_p1_surfaces h_p1_cliffs h_p1_boulders h_p1_scratches h_p1_numbers h_p1_facts h_p1_signs h_p1_areas h_p1_heights p1_ridges)), (h_p1_cliffs, .inr (4, fX4 p1_cliffs_limit h_p1_cliffs_cells p1_cliffs_size)), (h_p1_cliffs_cells, .inl (cI, n_p1_cliffs_cells, .inl p1_cliffs_cells)), (h_p1_boulders, .inr (4, fX4 p1_boulders_limit h_p1_boulders_cells p1_boulders_size)), (h_p1_boulders_cells, .inl (cI, n_p1_boulders_cells, .inl p1_boulders_cells)), (h_t, .inr (6, fX7 h_t_next h_t_stepsToGoal h_t_stepsFromEarlier)), (h_t_stepsToGoal, .inl (cI, 64, .inl t_stepsToGoal))]) (v := (some (.int r6))) ⟨hx, hb, hml, hown, hts⟩ (c_X4_cell l dC dI cI cZ te h_p1_cliffs h_p1_cliffs_cells p1_cliffs_limit p1_cliffs_size n_p1_cliffs_cells p1_cliffs_cells p3 (0 : Int32) r6 hg7) (cwV 2 hts (gV kw_671 kw_414 kw_415 kw_19 kw_416) rfl rfl rfl (by decide +kernel) ⟨Nat.le_of_ble_eq_true rfl, Nat.le_of_ble_eq_true rfl⟩) (kS_env te) hK hP hD hS hA hE [1, 2] [0, 3, 4, 5, 6] [0, 5, 6, 1, 2, 3, 4] rfl rfl (by decide) (by decide) (by decide) (by decide) rfl 1 4 rfl rfl rfl rfl hl.1 rfl (Nat.le_of_ble_eq_true rfl) dX7_stepsOfSort_30 ⟨Nat.zero_le _, Nat.zero_le _⟩ (fun H locs hP hD hS => ?_)
    show W p l e rmX7_stepsOfSort s m args below meth c H locs 0 0 Q (F0 m 33 ls [.int r6, .ref h_t])
    obtain ⟨r8, hg9, hf⟩ := bd1_some hf
    refine CM_callV (C := RX7) (As := [.int r6]) (rest := []) (wc := [(h_t, .inr (6, fX7 h_t_next h_t_stepsToGoal h_t_stepsFromEarlier)), (h_t_stepsToGoal, .inl (cI, 64, .inl t_stepsToGoal))]) (w1 := [(h_t, .inr (6, fX7 h_t_next h_t_stepsToGoal h_t_stepsFromEarlier)), (h_t_stepsToGoal, .inl (cI, 64, .inl t_stepsToGoal))]) (wr := [(h_p1, .inr (1, fX1 h_p1_surfaces h_p1_cliffs h_p1_boulders h_p1_scratches h_p1_numbers h_p1_facts h_p1_signs h_p1_areas h_p1_heights p1_ridges)), (h_p1_cliffs, .inr (4, fX4 p1_cliffs_limit h_p1_cliffs_cells p1_cliffs_size)), (h_p1_cliffs_cells, .inl (cI, n_p1_cliffs_cells, .inl p1_cliffs_cells)), (h_p1_boulders, .inr (4, fX4 p1_boulders_limit h_p1_boulders_cells p1_boulders_size)), (h_p1_boulders_cells, .inl (cI, n_p1_boulders_cells, .inl p1_boulders_cells))]) (wo := [(h_p1, .inr (1, fX1 h_p1_surfaces h_p1_cliffs h_p1_boulders h_p1_scratches h_p1_numbers h_p1_facts h_p1_signs h_p1_areas h_p1_heights p1_ridges)), (h_p1_cliffs, .inr (4, fX4 p1_cliffs_limit h_p1_cliffs_cells p1_cliffs_size)), (h_p1_cliffs_cells, .inl (cI, n_p1_cliffs_cells, .inl p1_cliffs_cells)), (h_p1_boulders, .inr (4, fX4 p1_boulders_limit h_p1_boulders_cells p1_boulders_size)), (h_p1_boulders_cells, .inl (cI, n_p1_boulders_cells, .inl p1_boulders_cells)), (h_t, .inr (6, fX7 h_t_next h_t_stepsToGoal h_t_stepsFromEarlier)), (h_t_stepsToGoal, .inl (cI, 64, .inl t_stepsToGoal))]) (v := (some (.int r8))) ⟨hx, hb, hml, hown, hts⟩ (c_X7_stepsFrom l dC dI cI cZ te h_t h_t_next h_t_stepsToGoal h_t_stepsFromEarlier t_stepsToGoal r6 r8 hg9) (cwV 1 hts (gV kw_677 kw_678 kw_679 kw_81 kw_680) rfl rfl rfl (by decide +kernel) ⟨Nat.le_of_ble_eq_true rfl, Nat.le_of_ble_eq_true rfl⟩) (kS_env te) hK hP hD hS hA hE [5, 6] [0, 1, 2, 3, 4] [0, 1, 2, 3, 4, 5, 6] rfl rfl (by decide) (by decide) (by decide) (by decide) rfl 5 6 rfl rfl rfl rfl hl.1 rfl (Nat.le_of_ble_eq_true rfl) dX7_stepsOfSort_33 ⟨Nat.zero_le _, Nat.zero_le _⟩ (fun H locs hP hD hS => ?_)
    show W p l e rmX7_stepsOfSort s m args below meth c H locs 0 0 Q (F0 m 36 ls [.int r8])
    obtain rfl := inj1 hf
    subst hQ
    exact CM_iret hx hb hr rfl hlocks hAe hP hD hS dX7_stepsOfSort_36
  · replace hf := ifn c5 hf
    refine lv_iconst (v := (-1 : Int32)) hx hb dX7_stepsOfSort_21 (by decide) ?_
    obtain rfl := inj1 hf
    subst hQ
    exact CM_iret hx hb hr rfl hlocks hAe hP hD hS dX7_stepsOfSort_22
