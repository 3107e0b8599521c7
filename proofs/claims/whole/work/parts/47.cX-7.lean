def rmX6_faultPlace : Room := { frames := 8, cells := 0, slots := 0, locals := 172 }
set_option maxRecDepth 20000 in
theorem kX6_faultPlace_0 : ∀ w ∈ u_ws RX6 TX6 7, w ∈ wsX6_faultPlace := by decide +kernel
set_option maxRecDepth 20000 in
theorem kX6_faultPlace_1 : Cond.fieldLink RX6 31 "StoneRiver$Text" "start" "I" ∈ wsX6_faultPlace := by decide +kernel
set_option maxHeartbeats 4000000 in
set_option maxRecDepth 100000 in
theorem c_X6_faultPlace (l : Launch) (dC : Nat → ClassId) (dI : Nat → Nat → Nat) (cI cZ : ClassId) (te : Nat → Nat) (h_t : Nat) (h_t_bytes : Nat) (h_t_numbers : Nat) (t_size : Int32) (t_start : Int32) (t_value : Int32) (t_next : Int32) (t_word : Int32) (t_bytes : Nat → Int32) (t_numbers : Nat → Int32) (o0 : Int32) (o1 : Int32) (o2 : Int32) (o3 : Int32) (o4 : Int32) (o5 : Nat → Int32) (hf : f_X6_faultPlace t_size t_start t_value t_word t_bytes t_numbers = some (o0, o1, o2, o3, o4, o5)) : CM l yX6_faultPlace wsX6_faultPlace rmX6_faultPlace (kS te) dC dI cI cZ [.ref h_t] [(h_t, .inr (5, fX6 h_t_bytes t_size t_start t_value t_next t_word h_t_numbers)), (h_t_bytes, .inl (cI, 240, .inl t_bytes)), (h_t_numbers, .inl (cI, 4, .inl t_numbers))] [(h_t, .inr (5, fX6 h_t_bytes t_size o1 o2 o3 o4 h_t_numbers)), (h_t_bytes, .inl (cI, 240, .inl t_bytes)), (h_t_numbers, .inl (cI, 4, .inl o5))] (some (.int o0)) := by
  refine CM_of (cc := cX6_faultPlace) (maxL := 3) (ret := (some .int)) (by decide +kernel) rfl (Nat.le_of_ble_eq_true rfl) ?_
  intro p e s m args below meth c A Q hx hb hr hml hown hts hlocks hA hK hP hD hS hE hQ hAe ls hl
  have hown : s.vm.findClass RX6 = some m.cls := hown
  have hl : lv_has ls 3 [(0, .ref h_t)] := hl
  unfold f_X6_faultPlace at hf
  refine lv_aload_n hx hb dX6_faultPlace_0 rfl (lv_at hl 0 rfl) ?_
  obtain ⟨x1, hg2, hf⟩ := bd1_some hf
  refine CM_callV (C := RX6) (As := []) (rest := []) (wc := [(h_t, .inr (5, fX6 h_t_bytes t_size t_start t_value t_next t_word h_t_numbers))]) (w1 := [(h_t, .inr (5, fX6 h_t_bytes t_size t_start t_value x1 t_word h_t_numbers))]) (wr := [(h_t_bytes, .inl (cI, 240, .inl t_bytes)), (h_t_numbers, .inl (cI, 4, .inl t_numbers))]) (wo := [(h_t, .inr (5, fX6 h_t_bytes t_size t_start t_value x1 t_word h_t_numbers)), (h_t_bytes, .inl (cI, 240, .inl t_bytes)), (h_t_numbers, .inl (cI, 4, .inl t_numbers))]) (v := (none)) ⟨hx, hb, hml, hown, hts⟩ (c_X6_goToStart l dC dI cI cZ te h_t h_t_bytes h_t_numbers t_size t_start t_value t_next t_word x1 hg2) (cwV 0 hts gX6_faultPlace_X6_goToStart rfl rfl rfl (by decide +kernel) ⟨Nat.le_of_ble_eq_true rfl, Nat.le_of_ble_eq_true rfl⟩) (kS_env te) hK hP hD hS hA hE [0] [1, 2] [2, 0, 1] rfl rfl (by decide) (by decide) (by decide) (by decide) rfl 0 5 rfl rfl rfl rfl hl.1 rfl (Nat.le_of_ble_eq_true rfl) dX6_faultPlace_1 ⟨Nat.zero_le _, Nat.zero_le _⟩ (fun H locs hP hD hS => ?_)
  show W p l e rmX6_faultPlace s m args below meth c H locs 0 0 Q (F0 m 4 ls [])
  refine lv_iconst (v := (1 : Int32)) hx hb dX6_faultPlace_4 (by decide) ?_
  refine lv_istore_n (lv' := [(1, .int (1 : Int32)), (0, .ref h_t)]) hx hb dX6_faultPlace_5 rfl hl (by decide) rfl (fun ls hl => ?_)
  refine lv_iconst (v := (0 : Int32)) hx hb dX6_faultPlace_6 (by decide) ?_
  refine lv_istore_n (lv' := [(2, .int (0 : Int32)), (1, .int (1 : Int32)), (0, .ref h_t)]) hx hb dX6_faultPlace_7 rfl hl (by decide) rfl (fun ls hl => ?_)
  have L44 : ∀ (fu33 : Nat) (y25 : Nat → Int32) (x26 : Int32) (x27 : Int32) (x28 : Int32) (x29 : Int32) (x30 : Int32) (x31 : Int32) (y19 : Nat → Int32) (x20 : Int32) (x21 : Int32) (x22 : Int32) (x23 : Int32) (x24 : Int32), f_X6_faultPlace_L1 t_size t_bytes fu33 y25 x26 x27 x28 x29 x30 x31 = some (y19, x20, x21, x22, x23, x24) → (∀ (H : Heap) (locs : List Loc), va_P (dC, dI) vwCl [(h_t, .inr (5, fX6 h_t_bytes t_size x20 x21 x22 x23 h_t_numbers)), (h_t_bytes, .inl (cI, 240, .inl t_bytes)), (h_t_numbers, .inl (cI, 4, .inl y19))] H → va_D A [(h_t, .inr (5, fX6 h_t_bytes t_size x20 x21 x22 x23 h_t_numbers)), (h_t_bytes, .inl (cI, 240, .inl t_bytes)), (h_t_numbers, .inl (cI, 4, .inl y19))] → va_S A s.heap H locs → ∀ ls : Array Slot, lv_has ls 3 [(0, .ref h_t), (1, .int x24)] → W p l e rmX6_faultPlace s m args below meth c H locs 0 0 Q (F0 m 31 ls [])) → ∀ (H : Heap) (locs : List Loc), va_P (dC, dI) vwCl [(h_t, .inr (5, fX6 h_t_bytes t_size x26 x27 x28 x29 h_t_numbers)), (h_t_bytes, .inl (cI, 240, .inl t_bytes)), (h_t_numbers, .inl (cI, 4, .inl y25))] H → va_D A [(h_t, .inr (5, fX6 h_t_bytes t_size x26 x27 x28 x29 h_t_numbers)), (h_t_bytes, .inl (cI, 240, .inl t_bytes)), (h_t_numbers, .inl (cI, 4, .inl y25))] → va_S A s.heap H locs → ∀ ls : Array Slot, lv_has ls 3 [(0, .ref h_t), (1, .int x30), (2, .int x31)] → W p l e rmX6_faultPlace s m args below meth c H locs 0 0 Q (F0 m 8 ls []) := by
    intro fu33
    induction fu33 with
    | zero =>
      intro y25 x26 x27 x28 x29 x30 x31 y19 x20 x21 x22 x23 x24 hf
      unfold f_X6_faultPlace_L1 at hf
      exact none_ne hf
    | succ fu33 ih32 =>
      intro y25 x26 x27 x28 x29 x30 x31 y19 x20 x21 x22 x23 x24 hf hX34 H locs hP hD hS ls hl
      unfold f_X6_faultPlace_L1 at hf
      refine lv_iload_n hx hb dX6_faultPlace_8 rfl (lv_at hl 2 rfl) ?_
      refine lv_sipush (v := (240 : Int32)) hx hb dX6_faultPlace_9 (by decide) ?_
      refine lv_icmp_gt (tgt := 31) hx hb dX6_faultPlace_12 (by decide) (fun c35 => ?_) (fun c35 => ?_)
      · replace hf := ifp c35 hf
        obtain ⟨rfl, rfl, rfl, rfl, rfl, rfl⟩ := inj6 hf
        exact hX34 _ _ hP hD hS _ (lv_sub hl [0, 1] rfl)
      · replace hf := ifn c35 hf
        refine lv_iload_n hx hb dX6_faultPlace_15 rfl (lv_at hl 1 rfl) ?_
        refine lv_iconst (v := (1 : Int32)) hx hb dX6_faultPlace_16 (by decide) ?_
        refine lv_icmp_ne (tgt := 31) hx hb dX6_faultPlace_17 (by decide) (fun c36 => ?_) (fun c36 => ?_)
        · replace hf := ifn c36 hf
          obtain ⟨rfl, rfl, rfl, rfl, rfl, rfl⟩ := inj6 hf
          exact hX34 _ _ hP hD hS _ (lv_sub hl [0, 1] rfl)
        · replace hf := ifp c36 hf
          refine lv_aload_n hx hb dX6_faultPlace_20 rfl (lv_at hl 0 rfl) ?_
          obtain ⟨r37, x38, x39, x40, x41, y42, hg43, hf⟩ := bd6_some hf
          refine CM_callV (C := RX6) (As := []) (rest := []) (wc := [(h_t, .inr (5, fX6 h_t_bytes t_size x26 x27 x28 x29 h_t_numbers)), (h_t_bytes, .inl (cI, 240, .inl t_bytes)), (h_t_numbers, .inl (cI, 4, .inl y25))]) (w1 := [(h_t, .inr (5, fX6 h_t_bytes t_size x38 x39 x40 x41 h_t_numbers)), (h_t_bytes, .inl (cI, 240, .inl t_bytes)), (h_t_numbers, .inl (cI, 4, .inl y42))]) (wr := []) (wo := [(h_t, .inr (5, fX6 h_t_bytes t_size x38 x39 x40 x41 h_t_numbers)), (h_t_bytes, .inl (cI, 240, .inl t_bytes)), (h_t_numbers, .inl (cI, 4, .inl y42))]) (v := (some (.int r37))) ⟨hx, hb, hml, hown, hts⟩ (c_X6_takeItem l dC dI cI cZ te h_t h_t_bytes h_t_numbers t_size x26 x27 x28 x29 t_bytes y25 r37 x38 x39 x40 x41 y42 hg43) (cwV 0 hts gX6_faultPlace_X6_takeItem rfl rfl rfl (by decide +kernel) ⟨Nat.le_of_ble_eq_true rfl, Nat.le_of_ble_eq_true rfl⟩) (kS_env te) hK hP hD hS hA hE [0, 1, 2] [] [0, 1, 2] rfl rfl (by decide) (by decide) (by decide) (by decide) rfl 0 5 rfl rfl rfl rfl hl.1 rfl (Nat.le_of_ble_eq_true rfl) dX6_faultPlace_21 ⟨Nat.zero_le _, Nat.zero_le _⟩ (fun H locs hP hD hS => ?_)
          show W p l e rmX6_faultPlace s m args below meth c H locs 0 0 Q (F0 m 24 ls [.int r37])
          refine lv_istore_n (lv' := [(1, .int r37), (0, .ref h_t), (2, .int x31)]) hx hb dX6_faultPlace_24 rfl hl (by decide) rfl (fun ls hl => ?_)
          refine lv_iinc (v := (x31 + (1 : Int32))) (lv' := [(2, .int (x31 + (1 : Int32))), (1, .int r37), (0, .ref h_t)]) hx hb dX6_faultPlace_25 hl (k := 2) rfl rfl (by decide) rfl (fun ls hl => ?_)
          refine lv_goto (tgt := 8) hx hb dX6_faultPlace_28 (by decide) ?_
          exact ih32 _ _ _ _ _ _ _ _ _ _ _ _ _ hf hX34 _ _ hP hD hS _ (lv_sub hl [2, 1, 0] rfl)
  obtain ⟨y19, x20, x21, x22, x23, x24, hg, hf⟩ := bd6_some hf
  refine L44 FU _ _ _ _ _ _ _ _ _ _ _ _ _ hg ?_ _ _ hP hD hS _ (lv_sub hl [2, 1, 0] rfl)
  · intro H locs hP hD hS ls hl
    refine lv_iload_n hx hb dX6_faultPlace_31 rfl (lv_at hl 1 rfl) ?_
    refine lv_iconst (v := (-1 : Int32)) hx hb dX6_faultPlace_32 (by decide) ?_
    refine lv_icmp_ne (tgt := 43) hx hb dX6_faultPlace_33 (by decide) (fun c45 => ?_) (fun c45 => ?_)
    · replace hf := ifn c45 hf
      refine lv_iconst (v := (-1 : Int32)) hx hb dX6_faultPlace_43 (by decide) ?_
      obtain ⟨rfl, rfl, rfl, rfl, rfl, rfl⟩ := inj6 hf
      subst hQ
      exact CM_iret hx hb hr rfl hlocks hAe hP hD hS dX6_faultPlace_44
    · replace hf := ifp c45 hf
      refine lv_aload_n hx hb dX6_faultPlace_36 rfl (lv_at hl 0 rfl) ?_
      refine va_get (D := (dC, dI)) (ci := 5) (v := .int x20) (C := RX6) (T := TX6) (N := 7) hx hb hts kX6_faultPlace_0 hown hK hP 0 rfl rfl 2 (by decide) (hts _ kX6_faultPlace_1) (fun _ h9 => h9) rfl dX6_faultPlace_37 ?_
      refine lv_goto (tgt := 44) hx hb dX6_faultPlace_40 (by decide) ?_
      obtain ⟨rfl, rfl, rfl, rfl, rfl, rfl⟩ := inj6 hf
      subst hQ
      exact CM_iret hx hb hr rfl hlocks hAe hP hD hS dX6_faultPlace_44
def rmX6_word : Room := { frames := 0, cells := 0, slots := 0, locals := 0 }
set_option maxRecDepth 20000 in
theorem kX6_word_0 : ∀ w ∈ u_ws RX6 TX6 7, w ∈ wsX6_word := by decide +kernel
set_option maxRecDepth 20000 in
theorem kX6_word_1 : Cond.fieldLink RX6 37 "StoneRiver$Text" "word" "I" ∈ wsX6_word := by decide +kernel
set_option maxHeartbeats 4000000 in
set_option maxRecDepth 100000 in
theorem c_X6_word (l : Launch) (dC : Nat → ClassId) (dI : Nat → Nat → Nat) (cI cZ : ClassId) (te : Nat → Nat) (h_t : Nat) (h_t_bytes : Nat) (h_t_numbers : Nat) (t_size : Int32) (t_start : Int32) (t_value : Int32) (t_next : Int32) (t_word : Int32) (o0 : Int32) (hf : f_X6_word t_word = some o0) : CM l yX6_word wsX6_word rmX6_word (kS te) dC dI cI cZ [.ref h_t] [(h_t, .inr (5, fX6 h_t_bytes t_size t_start t_value t_next t_word h_t_numbers))] [(h_t, .inr (5, fX6 h_t_bytes t_size t_start t_value t_next t_word h_t_numbers))] (some (.int o0)) := by
  refine CM_of (cc := cX6_word) (maxL := 1) (ret := (some .int)) (by decide +kernel) rfl (Nat.le_of_ble_eq_true rfl) ?_
  intro p e s m args below meth c A Q hx hb hr hml hown hts hlocks hA hK hP hD hS hE hQ hAe ls hl
  have hown : s.vm.findClass RX6 = some m.cls := hown
  have hl : lv_has ls 1 [(0, .ref h_t)] := hl
  unfold f_X6_word at hf
  refine lv_aload_n hx hb dX6_word_0 rfl (lv_at hl 0 rfl) ?_
  refine va_get (D := (dC, dI)) (ci := 5) (v := .int t_word) (C := RX6) (T := TX6) (N := 7) hx hb hts kX6_word_0 hown hK hP 0 rfl rfl 5 (by decide) (hts _ kX6_word_1) (fun _ h9 => h9) rfl dX6_word_1 ?_
  obtain rfl := inj1 hf
  subst hQ
  exact CM_iret hx hb hr rfl hlocks hAe hP hD hS dX6_word_4
def rmX6_number : Room := { frames := 0, cells := 0, slots := 0, locals := 0 }
set_option maxRecDepth 20000 in
theorem kX6_number_0 : ∀ w ∈ u_ws RX6 TX6 7, w ∈ wsX6_number := by decide +kernel
set_option maxRecDepth 20000 in
theorem kX6_number_1 : Cond.fieldLink RX6 15 "StoneRiver$Text" "numbers" "[I" ∈ wsX6_number := by decide +kernel
set_option maxHeartbeats 4000000 in
set_option maxRecDepth 100000 in
theorem c_X6_number (l : Launch) (dC : Nat → ClassId) (dI : Nat → Nat → Nat) (cI cZ : ClassId) (te : Nat → Nat) (h_t : Nat) (h_t_bytes : Nat) (h_t_numbers : Nat) (t_size : Int32) (t_start : Int32) (t_value : Int32) (t_next : Int32) (t_word : Int32) (t_numbers : Nat → Int32) (p1 : Int32) (o0 : Int32) (hf : f_X6_number t_numbers p1 = some o0) : CM l yX6_number wsX6_number rmX6_number (kS te) dC dI cI cZ [.ref h_t, .int p1] [(h_t, .inr (5, fX6 h_t_bytes t_size t_start t_value t_next t_word h_t_numbers)), (h_t_numbers, .inl (cI, 4, .inl t_numbers))] [(h_t, .inr (5, fX6 h_t_bytes t_size t_start t_value t_next t_word h_t_numbers)), (h_t_numbers, .inl (cI, 4, .inl t_numbers))] (some (.int o0)) := by
  refine CM_of (cc := cX6_number) (maxL := 2) (ret := (some .int)) (by decide +kernel) rfl (Nat.le_of_ble_eq_true rfl) ?_
  intro p e s m args below meth c A Q hx hb hr hml hown hts hlocks hA hK hP hD hS hE hQ hAe ls hl
  have hown : s.vm.findClass RX6 = some m.cls := hown
  have hl : lv_has ls 2 [(0, .ref h_t), (1, .int p1)] := hl
  unfold f_X6_number at hf
  refine lv_iload_n hx hb dX6_number_0 rfl (lv_at hl 1 rfl) ?_
  refine lv_if_lt (tgt := 22) hx hb dX6_number_1 (by decide) (fun c1 => ?_) (fun c1 => ?_)
  · replace hf := ifp c1 hf
    refine lv_iconst (v := (-1 : Int32)) hx hb dX6_number_22 (by decide) ?_
    obtain rfl := inj1 hf
    subst hQ
    exact CM_iret hx hb hr rfl hlocks hAe hP hD hS dX6_number_23
  · replace hf := ifn c1 hf
    refine lv_iload_n hx hb dX6_number_4 rfl (lv_at hl 1 rfl) ?_
    refine lv_aload_n hx hb dX6_number_5 rfl (lv_at hl 0 rfl) ?_
    refine va_get (D := (dC, dI)) (ci := 5) (v := .ref h_t_numbers) (C := RX6) (T := TX6) (N := 7) hx hb hts kX6_number_0 hown hK hP 0 rfl rfl 6 (by decide) (hts _ kX6_number_1) (fun _ h9 => h9) rfl dX6_number_6 ?_
    refine va_alen hx hb hK hP 1 0 rfl rfl (v := (4 : Int32)) (show Int32.ofNat 4 = (4 : Int32) from by decide) dX6_number_9 ?_
    refine lv_icmp_ge (tgt := 22) hx hb dX6_number_10 (by decide) (fun c2 => ?_) (fun c2 => ?_)
    · replace hf := ifp c2 hf
      refine lv_iconst (v := (-1 : Int32)) hx hb dX6_number_22 (by decide) ?_
      obtain rfl := inj1 hf
      subst hQ
      exact CM_iret hx hb hr rfl hlocks hAe hP hD hS dX6_number_23
    · replace hf := ifn c2 hf
      refine lv_aload_n hx hb dX6_number_13 rfl (lv_at hl 0 rfl) ?_
      refine va_get (D := (dC, dI)) (ci := 5) (v := .ref h_t_numbers) (C := RX6) (T := TX6) (N := 7) hx hb hts kX6_number_0 hown hK hP 0 rfl rfl 6 (by decide) (hts _ kX6_number_1) (fun _ h9 => h9) rfl dX6_number_14 ?_
      refine lv_iload_n hx hb dX6_number_17 rfl (lv_at hl 1 rfl) ?_
      obtain ⟨g3, hf⟩ := chk_some hf
      refine va_iald hx hb hK hP 1 0 rfl rfl (gin_in g3) dX6_number_18 ?_
      refine lv_goto (tgt := 23) hx hb dX6_number_19 (by decide) ?_
      obtain rfl := inj1 hf
      subst hQ
      exact CM_iret hx hb hr rfl hlocks hAe hP hD hS dX6_number_23
def rmX7_fewestDownFrom : Room := { frames := 1, cells := 0, slots := 0, locals := 21 }
set_option maxRecDepth 20000 in
theorem kX7_fewestDownFrom_0 : Cond.constant RX7 62 (1000000) ∈ wsX7_fewestDownFrom := by decide +kernel
set_option maxRecDepth 20000 in
theorem kX7_fewestDownFrom_1 : ∀ w ∈ u_ws RX7 TX7 3, w ∈ wsX7_fewestDownFrom := by decide +kernel
set_option maxRecDepth 20000 in
theorem kX7_fewestDownFrom_2 : Cond.fieldLink RX7 15 "StoneRiver$Valley" "stepsToGoal" "[I" ∈ wsX7_fewestDownFrom := by decide +kernel
set_option maxRecDepth 20000 in
theorem kX7_fewestDownFrom_3 : Cond.methodLink RX7 75 Lib.Math.min.name ∈ wsX7_fewestDownFrom := by decide +kernel
set_option maxRecDepth 20000 in
theorem kX7_fewestDownFrom_4 : Cond.static Lib.Math.min.name ∈ wsX7_fewestDownFrom := by decide +kernel
set_option maxRecDepth 20000 in
theorem kX7_fewestDownFrom_5 : Cond.initialized "java/lang/Math" ∈ wsX7_fewestDownFrom := by decide +kernel
set_option maxRecDepth 20000 in
theorem kX7_fewestDownFrom_6 : Cond.code Lib.Math.min.name Lib.Math.min.code 2 (some .int) ∈ wsX7_fewestDownFrom := by decide +kernel
set_option maxRecDepth 20000 in
theorem kX7_fewestDownFrom_7 : Cond.fieldLink RX7 11 "StoneRiver$Valley" "next" "[I" ∈ wsX7_fewestDownFrom := by decide +kernel
set_option maxHeartbeats 4000000 in
set_option maxRecDepth 100000 in
theorem c_X7_fewestDownFrom (l : Launch) (dC : Nat → ClassId) (dI : Nat → Nat → Nat) (cI cZ : ClassId) (te : Nat → Nat) (h_t : Nat) (h_t_next : Nat) (h_t_stepsToGoal : Nat) (h_t_stepsFromEarlier : Nat) (t_stepsToGoal : Nat → Int32) (t_next : Nat → Int32) (p1 : Int32) (o0 : Int32) (hf : f_X7_fewestDownFrom t_stepsToGoal t_next p1 = some o0) : CM l yX7_fewestDownFrom wsX7_fewestDownFrom rmX7_fewestDownFrom (kS te) dC dI cI cZ [.ref h_t, .int p1] [(h_t, .inr (6, fX7 h_t_next h_t_stepsToGoal h_t_stepsFromEarlier)), (h_t_stepsToGoal, .inl (cI, 64, .inl t_stepsToGoal)), (h_t_next, .inl (cI, 64, .inl t_next))] [(h_t, .inr (6, fX7 h_t_next h_t_stepsToGoal h_t_stepsFromEarlier)), (h_t_stepsToGoal, .inl (cI, 64, .inl t_stepsToGoal)), (h_t_next, .inl (cI, 64, .inl t_next))] (some (.int o0)) := by
  refine CM_of (cc := cX7_fewestDownFrom) (maxL := 5) (ret := (some .int)) (by decide +kernel) rfl (Nat.le_of_ble_eq_true rfl) ?_
  intro p e s m args below meth c A Q hx hb hr hml hown hts hlocks hA hK hP hD hS hE hQ hAe ls hl
  have hown : s.vm.findClass RX7 = some m.cls := hown
  have hl : lv_has ls 5 [(0, .ref h_t), (1, .int p1)] := hl
  unfold f_X7_fewestDownFrom at hf
  refine lv_ldc (v := (1000000 : Int32)) hx hb hown (hts _ kX7_fewestDownFrom_0) dX7_fewestDownFrom_0 ?_
  refine lv_istore_n (lv' := [(2, .int (1000000 : Int32)), (0, .ref h_t), (1, .int p1)]) hx hb dX7_fewestDownFrom_2 rfl hl (by decide) rfl (fun ls hl => ?_)
  refine lv_iload_n hx hb dX7_fewestDownFrom_3 rfl (lv_at hl 2 rfl) ?_
  refine lv_istore_n (lv' := [(3, .int p1), (2, .int (1000000 : Int32)), (0, .ref h_t), (1, .int p1)]) hx hb dX7_fewestDownFrom_4 rfl hl (by decide) rfl (fun ls hl => ?_)
  refine lv_iconst (v := (0 : Int32)) hx hb dX7_fewestDownFrom_5 (by decide) ?_
  refine lv_istore (lv' := [(4, .int (0 : Int32)), (3, .int p1), (2, .int (1000000 : Int32)), (0, .ref h_t), (1, .int p1)]) hx hb dX7_fewestDownFrom_6 hl (by decide) rfl (fun ls hl => ?_)
  have L29 : ∀ (fu18 : Nat) (x14 : Int32) (x15 : Int32) (x16 : Int32) (x13 : Int32), f_X7_fewestDownFrom_L1 t_stepsToGoal t_next fu18 x14 x15 x16 = some x13 → (∀ (H : Heap) (locs : List Loc), va_P (dC, dI) vwCl [(h_t, .inr (6, fX7 h_t_next h_t_stepsToGoal h_t_stepsFromEarlier)), (h_t_stepsToGoal, .inl (cI, 64, .inl t_stepsToGoal)), (h_t_next, .inl (cI, 64, .inl t_next))] H → va_D A [(h_t, .inr (6, fX7 h_t_next h_t_stepsToGoal h_t_stepsFromEarlier)), (h_t_stepsToGoal, .inl (cI, 64, .inl t_stepsToGoal)), (h_t_next, .inl (cI, 64, .inl t_next))] → va_S A s.heap H locs → ∀ ls : Array Slot, lv_has ls 5 [(2, .int x13)] → W p l e rmX7_fewestDownFrom s m args below meth c H locs 0 0 Q (F0 m 52 ls [])) → ∀ (H : Heap) (locs : List Loc), va_P (dC, dI) vwCl [(h_t, .inr (6, fX7 h_t_next h_t_stepsToGoal h_t_stepsFromEarlier)), (h_t_stepsToGoal, .inl (cI, 64, .inl t_stepsToGoal)), (h_t_next, .inl (cI, 64, .inl t_next))] H → va_D A [(h_t, .inr (6, fX7 h_t_next h_t_stepsToGoal h_t_stepsFromEarlier)), (h_t_stepsToGoal, .inl (cI, 64, .inl t_stepsToGoal)), (h_t_next, .inl (cI, 64, .inl t_next))] → va_S A s.heap H locs → ∀ ls : Array Slot, lv_has ls 5 [(0, .ref h_t), (2, .int x14), (3, .int x15), (4, .int x16)] → W p l e rmX7_fewestDownFrom s m args below meth c H locs 0 0 Q (F0 m 8 ls []) := by
    intro fu18
    induction fu18 with
    | zero =>
      intro x14 x15 x16 x13 hf
      unfold f_X7_fewestDownFrom_L1 at hf
      exact none_ne hf
    | succ fu18 ih17 =>
      intro x14 x15 x16 x13 hf hX19 H locs hP hD hS ls hl
      unfold f_X7_fewestDownFrom_L1 at hf
      refine lv_iload hx hb dX7_fewestDownFrom_8 (lv_at hl 3 rfl) ?_
      refine lv_bipush (v := (64 : Int32)) hx hb dX7_fewestDownFrom_10 (by decide) ?_
      refine lv_icmp_ge (tgt := 52) hx hb dX7_fewestDownFrom_12 (by decide) (fun c20 => ?_) (fun c20 => ?_)
      · replace hf := ifp c20 hf
        obtain rfl := inj1 hf
        exact hX19 _ _ hP hD hS _ (lv_sub hl [1] rfl)
      · replace hf := ifn c20 hf
        refine lv_iload_n hx hb dX7_fewestDownFrom_15 rfl (lv_at hl 2 rfl) ?_
        refine lv_if_lt (tgt := 52) hx hb dX7_fewestDownFrom_16 (by decide) (fun c21 => ?_) (fun c21 => ?_)
        · replace hf := ifp c21 hf
          obtain rfl := inj1 hf
          exact hX19 _ _ hP hD hS _ (lv_sub hl [1] rfl)
        · replace hf := ifn c21 hf
          refine lv_iload_n hx hb dX7_fewestDownFrom_19 rfl (lv_at hl 2 rfl) ?_
          refine lv_bipush (v := (64 : Int32)) hx hb dX7_fewestDownFrom_20 (by decide) ?_
          refine lv_icmp_ge (tgt := 52) hx hb dX7_fewestDownFrom_22 (by decide) (fun c22 => ?_) (fun c22 => ?_)
          · replace hf := ifp c22 hf
            obtain rfl := inj1 hf
            exact hX19 _ _ hP hD hS _ (lv_sub hl [1] rfl)
          · replace hf := ifn c22 hf
            refine lv_iload_n hx hb dX7_fewestDownFrom_25 rfl (lv_at hl 1 rfl) ?_
            refine lv_iload hx hb dX7_fewestDownFrom_26 (lv_at hl 3 rfl) ?_
            refine lv_aload_n hx hb dX7_fewestDownFrom_28 rfl (lv_at hl 0 rfl) ?_
            refine va_get (D := (dC, dI)) (ci := 6) (v := .ref h_t_stepsToGoal) (C := RX7) (T := TX7) (N := 3) hx hb hts kX7_fewestDownFrom_1 hown hK hP 0 rfl rfl 1 (by decide) (hts _ kX7_fewestDownFrom_2) (fun _ h9 => h9) rfl dX7_fewestDownFrom_29 ?_
            refine lv_iload_n hx hb dX7_fewestDownFrom_32 rfl (lv_at hl 2 rfl) ?_
            obtain ⟨g23, hf⟩ := chk_some hf
            refine va_iald hx hb hK hP 1 0 rfl rfl (gin_in g23) dX7_fewestDownFrom_33 ?_
            refine lv_iadd hx hb dX7_fewestDownFrom_34 ?_
            refine va_mmin hx hb (hml.trans hl.1.symm) hown (hts _ kX7_fewestDownFrom_3) (hts _ kX7_fewestDownFrom_4) (hts _ kX7_fewestDownFrom_5) (hts _ kX7_fewestDownFrom_6) (Nat.le_of_ble_eq_true rfl) (Nat.le_of_ble_eq_true rfl) (Nat.zero_le _) (Nat.zero_le _) dX7_fewestDownFrom_35 ?_
            obtain ⟨x24, e25, hf⟩ := nm_some hf
            refine lv_tope e25 ?_
            refine lv_istore_n (lv' := [(2, .int x24), (0, .ref h_t), (3, .int x15), (4, .int x16)]) hx hb dX7_fewestDownFrom_38 rfl hl (by decide) rfl (fun ls hl => ?_)
            refine lv_aload_n hx hb dX7_fewestDownFrom_39 rfl (lv_at hl 1 rfl) ?_
            refine va_get (D := (dC, dI)) (ci := 6) (v := .ref h_t_next) (C := RX7) (T := TX7) (N := 3) hx hb hts kX7_fewestDownFrom_1 hown hK hP 0 rfl rfl 0 (by decide) (hts _ kX7_fewestDownFrom_7) (fun _ h9 => h9) rfl dX7_fewestDownFrom_40 ?_
            refine lv_iload_n hx hb dX7_fewestDownFrom_43 rfl (lv_at hl 2 rfl) ?_
            obtain ⟨g26, hf⟩ := chk_some hf
            refine va_iald hx hb hK hP 2 0 rfl rfl (gin_in g26) dX7_fewestDownFrom_44 ?_
            obtain ⟨x27, e28, hf⟩ := nm_some hf
            refine lv_tope e28 ?_
            refine lv_istore_n (lv' := [(3, .int x27), (2, .int x24), (0, .ref h_t), (4, .int x16)]) hx hb dX7_fewestDownFrom_45 rfl hl (by decide) rfl (fun ls hl => ?_)
            refine lv_iinc (v := (x16 + (1 : Int32))) (lv' := [(4, .int (x16 + (1 : Int32))), (3, .int x27), (2, .int x24), (0, .ref h_t)]) hx hb dX7_fewestDownFrom_46 hl (k := 3) rfl rfl (by decide) rfl (fun ls hl => ?_)
            refine lv_goto (tgt := 8) hx hb dX7_fewestDownFrom_49 (by decide) ?_
            exact ih17 _ _ _ _ hf hX19 _ _ hP hD hS _ (lv_sub hl [3, 2, 1, 0] rfl)
  obtain ⟨x13, hg, hf⟩ := bd1_some hf
  refine L29 FU _ _ _ _ hg ?_ _ _ hP hD hS _ (lv_sub hl [3, 2, 1, 0] rfl)
  · intro H locs hP hD hS ls hl
    refine lv_iload_n hx hb dX7_fewestDownFrom_52 rfl (lv_at hl 0 rfl) ?_
    obtain rfl := inj1 hf
    subst hQ
    exact CM_iret hx hb hr rfl hlocks hAe hP hD hS dX7_fewestDownFrom_53
def rmX7_leadTo : Room := { frames := 2, cells := 0, slots := 0, locals := 50 }
set_option maxRecDepth 20000 in
theorem kX7_leadTo_0 : ∀ w ∈ u_ws RX7 TX7 3, w ∈ wsX7_leadTo := by decide +kernel
set_option maxRecDepth 20000 in
theorem kX7_leadTo_1 : Cond.fieldLink RX7 15 "StoneRiver$Valley" "stepsToGoal" "[I" ∈ wsX7_leadTo := by decide +kernel
set_option maxRecDepth 20000 in
theorem kX7_leadTo_2 : Cond.constant RX7 62 (1000000) ∈ wsX7_leadTo := by decide +kernel
set_option maxRecDepth 20000 in
theorem kX7_leadTo_3 : Cond.fieldLink RX7 11 "StoneRiver$Valley" "next" "[I" ∈ wsX7_leadTo := by decide +kernel
set_option maxRecDepth 20000 in
theorem kX7_leadTo_4 : Cond.fieldLink RX7 18 "StoneRiver$Valley" "stepsFromEarlier" "[I" ∈ wsX7_leadTo := by decide +kernel
set_option maxRecDepth 20000 in
theorem kX7_leadTo_5 : Cond.methodLink RX7 69 arraycopyName ∈ wsX7_leadTo := by decide +kernel
set_option maxRecDepth 20000 in
theorem kX7_leadTo_6 : Cond.native arraycopyName ∈ wsX7_leadTo := by decide +kernel
set_option maxRecDepth 20000 in
theorem kX7_leadTo_7 : Cond.static arraycopyName ∈ wsX7_leadTo := by decide +kernel
set_option maxRecDepth 20000 in
theorem kX7_leadTo_8 : Cond.initialized "java/lang/System" ∈ wsX7_leadTo := by decide +kernel
set_option maxHeartbeats 4000000 in
set_option maxRecDepth 100000 in
theorem c_X7_leadTo (l : Launch) (dC : Nat → ClassId) (dI : Nat → Nat → Nat) (cI cZ : ClassId) (te : Nat → Nat) (h_t : Nat) (h_p1 : Nat) (h_t_next : Nat) (h_t_stepsToGoal : Nat) (h_t_stepsFromEarlier : Nat) (t_stepsToGoal : Nat → Int32) (n_p1 : Nat) (p1 : Nat → Int32) (t_next : Nat → Int32) (t_stepsFromEarlier : Nat → Int32) (p2 : Int32) (o0 : Nat → Int32) (o1 : Nat → Int32) (o2 : Nat → Int32) (hf : f_X7_leadTo t_stepsToGoal n_p1 p1 t_next t_stepsFromEarlier p2 = some (o0, o1, o2)) : CM l yX7_leadTo wsX7_leadTo rmX7_leadTo (kS te) dC dI cI cZ [.ref h_t, .ref h_p1, .int p2] [(h_t, .inr (6, fX7 h_t_next h_t_stepsToGoal h_t_stepsFromEarlier)), (h_t_stepsToGoal, .inl (cI, 64, .inl t_stepsToGoal)), (h_p1, .inl (cI, n_p1, .inl p1)), (h_t_next, .inl (cI, 64, .inl t_next)), (h_t_stepsFromEarlier, .inl (cI, 64, .inl t_stepsFromEarlier))] [(h_t, .inr (6, fX7 h_t_next h_t_stepsToGoal h_t_stepsFromEarlier)), (h_t_stepsToGoal, .inl (cI, 64, .inl o0)), (h_p1, .inl (cI, n_p1, .inl p1)), (h_t_next, .inl (cI, 64, .inl o1)), (h_t_stepsFromEarlier, .inl (cI, 64, .inl o2))] none := by
  refine CM_of (cc := cX7_leadTo) (maxL := 5) (ret := none) (by decide +kernel) rfl (Nat.le_of_ble_eq_true rfl) ?_
  intro p e s m args below meth c A Q hx hb hr hml hown hts hlocks hA hK hP hD hS hE hQ hAe ls hl
  have hown : s.vm.findClass RX7 = some m.cls := hown
  have hl : lv_has ls 5 [(0, .ref h_t), (1, .ref h_p1), (2, .int p2)] := hl
  unfold f_X7_leadTo at hf
  refine lv_iconst (v := (0 : Int32)) hx hb dX7_leadTo_0 (by decide) ?_
  refine lv_istore_n (lv' := [(3, .int (0 : Int32)), (0, .ref h_t), (1, .ref h_p1), (2, .int p2)]) hx hb dX7_leadTo_1 rfl hl (by decide) rfl (fun ls hl => ?_)
  have L23 : ∀ (fu14 : Nat) (y11 : Nat → Int32) (x12 : Int32) (y10 : Nat → Int32), f_X7_leadTo_L1 p2 fu14 y11 x12 = some y10 → (∀ (H : Heap) (locs : List Loc), va_P (dC, dI) vwCl [(h_t, .inr (6, fX7 h_t_next h_t_stepsToGoal h_t_stepsFromEarlier)), (h_t_stepsToGoal, .inl (cI, 64, .inl y10)), (h_p1, .inl (cI, n_p1, .inl p1)), (h_t_next, .inl (cI, 64, .inl t_next)), (h_t_stepsFromEarlier, .inl (cI, 64, .inl t_stepsFromEarlier))] H → va_D A [(h_t, .inr (6, fX7 h_t_next h_t_stepsToGoal h_t_stepsFromEarlier)), (h_t_stepsToGoal, .inl (cI, 64, .inl y10)), (h_p1, .inl (cI, n_p1, .inl p1)), (h_t_next, .inl (cI, 64, .inl t_next)), (h_t_stepsFromEarlier, .inl (cI, 64, .inl t_stepsFromEarlier))] → va_S A s.heap H locs → ∀ ls : Array Slot, lv_has ls 5 [(0, .ref h_t), (1, .ref h_p1)] → W p l e rmX7_leadTo s m args below meth c H locs 0 0 Q (F0 m 31 ls [])) → ∀ (H : Heap) (locs : List Loc), va_P (dC, dI) vwCl [(h_t, .inr (6, fX7 h_t_next h_t_stepsToGoal h_t_stepsFromEarlier)), (h_t_stepsToGoal, .inl (cI, 64, .inl y11)), (h_p1, .inl (cI, n_p1, .inl p1)), (h_t_next, .inl (cI, 64, .inl t_next)), (h_t_stepsFromEarlier, .inl (cI, 64, .inl t_stepsFromEarlier))] H → va_D A [(h_t, .inr (6, fX7 h_t_next h_t_stepsToGoal h_t_stepsFromEarlier)), (h_t_stepsToGoal, .inl (cI, 64, .inl y11)), (h_p1, .inl (cI, n_p1, .inl p1)), (h_t_next, .inl (cI, 64, .inl t_next)), (h_t_stepsFromEarlier, .inl (cI, 64, .inl t_stepsFromEarlier))] → va_S A s.heap H locs → ∀ ls : Array Slot, lv_has ls 5 [(0, .ref h_t), (1, .ref h_p1), (2, .int p2), (3, .int x12)] → W p l e rmX7_leadTo s m args below meth c H locs 0 0 Q (F0 m 2 ls []) := by
    intro fu14
    induction fu14 with
    | zero =>
      intro y11 x12 y10 hf
      unfold f_X7_leadTo_L1 at hf
      exact none_ne hf
    | succ fu14 ih13 =>
      intro y11 x12 y10 hf hX15 H locs hP hD hS ls hl
      unfold f_X7_leadTo_L1 at hf
      refine lv_iload_n hx hb dX7_leadTo_2 rfl (lv_at hl 3 rfl) ?_
      refine lv_bipush (v := (64 : Int32)) hx hb dX7_leadTo_3 (by decide) ?_
      refine lv_icmp_ge (tgt := 31) hx hb dX7_leadTo_5 (by decide) (fun c16 => ?_) (fun c16 => ?_)
      · replace hf := ifp c16 hf
        obtain rfl := inj1 hf
        exact hX15 _ _ hP hD hS _ (lv_sub hl [0, 1] rfl)
      · replace hf := ifn c16 hf
        refine lv_aload_n hx hb dX7_leadTo_8 rfl (lv_at hl 0 rfl) ?_
        refine va_get (D := (dC, dI)) (ci := 6) (v := .ref h_t_stepsToGoal) (C := RX7) (T := TX7) (N := 3) hx hb hts kX7_leadTo_0 hown hK hP 0 rfl rfl 1 (by decide) (hts _ kX7_leadTo_1) (fun _ h9 => h9) rfl dX7_leadTo_9 ?_
        refine lv_iload_n hx hb dX7_leadTo_12 rfl (lv_at hl 3 rfl) ?_
        refine lv_iload_n hx hb dX7_leadTo_13 rfl (lv_at hl 3 rfl) ?_
        refine lv_iload_n hx hb dX7_leadTo_14 rfl (lv_at hl 2 rfl) ?_
        obtain ⟨x17, hg, hf⟩ := bd1_some hf
        have J18 : ∀ (H : Heap) (locs : List Loc), va_P (dC, dI) vwCl [(h_t, .inr (6, fX7 h_t_next h_t_stepsToGoal h_t_stepsFromEarlier)), (h_t_stepsToGoal, .inl (cI, 64, .inl y11)), (h_p1, .inl (cI, n_p1, .inl p1)), (h_t_next, .inl (cI, 64, .inl t_next)), (h_t_stepsFromEarlier, .inl (cI, 64, .inl t_stepsFromEarlier))] H → va_D A [(h_t, .inr (6, fX7 h_t_next h_t_stepsToGoal h_t_stepsFromEarlier)), (h_t_stepsToGoal, .inl (cI, 64, .inl y11)), (h_p1, .inl (cI, n_p1, .inl p1)), (h_t_next, .inl (cI, 64, .inl t_next)), (h_t_stepsFromEarlier, .inl (cI, 64, .inl t_stepsFromEarlier))] → va_S A s.heap H locs → ∀ ls : Array Slot, lv_has ls 5 [(0, .ref h_t), (1, .ref h_p1), (2, .int p2), (3, .int x12)] → W p l e rmX7_leadTo s m args below meth c H locs 0 0 Q (F0 m 24 ls [.int x17, .int x12, .ref h_t_stepsToGoal]) := by
          intro H locs hP hD hS ls hl
          obtain ⟨g19, hf⟩ := chk_some hf
          obtain ⟨y20, e21, hf⟩ := nm_some hf
          refine va_iast hx hb hK hP hD hS 1 0 rfl rfl (gin_in g19) dX7_leadTo_24 (fun H locs hP hD hS => ?_)
          have hP : va_P (dC, dI) vwCl [(h_t, .inr (6, fX7 h_t_next h_t_stepsToGoal h_t_stepsFromEarlier)), (h_t_stepsToGoal, .inl (cI, 64, .inl y20)), (h_p1, .inl (cI, n_p1, .inl p1)), (h_t_next, .inl (cI, 64, .inl t_next)), (h_t_stepsFromEarlier, .inl (cI, 64, .inl t_stepsFromEarlier))] H := by rw [e21]; exact hP
          have hD : va_D A [(h_t, .inr (6, fX7 h_t_next h_t_stepsToGoal h_t_stepsFromEarlier)), (h_t_stepsToGoal, .inl (cI, 64, .inl y20)), (h_p1, .inl (cI, n_p1, .inl p1)), (h_t_next, .inl (cI, 64, .inl t_next)), (h_t_stepsFromEarlier, .inl (cI, 64, .inl t_stepsFromEarlier))] := by rw [e21]; exact hD
          refine lv_iinc (v := (x12 + (1 : Int32))) (lv' := [(3, .int (x12 + (1 : Int32))), (0, .ref h_t), (1, .ref h_p1), (2, .int p2)]) hx hb dX7_leadTo_25 hl (k := 3) rfl rfl (by decide) rfl (fun ls hl => ?_)
          refine lv_goto (tgt := 2) hx hb dX7_leadTo_28 (by decide) ?_
          exact ih13 _ _ _ hf hX15 _ _ hP hD hS _ (lv_sub hl [1, 2, 3, 0] rfl)
        clear hf
        have hf := hg
        refine lv_icmp_ne (tgt := 22) hx hb dX7_leadTo_15 (by decide) (fun c22 => ?_) (fun c22 => ?_)
        · replace hf := ifn c22 hf
          refine lv_ldc (v := (1000000 : Int32)) hx hb hown (hts _ kX7_leadTo_2) dX7_leadTo_22 ?_
          obtain rfl := inj1 hf
          exact J18 _ _ hP hD hS _ (lv_sub hl [0, 1, 2, 3] rfl)
        · replace hf := ifp c22 hf
          refine lv_iconst (v := (0 : Int32)) hx hb dX7_leadTo_18 (by decide) ?_
          refine lv_goto (tgt := 24) hx hb dX7_leadTo_19 (by decide) ?_
          obtain rfl := inj1 hf
          exact J18 _ _ hP hD hS _ (lv_sub hl [0, 1, 2, 3] rfl)
  obtain ⟨y10, hg, hf⟩ := bd1_some hf
  refine L23 FU _ _ _ hg ?_ _ _ hP hD hS _ (lv_sub hl [1, 2, 3, 0] rfl)
  · intro H locs hP hD hS ls hl
    refine lv_iconst (v := (2 : Int32)) hx hb dX7_leadTo_31 (by decide) ?_
    refine lv_istore_n (lv' := [(3, .int (2 : Int32)), (0, .ref h_t), (1, .ref h_p1)]) hx hb dX7_leadTo_32 rfl hl (by decide) rfl (fun ls hl => ?_)
    have L138 : ∀ (fu86 : Nat) (y81 : Nat → Int32) (y82 : Nat → Int32) (y83 : Nat → Int32) (x84 : Int32) (y78 : Nat → Int32) (y79 : Nat → Int32) (y80 : Nat → Int32), f_X7_leadTo_L6 n_p1 p1 fu86 y81 y82 y83 x84 = some (y78, y79, y80) → (∀ (H : Heap) (locs : List Loc), va_P (dC, dI) vwCl [(h_t, .inr (6, fX7 h_t_next h_t_stepsToGoal h_t_stepsFromEarlier)), (h_t_stepsToGoal, .inl (cI, 64, .inl y80)), (h_p1, .inl (cI, n_p1, .inl p1)), (h_t_next, .inl (cI, 64, .inl y78)), (h_t_stepsFromEarlier, .inl (cI, 64, .inl y79))] H → va_D A [(h_t, .inr (6, fX7 h_t_next h_t_stepsToGoal h_t_stepsFromEarlier)), (h_t_stepsToGoal, .inl (cI, 64, .inl y80)), (h_p1, .inl (cI, n_p1, .inl p1)), (h_t_next, .inl (cI, 64, .inl y78)), (h_t_stepsFromEarlier, .inl (cI, 64, .inl y79))] → va_S A s.heap H locs → ∀ ls : Array Slot, lv_has ls 5 [] → W p l e rmX7_leadTo s m args below meth c H locs 0 0 Q (F0 m 122 ls [])) → ∀ (H : Heap) (locs : List Loc), va_P (dC, dI) vwCl [(h_t, .inr (6, fX7 h_t_next h_t_stepsToGoal h_t_stepsFromEarlier)), (h_t_stepsToGoal, .inl (cI, 64, .inl y83)), (h_p1, .inl (cI, n_p1, .inl p1)), (h_t_next, .inl (cI, 64, .inl y81)), (h_t_stepsFromEarlier, .inl (cI, 64, .inl y82))] H → va_D A [(h_t, .inr (6, fX7 h_t_next h_t_stepsToGoal h_t_stepsFromEarlier)), (h_t_stepsToGoal, .inl (cI, 64, .inl y83)), (h_p1, .inl (cI, n_p1, .inl p1)), (h_t_next, .inl (cI, 64, .inl y81)), (h_t_stepsFromEarlier, .inl (cI, 64, .inl y82))] → va_S A s.heap H locs → ∀ ls : Array Slot, lv_has ls 5 [(0, .ref h_t), (1, .ref h_p1), (3, .int x84)] → W p l e rmX7_leadTo s m args below meth c H locs 0 0 Q (F0 m 33 ls []) := by
      intro fu86
      induction fu86 with
      | zero =>
        intro y81 y82 y83 x84 y78 y79 y80 hf
        unfold f_X7_leadTo_L6 at hf
        exact none_ne hf
      | succ fu86 ih85 =>
        intro y81 y82 y83 x84 y78 y79 y80 hf hX87 H locs hP hD hS ls hl
        unfold f_X7_leadTo_L6 at hf
        refine lv_iload_n hx hb dX7_leadTo_33 rfl (lv_at hl 2 rfl) ?_
        refine lv_if_lt (tgt := 122) hx hb dX7_leadTo_34 (by decide) (fun c88 => ?_) (fun c88 => ?_)
        · replace hf := ifp c88 hf
          obtain ⟨rfl, rfl, rfl⟩ := inj3 hf
          exact hX87 _ _ hP hD hS _ (lv_sub hl [] rfl)
        · replace hf := ifn c88 hf
          refine lv_iconst (v := (0 : Int32)) hx hb dX7_leadTo_37 (by decide) ?_
          refine lv_istore (lv' := [(4, .int (0 : Int32)), (0, .ref h_t), (1, .ref h_p1), (3, .int x84)]) hx hb dX7_leadTo_38 hl (by decide) rfl (fun ls hl => ?_)
          have L113 : ∀ (fu103 : Nat) (y100 : Nat → Int32) (x101 : Int32) (y99 : Nat → Int32), f_X7_leadTo_L7 n_p1 p1 x84 fu103 y100 x101 = some y99 → (∀ (H : Heap) (locs : List Loc), va_P (dC, dI) vwCl [(h_t, .inr (6, fX7 h_t_next h_t_stepsToGoal h_t_stepsFromEarlier)), (h_t_stepsToGoal, .inl (cI, 64, .inl y83)), (h_p1, .inl (cI, n_p1, .inl p1)), (h_t_next, .inl (cI, 64, .inl y99)), (h_t_stepsFromEarlier, .inl (cI, 64, .inl y82))] H → va_D A [(h_t, .inr (6, fX7 h_t_next h_t_stepsToGoal h_t_stepsFromEarlier)), (h_t_stepsToGoal, .inl (cI, 64, .inl y83)), (h_p1, .inl (cI, n_p1, .inl p1)), (h_t_next, .inl (cI, 64, .inl y99)), (h_t_stepsFromEarlier, .inl (cI, 64, .inl y82))] → va_S A s.heap H locs → ∀ ls : Array Slot, lv_has ls 5 [(0, .ref h_t), (1, .ref h_p1), (3, .int x84)] → W p l e rmX7_leadTo s m args below meth c H locs 0 0 Q (F0 m 72 ls [])) → ∀ (H : Heap) (locs : List Loc), va_P (dC, dI) vwCl [(h_t, .inr (6, fX7 h_t_next h_t_stepsToGoal h_t_stepsFromEarlier)), (h_t_stepsToGoal, .inl (cI, 64, .inl y83)), (h_p1, .inl (cI, n_p1, .inl p1)), (h_t_next, .inl (cI, 64, .inl y100)), (h_t_stepsFromEarlier, .inl (cI, 64, .inl y82))] H → va_D A [(h_t, .inr (6, fX7 h_t_next h_t_stepsToGoal h_t_stepsFromEarlier)), (h_t_stepsToGoal, .inl (cI, 64, .inl y83)), (h_p1, .inl (cI, n_p1, .inl p1)), (h_t_next, .inl (cI, 64, .inl y100)), (h_t_stepsFromEarlier, .inl (cI, 64, .inl y82))] → va_S A s.heap H locs → ∀ ls : Array Slot, lv_has ls 5 [(0, .ref h_t), (1, .ref h_p1), (3, .int x84), (4, .int x101)] → W p l e rmX7_leadTo s m args below meth c H locs 0 0 Q (F0 m 40 ls []) := by
            intro fu103
            induction fu103 with
            | zero =>
              intro y100 x101 y99 hf
              unfold f_X7_leadTo_L7 at hf
              exact none_ne hf
            | succ fu103 ih102 =>
              intro y100 x101 y99 hf hX104 H locs hP hD hS ls hl
              unfold f_X7_leadTo_L7 at hf
              refine lv_iload hx hb dX7_leadTo_40 (lv_at hl 3 rfl) ?_
              refine lv_bipush (v := (64 : Int32)) hx hb dX7_leadTo_42 (by decide) ?_
              refine lv_icmp_ge (tgt := 72) hx hb dX7_leadTo_44 (by decide) (fun c105 => ?_) (fun c105 => ?_)
              · replace hf := ifp c105 hf
                obtain rfl := inj1 hf
                exact hX104 _ _ hP hD hS _ (lv_sub hl [0, 1, 2] rfl)
              · replace hf := ifn c105 hf
                refine lv_aload_n hx hb dX7_leadTo_47 rfl (lv_at hl 0 rfl) ?_
                refine va_get (D := (dC, dI)) (ci := 6) (v := .ref h_t_next) (C := RX7) (T := TX7) (N := 3) hx hb hts kX7_leadTo_0 hown hK hP 0 rfl rfl 0 (by decide) (hts _ kX7_leadTo_3) (fun _ h9 => h9) rfl dX7_leadTo_48 ?_
                refine lv_iload hx hb dX7_leadTo_51 (lv_at hl 3 rfl) ?_
                refine lv_iload hx hb dX7_leadTo_53 (lv_at hl 3 rfl) ?_
                refine lv_aload_n hx hb dX7_leadTo_55 rfl (lv_at hl 1 rfl) ?_
                refine lv_iload_n hx hb dX7_leadTo_56 rfl (lv_at hl 2 rfl) ?_
                refine lv_iload hx hb dX7_leadTo_57 (lv_at hl 3 rfl) ?_
                obtain ⟨r106, hg107, hf⟩ := bd1_some hf
                refine CM_callS (As := [.ref h_p1, .int x84, .int x101]) (rest := [.int x101, .int x101, .ref h_t_next]) (wc := [(h_p1, .inl (cI, n_p1, .inl p1))]) (w1 := [(h_p1, .inl (cI, n_p1, .inl p1))]) (wr := [(h_t, .inr (6, fX7 h_t_next h_t_stepsToGoal h_t_stepsFromEarlier)), (h_t_stepsToGoal, .inl (cI, 64, .inl y83)), (h_t_next, .inl (cI, 64, .inl y100)), (h_t_stepsFromEarlier, .inl (cI, 64, .inl y82))]) (wo := [(h_t, .inr (6, fX7 h_t_next h_t_stepsToGoal h_t_stepsFromEarlier)), (h_t_stepsToGoal, .inl (cI, 64, .inl y83)), (h_p1, .inl (cI, n_p1, .inl p1)), (h_t_next, .inl (cI, 64, .inl y100)), (h_t_stepsFromEarlier, .inl (cI, 64, .inl y82))]) (v := (some (.int r106))) ⟨hx, hb, hml, hown, hts⟩ (c_X7_directionOfFlow l dC dI cI cZ te h_p1 n_p1 p1 x84 x101 r106 hg107) (va_cwS 3 hts gX7_leadTo_X7_directionOfFlow rfl rfl rfl (by decide +kernel) ⟨Nat.le_of_ble_eq_true rfl, Nat.le_of_ble_eq_true rfl⟩) (kS_env te) hK hP hD hS hA hE [2] [0, 1, 3, 4] [0, 1, 4, 2, 3] rfl rfl (by decide) (by decide) (by decide) (by decide) rfl rfl hl.1 rfl (Nat.le_of_ble_eq_true rfl) dX7_leadTo_59 ⟨Nat.zero_le _, Nat.zero_le _⟩ (fun H locs hP hD hS => ?_)
                show W p l e rmX7_leadTo s m args below meth c H locs 0 0 Q (F0 m 62 ls [.int r106, .int x101, .int x101, .ref h_t_next])
                obtain ⟨r108, hg109, hf⟩ := bd1_some hf
                refine CM_callS (As := [.int x101, .int r106]) (rest := [.int x101, .ref h_t_next]) (wc := []) (w1 := []) (wr := [(h_t, .inr (6, fX7 h_t_next h_t_stepsToGoal h_t_stepsFromEarlier)), (h_t_stepsToGoal, .inl (cI, 64, .inl y83)), (h_p1, .inl (cI, n_p1, .inl p1)), (h_t_next, .inl (cI, 64, .inl y100)), (h_t_stepsFromEarlier, .inl (cI, 64, .inl y82))]) (wo := [(h_t, .inr (6, fX7 h_t_next h_t_stepsToGoal h_t_stepsFromEarlier)), (h_t_stepsToGoal, .inl (cI, 64, .inl y83)), (h_p1, .inl (cI, n_p1, .inl p1)), (h_t_next, .inl (cI, 64, .inl y100)), (h_t_stepsFromEarlier, .inl (cI, 64, .inl y82))]) (v := (some (.int r108))) ⟨hx, hb, hml, hown, hts⟩ (c_X7_placeBeside l dC dI cI cZ te x101 r106 r108 hg109) (va_cwS 2 hts gX7_leadTo_X7_placeBeside rfl rfl rfl (by decide +kernel) ⟨Nat.le_of_ble_eq_true rfl, Nat.le_of_ble_eq_true rfl⟩) (kS_env te) hK hP hD hS hA hE [] [0, 1, 2, 3, 4] [0, 1, 2, 3, 4] rfl rfl (by decide) (by decide) (by decide) (by decide) rfl rfl hl.1 rfl (Nat.le_of_ble_eq_true rfl) dX7_leadTo_62 ⟨Nat.zero_le _, Nat.zero_le _⟩ (fun H locs hP hD hS => ?_)
                show W p l e rmX7_leadTo s m args below meth c H locs 0 0 Q (F0 m 65 ls [.int r108, .int x101, .ref h_t_next])
                obtain ⟨g110, hf⟩ := chk_some hf
                obtain ⟨y111, e112, hf⟩ := nm_some hf
                refine va_iast hx hb hK hP hD hS 3 0 rfl rfl (gin_in g110) dX7_leadTo_65 (fun H locs hP hD hS => ?_)
                have hP : va_P (dC, dI) vwCl [(h_t, .inr (6, fX7 h_t_next h_t_stepsToGoal h_t_stepsFromEarlier)), (h_t_stepsToGoal, .inl (cI, 64, .inl y83)), (h_p1, .inl (cI, n_p1, .inl p1)), (h_t_next, .inl (cI, 64, .inl y111)), (h_t_stepsFromEarlier, .inl (cI, 64, .inl y82))] H := by rw [e112]; exact hP
                have hD : va_D A [(h_t, .inr (6, fX7 h_t_next h_t_stepsToGoal h_t_stepsFromEarlier)), (h_t_stepsToGoal, .inl (cI, 64, .inl y83)), (h_p1, .inl (cI, n_p1, .inl p1)), (h_t_next, .inl (cI, 64, .inl y111)), (h_t_stepsFromEarlier, .inl (cI, 64, .inl y82))] := by rw [e112]; exact hD
                refine lv_iinc (v := (x101 + (1 : Int32))) (lv' := [(4, .int (x101 + (1 : Int32))), (0, .ref h_t), (1, .ref h_p1), (3, .int x84)]) hx hb dX7_leadTo_66 hl (k := 3) rfl rfl (by decide) rfl (fun ls hl => ?_)
                refine lv_goto (tgt := 40) hx hb dX7_leadTo_69 (by decide) ?_
                exact ih102 _ _ _ hf hX104 _ _ hP hD hS _ (lv_sub hl [1, 2, 3, 0] rfl)
          obtain ⟨y99, hg, hf⟩ := bd1_some hf
          refine L113 FU _ _ _ hg ?_ _ _ hP hD hS _ (lv_sub hl [1, 2, 3, 0] rfl)
          · intro H locs hP hD hS ls hl
            refine lv_iconst (v := (0 : Int32)) hx hb dX7_leadTo_72 (by decide) ?_
            refine lv_istore (lv' := [(4, .int (0 : Int32)), (0, .ref h_t), (1, .ref h_p1), (3, .int x84)]) hx hb dX7_leadTo_73 hl (by decide) rfl (fun ls hl => ?_)
            have L134 : ∀ (fu126 : Nat) (y123 : Nat → Int32) (x124 : Int32) (y122 : Nat → Int32), f_X7_leadTo_L8 y83 y99 fu126 y123 x124 = some y122 → (∀ (H : Heap) (locs : List Loc), va_P (dC, dI) vwCl [(h_t, .inr (6, fX7 h_t_next h_t_stepsToGoal h_t_stepsFromEarlier)), (h_t_stepsToGoal, .inl (cI, 64, .inl y83)), (h_p1, .inl (cI, n_p1, .inl p1)), (h_t_next, .inl (cI, 64, .inl y99)), (h_t_stepsFromEarlier, .inl (cI, 64, .inl y122))] H → va_D A [(h_t, .inr (6, fX7 h_t_next h_t_stepsToGoal h_t_stepsFromEarlier)), (h_t_stepsToGoal, .inl (cI, 64, .inl y83)), (h_p1, .inl (cI, n_p1, .inl p1)), (h_t_next, .inl (cI, 64, .inl y99)), (h_t_stepsFromEarlier, .inl (cI, 64, .inl y122))] → va_S A s.heap H locs → ∀ ls : Array Slot, lv_has ls 5 [(0, .ref h_t), (1, .ref h_p1), (3, .int x84)] → W p l e rmX7_leadTo s m args below meth c H locs 0 0 Q (F0 m 101 ls [])) → ∀ (H : Heap) (locs : List Loc), va_P (dC, dI) vwCl [(h_t, .inr (6, fX7 h_t_next h_t_stepsToGoal h_t_stepsFromEarlier)), (h_t_stepsToGoal, .inl (cI, 64, .inl y83)), (h_p1, .inl (cI, n_p1, .inl p1)), (h_t_next, .inl (cI, 64, .inl y99)), (h_t_stepsFromEarlier, .inl (cI, 64, .inl y123))] H → va_D A [(h_t, .inr (6, fX7 h_t_next h_t_stepsToGoal h_t_stepsFromEarlier)), (h_t_stepsToGoal, .inl (cI, 64, .inl y83)), (h_p1, .inl (cI, n_p1, .inl p1)), (h_t_next, .inl (cI, 64, .inl y99)), (h_t_stepsFromEarlier, .inl (cI, 64, .inl y123))] → va_S A s.heap H locs → ∀ ls : Array Slot, lv_has ls 5 [(0, .ref h_t), (1, .ref h_p1), (3, .int x84), (4, .int x124)] → W p l e rmX7_leadTo s m args below meth c H locs 0 0 Q (F0 m 75 ls []) := by
              intro fu126
              induction fu126 with
              | zero =>
                intro y123 x124 y122 hf
                unfold f_X7_leadTo_L8 at hf
                exact none_ne hf
              | succ fu126 ih125 =>
                intro y123 x124 y122 hf hX127 H locs hP hD hS ls hl
                unfold f_X7_leadTo_L8 at hf
                refine lv_iload hx hb dX7_leadTo_75 (lv_at hl 3 rfl) ?_
                refine lv_bipush (v := (64 : Int32)) hx hb dX7_leadTo_77 (by decide) ?_
                refine lv_icmp_ge (tgt := 101) hx hb dX7_leadTo_79 (by decide) (fun c128 => ?_) (fun c128 => ?_)
                · replace hf := ifp c128 hf
                  obtain rfl := inj1 hf
                  exact hX127 _ _ hP hD hS _ (lv_sub hl [0, 1, 2] rfl)
                · replace hf := ifn c128 hf
                  refine lv_aload_n hx hb dX7_leadTo_82 rfl (lv_at hl 0 rfl) ?_
                  refine va_get (D := (dC, dI)) (ci := 6) (v := .ref h_t_stepsFromEarlier) (C := RX7) (T := TX7) (N := 3) hx hb hts kX7_leadTo_0 hown hK hP 0 rfl rfl 2 (by decide) (hts _ kX7_leadTo_4) (fun _ h9 => h9) rfl dX7_leadTo_83 ?_
                  refine lv_iload hx hb dX7_leadTo_86 (lv_at hl 3 rfl) ?_
                  refine lv_aload_n hx hb dX7_leadTo_88 rfl (lv_at hl 0 rfl) ?_
                  refine lv_iload hx hb dX7_leadTo_89 (lv_at hl 3 rfl) ?_
                  obtain ⟨r129, hg130, hf⟩ := bd1_some hf
                  refine CM_callV (C := RX7) (As := [.int x124]) (rest := [.int x124, .ref h_t_stepsFromEarlier]) (wc := [(h_t, .inr (6, fX7 h_t_next h_t_stepsToGoal h_t_stepsFromEarlier)), (h_t_stepsToGoal, .inl (cI, 64, .inl y83)), (h_t_next, .inl (cI, 64, .inl y99))]) (w1 := [(h_t, .inr (6, fX7 h_t_next h_t_stepsToGoal h_t_stepsFromEarlier)), (h_t_stepsToGoal, .inl (cI, 64, .inl y83)), (h_t_next, .inl (cI, 64, .inl y99))]) (wr := [(h_p1, .inl (cI, n_p1, .inl p1)), (h_t_stepsFromEarlier, .inl (cI, 64, .inl y123))]) (wo := [(h_t, .inr (6, fX7 h_t_next h_t_stepsToGoal h_t_stepsFromEarlier)), (h_t_stepsToGoal, .inl (cI, 64, .inl y83)), (h_p1, .inl (cI, n_p1, .inl p1)), (h_t_next, .inl (cI, 64, .inl y99)), (h_t_stepsFromEarlier, .inl (cI, 64, .inl y123))]) (v := (some (.int r129))) ⟨hx, hb, hml, hown, hts⟩ (c_X7_fewestDownFrom l dC dI cI cZ te h_t h_t_next h_t_stepsToGoal h_t_stepsFromEarlier y83 y99 x124 r129 hg130) (cwV 1 hts gX7_leadTo_X7_fewestDownFrom rfl rfl rfl (by decide +kernel) ⟨Nat.le_of_ble_eq_true rfl, Nat.le_of_ble_eq_true rfl⟩) (kS_env te) hK hP hD hS hA hE [0, 1, 3] [2, 4] [2, 3, 0, 4, 1] rfl rfl (by decide) (by decide) (by decide) (by decide) rfl 0 6 rfl rfl rfl rfl hl.1 rfl (Nat.le_of_ble_eq_true rfl) dX7_leadTo_91 ⟨Nat.zero_le _, Nat.zero_le _⟩ (fun H locs hP hD hS => ?_)
                  show W p l e rmX7_leadTo s m args below meth c H locs 0 0 Q (F0 m 94 ls [.int r129, .int x124, .ref h_t_stepsFromEarlier])
                  obtain ⟨g131, hf⟩ := chk_some hf
                  obtain ⟨y132, e133, hf⟩ := nm_some hf
                  refine va_iast hx hb hK hP hD hS 4 0 rfl rfl (gin_in g131) dX7_leadTo_94 (fun H locs hP hD hS => ?_)
                  have hP : va_P (dC, dI) vwCl [(h_t, .inr (6, fX7 h_t_next h_t_stepsToGoal h_t_stepsFromEarlier)), (h_t_stepsToGoal, .inl (cI, 64, .inl y83)), (h_p1, .inl (cI, n_p1, .inl p1)), (h_t_next, .inl (cI, 64, .inl y99)), (h_t_stepsFromEarlier, .inl (cI, 64, .inl y132))] H := by rw [e133]; exact hP
                  have hD : va_D A [(h_t, .inr (6, fX7 h_t_next h_t_stepsToGoal h_t_stepsFromEarlier)), (h_t_stepsToGoal, .inl (cI, 64, .inl y83)), (h_p1, .inl (cI, n_p1, .inl p1)), (h_t_next, .inl (cI, 64, .inl y99)), (h_t_stepsFromEarlier, .inl (cI, 64, .inl y132))] := by rw [e133]; exact hD
                  refine lv_iinc (v := (x124 + (1 : Int32))) (lv' := [(4, .int (x124 + (1 : Int32))), (0, .ref h_t), (1, .ref h_p1), (3, .int x84)]) hx hb dX7_leadTo_95 hl (k := 3) rfl rfl (by decide) rfl (fun ls hl => ?_)
                  refine lv_goto (tgt := 75) hx hb dX7_leadTo_98 (by decide) ?_
                  exact ih125 _ _ _ hf hX127 _ _ hP hD hS _ (lv_sub hl [1, 2, 3, 0] rfl)
            obtain ⟨y122, hg, hf⟩ := bd1_some hf
            refine L134 FU _ _ _ hg ?_ _ _ hP hD hS _ (lv_sub hl [1, 2, 3, 0] rfl)
            · intro H locs hP hD hS ls hl
              refine lv_aload_n hx hb dX7_leadTo_101 rfl (lv_at hl 0 rfl) ?_
              refine va_get (D := (dC, dI)) (ci := 6) (v := .ref h_t_stepsFromEarlier) (C := RX7) (T := TX7) (N := 3) hx hb hts kX7_leadTo_0 hown hK hP 0 rfl rfl 2 (by decide) (hts _ kX7_leadTo_4) (fun _ h9 => h9) rfl dX7_leadTo_102 ?_
              refine lv_iconst (v := (0 : Int32)) hx hb dX7_leadTo_105 (by decide) ?_
              refine lv_aload_n hx hb dX7_leadTo_106 rfl (lv_at hl 0 rfl) ?_
              refine va_get (D := (dC, dI)) (ci := 6) (v := .ref h_t_stepsToGoal) (C := RX7) (T := TX7) (N := 3) hx hb hts kX7_leadTo_0 hown hK hP 0 rfl rfl 1 (by decide) (hts _ kX7_leadTo_1) (fun _ h9 => h9) rfl dX7_leadTo_107 ?_
              refine lv_iconst (v := (0 : Int32)) hx hb dX7_leadTo_110 (by decide) ?_
              refine lv_bipush (v := (64 : Int32)) hx hb dX7_leadTo_111 (by decide) ?_
              obtain ⟨g135, hf⟩ := chk_some hf
              obtain ⟨y136, e137, hf⟩ := nm_some hf
              refine va_copyi hx hb (hml.trans hl.1.symm) hown (hts _ kX7_leadTo_5) (hts _ kX7_leadTo_6) (hts _ kX7_leadTo_7) (hts _ kX7_leadTo_8) hK hP hD hS 4 1 0 0 rfl rfl rfl rfl rfl (gcp_of g135).1 (gcp_of g135).2.1 (gcp_of g135).2.2.1 (gcp_of g135).2.2.2.1 (gcp_of g135).2.2.2.2 (fun _ _ => rfl) (Nat.le_of_ble_eq_true rfl) (Nat.le_of_ble_eq_true rfl) dX7_leadTo_113 (fun H locs hP hD hS => ?_)
              have hP : va_P (dC, dI) vwCl [(h_t, .inr (6, fX7 h_t_next h_t_stepsToGoal h_t_stepsFromEarlier)), (h_t_stepsToGoal, .inl (cI, 64, .inl y136)), (h_p1, .inl (cI, n_p1, .inl p1)), (h_t_next, .inl (cI, 64, .inl y99)), (h_t_stepsFromEarlier, .inl (cI, 64, .inl y122))] H := by rw [e137]; exact hP
              have hD : va_D A [(h_t, .inr (6, fX7 h_t_next h_t_stepsToGoal h_t_stepsFromEarlier)), (h_t_stepsToGoal, .inl (cI, 64, .inl y136)), (h_p1, .inl (cI, n_p1, .inl p1)), (h_t_next, .inl (cI, 64, .inl y99)), (h_t_stepsFromEarlier, .inl (cI, 64, .inl y122))] := by rw [e137]; exact hD
              refine lv_iinc (v := (x84 + (-1 : Int32))) (lv' := [(3, .int (x84 + (-1 : Int32))), (0, .ref h_t), (1, .ref h_p1)]) hx hb dX7_leadTo_116 hl (k := 2) rfl rfl (by decide) rfl (fun ls hl => ?_)
              refine lv_goto (tgt := 33) hx hb dX7_leadTo_119 (by decide) ?_
              exact ih85 _ _ _ _ _ _ _ hf hX87 _ _ hP hD hS _ (lv_sub hl [1, 2, 0] rfl)
    obtain ⟨y78, y79, y80, hg, hf⟩ := bd3_some hf
    refine L138 FU _ _ _ _ _ _ _ hg ?_ _ _ hP hD hS _ (lv_sub hl [1, 2, 0] rfl)
    · intro H locs hP hD hS ls hl
      obtain ⟨rfl, rfl, rfl⟩ := inj3 hf
      subst hQ
      exact CM_vret hx hb hr hlocks hAe hP hD hS dX7_leadTo_122
def rmX7_stepsFrom : Room := { frames := 0, cells := 0, slots := 0, locals := 0 }
set_option maxRecDepth 20000 in
theorem kX7_stepsFrom_0 : ∀ w ∈ u_ws RX7 TX7 3, w ∈ wsX7_stepsFrom := by decide +kernel
set_option maxRecDepth 20000 in
theorem kX7_stepsFrom_1 : Cond.fieldLink RX7 15 "StoneRiver$Valley" "stepsToGoal" "[I" ∈ wsX7_stepsFrom := by decide +kernel
set_option maxRecDepth 20000 in
theorem kX7_stepsFrom_2 : Cond.constant RX7 62 (1000000) ∈ wsX7_stepsFrom := by decide +kernel
set_option maxHeartbeats 4000000 in
set_option maxRecDepth 100000 in
theorem c_X7_stepsFrom (l : Launch) (dC : Nat → ClassId) (dI : Nat → Nat → Nat) (cI cZ : ClassId) (te : Nat → Nat) (h_t : Nat) (h_t_next : Nat) (h_t_stepsToGoal : Nat) (h_t_stepsFromEarlier : Nat) (t_stepsToGoal : Nat → Int32) (p1 : Int32) (o0 : Int32) (hf : f_X7_stepsFrom t_stepsToGoal p1 = some o0) : CM l yX7_stepsFrom wsX7_stepsFrom rmX7_stepsFrom (kS te) dC dI cI cZ [.ref h_t, .int p1] [(h_t, .inr (6, fX7 h_t_next h_t_stepsToGoal h_t_stepsFromEarlier)), (h_t_stepsToGoal, .inl (cI, 64, .inl t_stepsToGoal))] [(h_t, .inr (6, fX7 h_t_next h_t_stepsToGoal h_t_stepsFromEarlier)), (h_t_stepsToGoal, .inl (cI, 64, .inl t_stepsToGoal))] (some (.int o0)) := by
  refine CM_of (cc := cX7_stepsFrom) (maxL := 2) (ret := (some .int)) (by decide +kernel) rfl (Nat.le_of_ble_eq_true rfl) ?_
  intro p e s m args below meth c A Q hx hb hr hml hown hts hlocks hA hK hP hD hS hE hQ hAe ls hl
  have hown : s.vm.findClass RX7 = some m.cls := hown
  have hl : lv_has ls 2 [(0, .ref h_t), (1, .int p1)] := hl
  unfold f_X7_stepsFrom at hf
  refine lv_iload_n hx hb dX7_stepsFrom_0 rfl (lv_at hl 1 rfl) ?_
  refine lv_if_lt (tgt := 21) hx hb dX7_stepsFrom_1 (by decide) (fun c1 => ?_) (fun c1 => ?_)
  · replace hf := ifp c1 hf
    refine lv_iconst (v := (-1 : Int32)) hx hb dX7_stepsFrom_21 (by decide) ?_
    obtain rfl := inj1 hf
    subst hQ
    exact CM_iret hx hb hr rfl hlocks hAe hP hD hS dX7_stepsFrom_22
  · replace hf := ifn c1 hf
    refine lv_iload_n hx hb dX7_stepsFrom_4 rfl (lv_at hl 1 rfl) ?_
    refine lv_bipush (v := (64 : Int32)) hx hb dX7_stepsFrom_5 (by decide) ?_
    refine lv_icmp_ge (tgt := 21) hx hb dX7_stepsFrom_7 (by decide) (fun c2 => ?_) (fun c2 => ?_)
    · replace hf := ifp c2 hf
      refine lv_iconst (v := (-1 : Int32)) hx hb dX7_stepsFrom_21 (by decide) ?_
      obtain rfl := inj1 hf
      subst hQ
      exact CM_iret hx hb hr rfl hlocks hAe hP hD hS dX7_stepsFrom_22
    · replace hf := ifn c2 hf
      refine lv_aload_n hx hb dX7_stepsFrom_10 rfl (lv_at hl 0 rfl) ?_
      refine va_get (D := (dC, dI)) (ci := 6) (v := .ref h_t_stepsToGoal) (C := RX7) (T := TX7) (N := 3) hx hb hts kX7_stepsFrom_0 hown hK hP 0 rfl rfl 1 (by decide) (hts _ kX7_stepsFrom_1) (fun _ h9 => h9) rfl dX7_stepsFrom_11 ?_
      refine lv_iload_n hx hb dX7_stepsFrom_14 rfl (lv_at hl 1 rfl) ?_
      obtain ⟨g3, hf⟩ := chk_some hf
      refine va_iald hx hb hK hP 1 0 rfl rfl (gin_in g3) dX7_stepsFrom_15 ?_
      refine lv_ldc (v := (1000000 : Int32)) hx hb hown (hts _ kX7_stepsFrom_2) dX7_stepsFrom_16 ?_
      refine lv_icmp_lt (tgt := 23) hx hb dX7_stepsFrom_18 (by decide) (fun c4 => ?_) (fun c4 => ?_)
      · replace hf := ifp c4 hf
        refine lv_aload_n hx hb dX7_stepsFrom_23 rfl (lv_at hl 0 rfl) ?_
        refine va_get (D := (dC, dI)) (ci := 6) (v := .ref h_t_stepsToGoal) (C := RX7) (T := TX7) (N := 3) hx hb hts kX7_stepsFrom_0 hown hK hP 0 rfl rfl 1 (by decide) (hts _ kX7_stepsFrom_1) (fun _ h9 => h9) rfl dX7_stepsFrom_24 ?_
        refine lv_iload_n hx hb dX7_stepsFrom_27 rfl (lv_at hl 1 rfl) ?_
        obtain ⟨g5, hf⟩ := chk_some hf
        refine va_iald hx hb hK hP 1 0 rfl rfl (gin_in g5) dX7_stepsFrom_28 ?_
        obtain rfl := inj1 hf
        subst hQ
        exact CM_iret hx hb hr rfl hlocks hAe hP hD hS dX7_stepsFrom_29
      · replace hf := ifn c4 hf
        refine lv_iconst (v := (-1 : Int32)) hx hb dX7_stepsFrom_21 (by decide) ?_
        obtain rfl := inj1 hf
        subst hQ
        exact CM_iret hx hb hr rfl hlocks hAe hP hD hS dX7_stepsFrom_22
def rmX7_fewestSteps : Room := { frames := 3, cells := 0, slots := 0, locals := 74 }
set_option maxRecDepth 20000 in
theorem kX7_fewestSteps_0 : ∀ w ∈ u_ws RX1 TX1 10, w ∈ wsX7_fewestSteps := by decide +kernel
set_option maxRecDepth 20000 in
theorem kX7_fewestSteps_1 : Cond.fieldLink RX7 29 "StoneRiver$Found" "surfaces" "[I" ∈ wsX7_fewestSteps := by decide +kernel
set_option maxRecDepth 20000 in
theorem kX7_fewestSteps_2 : Cond.fieldLink RX7 34 "StoneRiver$Found" "boulders" "LStoneRiver$Rows;" ∈ wsX7_fewestSteps := by decide +kernel
set_option maxRecDepth 20000 in
theorem kX7_fewestSteps_3 : Cond.fieldLink RX7 47 "StoneRiver$Found" "cliffs" "LStoneRiver$Rows;" ∈ wsX7_fewestSteps := by decide +kernel
set_option maxHeartbeats 4000000 in
set_option maxRecDepth 100000 in
theorem c_X7_fewestSteps (l : Launch) (dC : Nat → ClassId) (dI : Nat → Nat → Nat) (cI cZ : ClassId) (te : Nat → Nat) (h_t : Nat) (h_p1 : Nat) (h_p1_surfaces : Nat) (h_p1_cliffs : Nat) (h_p1_boulders : Nat) (h_p1_scratches : Nat) (h_p1_numbers : Nat) (h_p1_facts : Nat) (h_p1_signs : Nat) (h_p1_areas : Nat) (h_p1_heights : Nat) (h_p1_boulders_cells : Nat) (h_t_next : Nat) (h_t_stepsToGoal : Nat) (h_t_stepsFromEarlier : Nat) (h_p1_cliffs_cells : Nat) (p1_ridges : Int32) (p1_boulders_limit : Int32) (p1_boulders_size : Int32) (n_p1_boulders_cells : Nat) (p1_boulders_cells : Nat → Int32) (t_stepsToGoal : Nat → Int32) (p1_surfaces : Nat → Int32) (t_next : Nat → Int32) (t_stepsFromEarlier : Nat → Int32) (p1_cliffs_limit : Int32) (p1_cliffs_size : Int32) (n_p1_cliffs_cells : Nat) (p1_cliffs_cells : Nat → Int32) (p2 : Int32) (p3 : Int32) (o0 : Int32) (o1 : Nat → Int32) (o2 : Nat → Int32) (o3 : Nat → Int32) (hf : f_X7_fewestSteps p1_boulders_size n_p1_boulders_cells p1_boulders_cells t_stepsToGoal p1_surfaces t_next t_stepsFromEarlier p1_cliffs_size n_p1_cliffs_cells p1_cliffs_cells p2 p3 = some (o0, o1, o2, o3)) : CM l yX7_fewestSteps wsX7_fewestSteps rmX7_fewestSteps (kS te) dC dI cI cZ [.ref h_t, .ref h_p1, .int p2, .int p3] [(h_p1, .inr (1, fX1 h_p1_surfaces h_p1_cliffs h_p1_boulders h_p1_scratches h_p1_numbers h_p1_facts h_p1_signs h_p1_areas h_p1_heights p1_ridges)), (h_p1_boulders, .inr (4, fX4 p1_boulders_limit h_p1_boulders_cells p1_boulders_size)), (h_p1_boulders_cells, .inl (cI, n_p1_boulders_cells, .inl p1_boulders_cells)), (h_t, .inr (6, fX7 h_t_next h_t_stepsToGoal h_t_stepsFromEarlier)), (h_t_stepsToGoal, .inl (cI, 64, .inl t_stepsToGoal)), (h_p1_surfaces, .inl (cI, 192, .inl p1_surfaces)), (h_t_next, .inl (cI, 64, .inl t_next)), (h_t_stepsFromEarlier, .inl (cI, 64, .inl t_stepsFromEarlier)), (h_p1_cliffs, .inr (4, fX4 p1_cliffs_limit h_p1_cliffs_cells p1_cliffs_size)), (h_p1_cliffs_cells, .inl (cI, n_p1_cliffs_cells, .inl p1_cliffs_cells))] [(h_p1, .inr (1, fX1 h_p1_surfaces h_p1_cliffs h_p1_boulders h_p1_scratches h_p1_numbers h_p1_facts h_p1_signs h_p1_areas h_p1_heights p1_ridges)), (h_p1_boulders, .inr (4, fX4 p1_boulders_limit h_p1_boulders_cells p1_boulders_size)), (h_p1_boulders_cells, .inl (cI, n_p1_boulders_cells, .inl p1_boulders_cells)), (h_t, .inr (6, fX7 h_t_next h_t_stepsToGoal h_t_stepsFromEarlier)), (h_t_stepsToGoal, .inl (cI, 64, .inl o1)), (h_p1_surfaces, .inl (cI, 192, .inl p1_surfaces)), (h_t_next, .inl (cI, 64, .inl o2)), (h_t_stepsFromEarlier, .inl (cI, 64, .inl o3)), (h_p1_cliffs, .inr (4, fX4 p1_cliffs_limit h_p1_cliffs_cells p1_cliffs_size)), (h_p1_cliffs_cells, .inl (cI, n_p1_cliffs_cells, .inl p1_cliffs_cells))] (some (.int o0)) := by
  refine CM_of (cc := cX7_fewestSteps) (maxL := 4) (ret := (some .int)) (by decide +kernel) rfl (Nat.le_of_ble_eq_true rfl) ?_
  intro p e s m args below meth c A Q hx hb hr hml hown hts hlocks hA hK hP hD hS hE hQ hAe ls hl
  have hown : s.vm.findClass RX7 = some m.cls := hown
  have hl : lv_has ls 4 [(0, .ref h_t), (1, .ref h_p1), (2, .int p2), (3, .int p3)] := hl
  unfold f_X7_fewestSteps at hf
  refine lv_aload_n hx hb dX7_fewestSteps_0 rfl (lv_at hl 0 rfl) ?_
  refine lv_aload_n hx hb dX7_fewestSteps_1 rfl (lv_at hl 1 rfl) ?_
  refine va_get (D := (dC, dI)) (ci := 1) (v := .ref h_p1_surfaces) (C := RX1) (T := TX1) (N := 10) hx hb hts kX7_fewestSteps_0 hown hK hP 0 rfl rfl 0 (by decide) (hts _ kX7_fewestSteps_1) (fun _ h9 => h9) rfl dX7_fewestSteps_2 ?_
  refine lv_aload_n hx hb dX7_fewestSteps_5 rfl (lv_at hl 1 rfl) ?_
  refine va_get (D := (dC, dI)) (ci := 1) (v := .ref h_p1_boulders) (C := RX1) (T := TX1) (N := 10) hx hb hts kX7_fewestSteps_0 hown hK hP 0 rfl rfl 2 (by decide) (hts _ kX7_fewestSteps_2) (fun _ h9 => h9) rfl dX7_fewestSteps_6 ?_
  refine lv_iload_n hx hb dX7_fewestSteps_9 rfl (lv_at hl 2 rfl) ?_
  refine lv_iconst (v := (0 : Int32)) hx hb dX7_fewestSteps_10 (by decide) ?_
  obtain ⟨r1, hg2, hf⟩ := bd1_some hf
  refine CM_callV (C := RX4) (As := [.int p2, .int (0 : Int32)]) (rest := [.ref h_p1_surfaces, .ref h_t]) (wc := [(h_p1_boulders, .inr (4, fX4 p1_boulders_limit h_p1_boulders_cells p1_boulders_size)), (h_p1_boulders_cells, .inl (cI, n_p1_boulders_cells, .inl p1_boulders_cells))]) (w1 := [(h_p1_boulders, .inr (4, fX4 p1_boulders_limit h_p1_boulders_cells p1_boulders_size)), (h_p1_boulders_cells, .inl (cI, n_p1_boulders_cells, .inl p1_boulders_cells))]) (wr := [(h_p1, .inr (1, fX1 h_p1_surfaces h_p1_cliffs h_p1_boulders h_p1_scratches h_p1_numbers h_p1_facts h_p1_signs h_p1_areas h_p1_heights p1_ridges)), (h_t, .inr (6, fX7 h_t_next h_t_stepsToGoal h_t_stepsFromEarlier)), (h_t_stepsToGoal, .inl (cI, 64, .inl t_stepsToGoal)), (h_p1_surfaces, .inl (cI, 192, .inl p1_surfaces)), (h_t_next, .inl (cI, 64, .inl t_next)), (h_t_stepsFromEarlier, .inl (cI, 64, .inl t_stepsFromEarlier)), (h_p1_cliffs, .inr (4, fX4 p1_cliffs_limit h_p1_cliffs_cells p1_cliffs_size)), (h_p1_cliffs_cells, .inl (cI, n_p1_cliffs_cells, .inl p1_cliffs_cells))]) (wo := [(h_p1, .inr (1, fX1 h_p1_surfaces h_p1_cliffs h_p1_boulders h_p1_scratches h_p1_numbers h_p1_facts h_p1_signs h_p1_areas h_p1_heights p1_ridges)), (h_p1_boulders, .inr (4, fX4 p1_boulders_limit h_p1_boulders_cells p1_boulders_size)), (h_p1_boulders_cells, .inl (cI, n_p1_boulders_cells, .inl p1_boulders_cells)), (h_t, .inr (6, fX7 h_t_next h_t_stepsToGoal h_t_stepsFromEarlier)), (h_t_stepsToGoal, .inl (cI, 64, .inl t_stepsToGoal)), (h_p1_surfaces, .inl (cI, 192, .inl p1_surfaces)), (h_t_next, .inl (cI, 64, .inl t_next)), (h_t_stepsFromEarlier, .inl (cI, 64, .inl t_stepsFromEarlier)), (h_p1_cliffs, .inr (4, fX4 p1_cliffs_limit h_p1_cliffs_cells p1_cliffs_size)), (h_p1_cliffs_cells, .inl (cI, n_p1_cliffs_cells, .inl p1_cliffs_cells))]) (v := (some (.int r1))) ⟨hx, hb, hml, hown, hts⟩ (c_X4_cell l dC dI cI cZ te h_p1_boulders h_p1_boulders_cells p1_boulders_limit p1_boulders_size n_p1_boulders_cells p1_boulders_cells p2 (0 : Int32) r1 hg2) (cwV 2 hts gX7_fewestSteps_X4_cell rfl rfl rfl (by decide +kernel) ⟨Nat.le_of_ble_eq_true rfl, Nat.le_of_ble_eq_true rfl⟩) (kS_env te) hK hP hD hS hA hE [1, 2] [0, 3, 4, 5, 6, 7, 8, 9] [0, 8, 9, 1, 2, 3, 4, 5, 6, 7] rfl rfl (by decide) (by decide) (by decide) (by decide) rfl 1 4 rfl rfl rfl rfl hl.1 rfl (Nat.le_of_ble_eq_true rfl) dX7_fewestSteps_11 ⟨Nat.zero_le _, Nat.zero_le _⟩ (fun H locs hP hD hS => ?_)
  show W p l e rmX7_fewestSteps s m args below meth c H locs 0 0 Q (F0 m 14 ls [.int r1, .ref h_p1_surfaces, .ref h_t])
  obtain ⟨y3, y4, y5, hg6, hf⟩ := bd3_some hf
  refine CM_callV (C := RX7) (As := [.ref h_p1_surfaces, .int r1]) (rest := []) (wc := [(h_t, .inr (6, fX7 h_t_next h_t_stepsToGoal h_t_stepsFromEarlier)), (h_t_stepsToGoal, .inl (cI, 64, .inl t_stepsToGoal)), (h_p1_surfaces, .inl (cI, 192, .inl p1_surfaces)), (h_t_next, .inl (cI, 64, .inl t_next)), (h_t_stepsFromEarlier, .inl (cI, 64, .inl t_stepsFromEarlier))]) (w1 := [(h_t, .inr (6, fX7 h_t_next h_t_stepsToGoal h_t_stepsFromEarlier)), (h_t_stepsToGoal, .inl (cI, 64, .inl y3)), (h_p1_surfaces, .inl (cI, 192, .inl p1_surfaces)), (h_t_next, .inl (cI, 64, .inl y4)), (h_t_stepsFromEarlier, .inl (cI, 64, .inl y5))]) (wr := [(h_p1, .inr (1, fX1 h_p1_surfaces h_p1_cliffs h_p1_boulders h_p1_scratches h_p1_numbers h_p1_facts h_p1_signs h_p1_areas h_p1_heights p1_ridges)), (h_p1_boulders, .inr (4, fX4 p1_boulders_limit h_p1_boulders_cells p1_boulders_size)), (h_p1_boulders_cells, .inl (cI, n_p1_boulders_cells, .inl p1_boulders_cells)), (h_p1_cliffs, .inr (4, fX4 p1_cliffs_limit h_p1_cliffs_cells p1_cliffs_size)), (h_p1_cliffs_cells, .inl (cI, n_p1_cliffs_cells, .inl p1_cliffs_cells))]) (wo := [(h_p1, .inr (1, fX1 h_p1_surfaces h_p1_cliffs h_p1_boulders h_p1_scratches h_p1_numbers h_p1_facts h_p1_signs h_p1_areas h_p1_heights p1_ridges)), (h_p1_boulders, .inr (4, fX4 p1_boulders_limit h_p1_boulders_cells p1_boulders_size)), (h_p1_boulders_cells, .inl (cI, n_p1_boulders_cells, .inl p1_boulders_cells)), (h_t, .inr (6, fX7 h_t_next h_t_stepsToGoal h_t_stepsFromEarlier)), (h_t_stepsToGoal, .inl (cI, 64, .inl y3)), (h_p1_surfaces, .inl (cI, 192, .inl p1_surfaces)), (h_t_next, .inl (cI, 64, .inl y4)), (h_t_stepsFromEarlier, .inl (cI, 64, .inl y5)), (h_p1_cliffs, .inr (4, fX4 p1_cliffs_limit h_p1_cliffs_cells p1_cliffs_size)), (h_p1_cliffs_cells, .inl (cI, n_p1_cliffs_cells, .inl p1_cliffs_cells))]) (v := (none)) ⟨hx, hb, hml, hown, hts⟩ (c_X7_leadTo l dC dI cI cZ te h_t h_p1_surfaces h_t_next h_t_stepsToGoal h_t_stepsFromEarlier t_stepsToGoal (192) p1_surfaces t_next t_stepsFromEarlier r1 y3 y4 y5 hg6) (cwV 2 hts gX7_fewestSteps_X7_leadTo rfl rfl rfl (by decide +kernel) ⟨Nat.le_of_ble_eq_true rfl, Nat.le_of_ble_eq_true rfl⟩) (kS_env te) hK hP hD hS hA hE [3, 4, 5, 6, 7] [0, 1, 2, 8, 9] [0, 1, 2, 5, 6, 7, 8, 9, 3, 4] rfl rfl (by decide) (by decide) (by decide) (by decide) rfl 3 6 rfl rfl rfl rfl hl.1 rfl (Nat.le_of_ble_eq_true rfl) dX7_fewestSteps_14 ⟨Nat.zero_le _, Nat.zero_le _⟩ (fun H locs hP hD hS => ?_)
  show W p l e rmX7_fewestSteps s m args below meth c H locs 0 0 Q (F0 m 17 ls [])
  refine lv_aload_n hx hb dX7_fewestSteps_17 rfl (lv_at hl 0 rfl) ?_
  refine lv_aload_n hx hb dX7_fewestSteps_18 rfl (lv_at hl 1 rfl) ?_
  refine va_get (D := (dC, dI)) (ci := 1) (v := .ref h_p1_cliffs) (C := RX1) (T := TX1) (N := 10) hx hb hts kX7_fewestSteps_0 hown hK hP 0 rfl rfl 1 (by decide) (hts _ kX7_fewestSteps_3) (fun _ h9 => h9) rfl dX7_fewestSteps_19 ?_
  refine lv_iload_n hx hb dX7_fewestSteps_22 rfl (lv_at hl 3 rfl) ?_
  refine lv_iconst (v := (0 : Int32)) hx hb dX7_fewestSteps_23 (by decide) ?_
  obtain ⟨r7, hg8, hf⟩ := bd1_some hf
  refine CM_callV (C := RX4) (As := [.int p3, .int (0 : Int32)]) (rest := [.ref h_t]) (wc := [(h_p1_cliffs, .inr (4, fX4 p1_cliffs_limit h_p1_cliffs_cells p1_cliffs_size)), (h_p1_cliffs_cells, .inl (cI, n_p1_cliffs_cells, .inl p1_cliffs_cells))]) (w1 := [(h_p1_cliffs, .inr (4, fX4 p1_cliffs_limit h_p1_cliffs_cells p1_cliffs_size)), (h_p1_cliffs_cells, .inl (cI, n_p1_cliffs_cells, .inl p1_cliffs_cells))]) (wr := [(h_p1, .inr (1, fX1 h_p1_surfaces h_p1_cliffs h_p1_boulders h_p1_scratches h_p1_numbers h_p1_facts h_p1_signs h_p1_areas h_p1_heights p1_ridges)), (h_p1_boulders, .inr (4, fX4 p1_boulders_limit h_p1_boulders_cells p1_boulders_size)), (h_p1_boulders_cells, .inl (cI, n_p1_boulders_cells, .inl p1_boulders_cells)), (h_t, .inr (6, fX7 h_t_next h_t_stepsToGoal h_t_stepsFromEarlier)), (h_t_stepsToGoal, .inl (cI, 64, .inl y3)), (h_p1_surfaces, .inl (cI, 192, .inl p1_surfaces)), (h_t_next, .inl (cI, 64, .inl y4)), (h_t_stepsFromEarlier, .inl (cI, 64, .inl y5))]) (wo := [(h_p1, .inr (1, fX1 h_p1_surfaces h_p1_cliffs h_p1_boulders h_p1_scratches h_p1_numbers h_p1_facts h_p1_signs h_p1_areas h_p1_heights p1_ridges)), (h_p1_boulders, .inr (4, fX4 p1_boulders_limit h_p1_boulders_cells p1_boulders_size)), (h_p1_boulders_cells, .inl (cI, n_p1_boulders_cells, .inl p1_boulders_cells)), (h_t, .inr (6, fX7 h_t_next h_t_stepsToGoal h_t_stepsFromEarlier)), (h_t_stepsToGoal, .inl (cI, 64, .inl y3)), (h_p1_surfaces, .inl (cI, 192, .inl p1_surfaces)), (h_t_next, .inl (cI, 64, .inl y4)), (h_t_stepsFromEarlier, .inl (cI, 64, .inl y5)), (h_p1_cliffs, .inr (4, fX4 p1_cliffs_limit h_p1_cliffs_cells p1_cliffs_size)), (h_p1_cliffs_cells, .inl (cI, n_p1_cliffs_cells, .inl p1_cliffs_cells))]) (v := (some (.int r7))) ⟨hx, hb, hml, hown, hts⟩ (c_X4_cell l dC dI cI cZ te h_p1_cliffs h_p1_cliffs_cells p1_cliffs_limit p1_cliffs_size n_p1_cliffs_cells p1_cliffs_cells p3 (0 : Int32) r7 hg8) (cwV 2 hts gX7_fewestSteps_X4_cell rfl rfl rfl (by decide +kernel) ⟨Nat.le_of_ble_eq_true rfl, Nat.le_of_ble_eq_true rfl⟩) (kS_env te) hK hP hD hS hA hE [8, 9] [0, 1, 2, 3, 4, 5, 6, 7] [0, 1, 2, 3, 4, 5, 6, 7, 8, 9] rfl rfl (by decide) (by decide) (by decide) (by decide) rfl 8 4 rfl rfl rfl rfl hl.1 rfl (Nat.le_of_ble_eq_true rfl) dX7_fewestSteps_24 ⟨Nat.zero_le _, Nat.zero_le _⟩ (fun H locs hP hD hS => ?_)
  show W p l e rmX7_fewestSteps s m args below meth c H locs 0 0 Q (F0 m 27 ls [.int r7, .ref h_t])
  obtain ⟨r9, hg10, hf⟩ := bd1_some hf
  refine CM_callV (C := RX7) (As := [.int r7]) (rest := []) (wc := [(h_t, .inr (6, fX7 h_t_next h_t_stepsToGoal h_t_stepsFromEarlier)), (h_t_stepsToGoal, .inl (cI, 64, .inl y3))]) (w1 := [(h_t, .inr (6, fX7 h_t_next h_t_stepsToGoal h_t_stepsFromEarlier)), (h_t_stepsToGoal, .inl (cI, 64, .inl y3))]) (wr := [(h_p1, .inr (1, fX1 h_p1_surfaces h_p1_cliffs h_p1_boulders h_p1_scratches h_p1_numbers h_p1_facts h_p1_signs h_p1_areas h_p1_heights p1_ridges)), (h_p1_boulders, .inr (4, fX4 p1_boulders_limit h_p1_boulders_cells p1_boulders_size)), (h_p1_boulders_cells, .inl (cI, n_p1_boulders_cells, .inl p1_boulders_cells)), (h_p1_surfaces, .inl (cI, 192, .inl p1_surfaces)), (h_t_next, .inl (cI, 64, .inl y4)), (h_t_stepsFromEarlier, .inl (cI, 64, .inl y5)), (h_p1_cliffs, .inr (4, fX4 p1_cliffs_limit h_p1_cliffs_cells p1_cliffs_size)), (h_p1_cliffs_cells, .inl (cI, n_p1_cliffs_cells, .inl p1_cliffs_cells))]) (wo := [(h_p1, .inr (1, fX1 h_p1_surfaces h_p1_cliffs h_p1_boulders h_p1_scratches h_p1_numbers h_p1_facts h_p1_signs h_p1_areas h_p1_heights p1_ridges)), (h_p1_boulders, .inr (4, fX4 p1_boulders_limit h_p1_boulders_cells p1_boulders_size)), (h_p1_boulders_cells, .inl (cI, n_p1_boulders_cells, .inl p1_boulders_cells)), (h_t, .inr (6, fX7 h_t_next h_t_stepsToGoal h_t_stepsFromEarlier)), (h_t_stepsToGoal, .inl (cI, 64, .inl y3)), (h_p1_surfaces, .inl (cI, 192, .inl p1_surfaces)), (h_t_next, .inl (cI, 64, .inl y4)), (h_t_stepsFromEarlier, .inl (cI, 64, .inl y5)), (h_p1_cliffs, .inr (4, fX4 p1_cliffs_limit h_p1_cliffs_cells p1_cliffs_size)), (h_p1_cliffs_cells, .inl (cI, n_p1_cliffs_cells, .inl p1_cliffs_cells))]) (v := (some (.int r9))) ⟨hx, hb, hml, hown, hts⟩ (c_X7_stepsFrom l dC dI cI cZ te h_t h_t_next h_t_stepsToGoal h_t_stepsFromEarlier y3 r7 r9 hg10) (cwV 1 hts gX7_fewestSteps_X7_stepsFrom rfl rfl rfl (by decide +kernel) ⟨Nat.le_of_ble_eq_true rfl, Nat.le_of_ble_eq_true rfl⟩) (kS_env te) hK hP hD hS hA hE [3, 4] [0, 1, 2, 5, 6, 7, 8, 9] [0, 1, 2, 8, 9, 3, 4, 5, 6, 7] rfl rfl (by decide) (by decide) (by decide) (by decide) rfl 3 6 rfl rfl rfl rfl hl.1 rfl (Nat.le_of_ble_eq_true rfl) dX7_fewestSteps_27 ⟨Nat.zero_le _, Nat.zero_le _⟩ (fun H locs hP hD hS => ?_)
  show W p l e rmX7_fewestSteps s m args below meth c H locs 0 0 Q (F0 m 30 ls [.int r9])
  obtain ⟨rfl, rfl, rfl, rfl⟩ := inj4 hf
  subst hQ
  exact CM_iret hx hb hr rfl hlocks hAe hP hD hS dX7_fewestSteps_30
def rmX7_stepsOfSort : Room := { frames := 2, cells := 0, slots := 0, locals := 43 }
set_option maxRecDepth 20000 in
theorem kX7_stepsOfSort_0 : ∀ w ∈ u_ws RX1 TX1 10, w ∈ wsX7_stepsOfSort := by decide +kernel
set_option maxRecDepth 20000 in
theorem kX7_stepsOfSort_1 : Cond.fieldLink RX7 47 "StoneRiver$Found" "cliffs" "LStoneRiver$Rows;" ∈ wsX7_stepsOfSort := by decide +kernel
set_option maxRecDepth 20000 in
theorem kX7_stepsOfSort_2 : Cond.fieldLink RX7 34 "StoneRiver$Found" "boulders" "LStoneRiver$Rows;" ∈ wsX7_stepsOfSort := by decide +kernel
set_option maxHeartbeats 4000000 in
set_option maxRecDepth 100000 in
theorem c_X7_stepsOfSort (l : Launch) (dC : Nat → ClassId) (dI : Nat → Nat → Nat) (cI cZ : ClassId) (te : Nat → Nat) (h_t : Nat) (h_p1 : Nat) (h_p1_surfaces : Nat) (h_p1_cliffs : Nat) (h_p1_boulders : Nat) (h_p1_scratches : Nat) (h_p1_numbers : Nat) (h_p1_facts : Nat) (h_p1_signs : Nat) (h_p1_areas : Nat) (h_p1_heights : Nat) (h_p1_cliffs_cells : Nat) (h_p1_boulders_cells : Nat) (h_t_next : Nat) (h_t_stepsToGoal : Nat) (h_t_stepsFromEarlier : Nat) (p1_ridges : Int32) (p1_cliffs_limit : Int32) (p1_cliffs_size : Int32) (n_p1_cliffs_cells : Nat) (p1_cliffs_cells : Nat → Int32) (p1_boulders_limit : Int32) (p1_boulders_size : Int32) (n_p1_boulders_cells : Nat) (p1_boulders_cells : Nat → Int32) (t_stepsToGoal : Nat → Int32) (p2 : Int32) (p3 : Int32) (o0 : Int32) (hf : f_X7_stepsOfSort p1_cliffs_size n_p1_cliffs_cells p1_cliffs_cells p1_boulders_size n_p1_boulders_cells p1_boulders_cells t_stepsToGoal p2 p3 = some o0) : CM l yX7_stepsOfSort wsX7_stepsOfSort rmX7_stepsOfSort (kS te) dC dI cI cZ [.ref h_t, .ref h_p1, .int p2, .int p3] [(h_p1, .inr (1, fX1 h_p1_surfaces h_p1_cliffs h_p1_boulders h_p1_scratches h_p1_numbers h_p1_facts h_p1_signs h_p1_areas h_p1_heights p1_ridges)), (h_p1_cliffs, .inr (4, fX4 p1_cliffs_limit h_p1_cliffs_cells p1_cliffs_size)), (h_p1_cliffs_cells, .inl (cI, n_p1_cliffs_cells, .inl p1_cliffs_cells)), (h_p1_boulders, .inr (4, fX4 p1_boulders_limit h_p1_boulders_cells p1_boulders_size)), (h_p1_boulders_cells, .inl (cI, n_p1_boulders_cells, .inl p1_boulders_cells)), (h_t, .inr (6, fX7 h_t_next h_t_stepsToGoal h_t_stepsFromEarlier)), (h_t_stepsToGoal, .inl (cI, 64, .inl t_stepsToGoal))] [(h_p1, .inr (1, fX1 h_p1_surfaces h_p1_cliffs h_p1_boulders h_p1_scratches h_p1_numbers h_p1_facts h_p1_signs h_p1_areas h_p1_heights p1_ridges)), (h_p1_cliffs, .inr (4, fX4 p1_cliffs_limit h_p1_cliffs_cells p1_cliffs_size)), (h_p1_cliffs_cells, .inl (cI, n_p1_cliffs_cells, .inl p1_cliffs_cells)), (h_p1_boulders, .inr (4, fX4 p1_boulders_limit h_p1_boulders_cells p1_boulders_size)), (h_p1_boulders_cells, .inl (cI, n_p1_boulders_cells, .inl p1_boulders_cells)), (h_t, .inr (6, fX7 h_t_next h_t_stepsToGoal h_t_stepsFromEarlier)), (h_t_stepsToGoal, .inl (cI, 64, .inl t_stepsToGoal))] (some (.int o0)) := by
  refine CM_of (cc := cX7_stepsOfSort) (maxL := 4) (ret := (some .int)) (by decide +kernel) rfl (Nat.le_of_ble_eq_true rfl) ?_
  intro p e s m args below meth c A Q hx hb hr hml hown hts hlocks hA hK hP hD hS hE hQ hAe ls hl
  have hown : s.vm.findClass RX7 = some m.cls := hown
  have hl : lv_has ls 4 [(0, .ref h_t), (1, .ref h_p1), (2, .int p2), (3, .int p3)] := hl
  unfold f_X7_stepsOfSort at hf
  refine lv_aload_n hx hb dX7_stepsOfSort_0 rfl (lv_at hl 1 rfl) ?_
  refine va_get (D := (dC, dI)) (ci := 1) (v := .ref h_p1_cliffs) (C := RX1) (T := TX1) (N := 10) hx hb hts kX7_stepsOfSort_0 hown hK hP 0 rfl rfl 1 (by decide) (hts _ kX7_stepsOfSort_1) (fun _ h9 => h9) rfl dX7_stepsOfSort_1 ?_
  refine lv_iload_n hx hb dX7_stepsOfSort_4 rfl (lv_at hl 3 rfl) ?_
  refine lv_iconst (v := (1 : Int32)) hx hb dX7_stepsOfSort_5 (by decide) ?_
  obtain ⟨r1, hg2, hf⟩ := bd1_some hf
  refine CM_callV (C := RX4) (As := [.int p3, .int (1 : Int32)]) (rest := []) (wc := [(h_p1_cliffs, .inr (4, fX4 p1_cliffs_limit h_p1_cliffs_cells p1_cliffs_size)), (h_p1_cliffs_cells, .inl (cI, n_p1_cliffs_cells, .inl p1_cliffs_cells))]) (w1 := [(h_p1_cliffs, .inr (4, fX4 p1_cliffs_limit h_p1_cliffs_cells p1_cliffs_size)), (h_p1_cliffs_cells, .inl (cI, n_p1_cliffs_cells, .inl p1_cliffs_cells))]) (wr := [(h_p1, .inr (1, fX1 h_p1_surfaces h_p1_cliffs h_p1_boulders h_p1_scratches h_p1_numbers h_p1_facts h_p1_signs h_p1_areas h_p1_heights p1_ridges)), (h_p1_boulders, .inr (4, fX4 p1_boulders_limit h_p1_boulders_cells p1_boulders_size)), (h_p1_boulders_cells, .inl (cI, n_p1_boulders_cells, .inl p1_boulders_cells)), (h_t, .inr (6, fX7 h_t_next h_t_stepsToGoal h_t_stepsFromEarlier)), (h_t_stepsToGoal, .inl (cI, 64, .inl t_stepsToGoal))]) (wo := [(h_p1, .inr (1, fX1 h_p1_surfaces h_p1_cliffs h_p1_boulders h_p1_scratches h_p1_numbers h_p1_facts h_p1_signs h_p1_areas h_p1_heights p1_ridges)), (h_p1_cliffs, .inr (4, fX4 p1_cliffs_limit h_p1_cliffs_cells p1_cliffs_size)), (h_p1_cliffs_cells, .inl (cI, n_p1_cliffs_cells, .inl p1_cliffs_cells)), (h_p1_boulders, .inr (4, fX4 p1_boulders_limit h_p1_boulders_cells p1_boulders_size)), (h_p1_boulders_cells, .inl (cI, n_p1_boulders_cells, .inl p1_boulders_cells)), (h_t, .inr (6, fX7 h_t_next h_t_stepsToGoal h_t_stepsFromEarlier)), (h_t_stepsToGoal, .inl (cI, 64, .inl t_stepsToGoal))]) (v := (some (.int r1))) ⟨hx, hb, hml, hown, hts⟩ (c_X4_cell l dC dI cI cZ te h_p1_cliffs h_p1_cliffs_cells p1_cliffs_limit p1_cliffs_size n_p1_cliffs_cells p1_cliffs_cells p3 (1 : Int32) r1 hg2) (cwV 2 hts gX7_stepsOfSort_X4_cell rfl rfl rfl (by decide +kernel) ⟨Nat.le_of_ble_eq_true rfl, Nat.le_of_ble_eq_true rfl⟩) (kS_env te) hK hP hD hS hA hE [1, 2] [0, 3, 4, 5, 6] [0, 5, 6, 1, 2, 3, 4] rfl rfl (by decide) (by decide) (by decide) (by decide) rfl 1 4 rfl rfl rfl rfl hl.1 rfl (Nat.le_of_ble_eq_true rfl) dX7_stepsOfSort_6 ⟨Nat.zero_le _, Nat.zero_le _⟩ (fun H locs hP hD hS => ?_)
  show W p l e rmX7_stepsOfSort s m args below meth c H locs 0 0 Q (F0 m 9 ls [.int r1])
  refine lv_aload_n hx hb dX7_stepsOfSort_9 rfl (lv_at hl 1 rfl) ?_
  refine va_get (D := (dC, dI)) (ci := 1) (v := .ref h_p1_boulders) (C := RX1) (T := TX1) (N := 10) hx hb hts kX7_stepsOfSort_0 hown hK hP 0 rfl rfl 2 (by decide) (hts _ kX7_stepsOfSort_2) (fun _ h9 => h9) rfl dX7_stepsOfSort_10 ?_
  refine lv_iload_n hx hb dX7_stepsOfSort_13 rfl (lv_at hl 2 rfl) ?_
  refine lv_iconst (v := (1 : Int32)) hx hb dX7_stepsOfSort_14 (by decide) ?_
  obtain ⟨r3, hg4, hf⟩ := bd1_some hf
  refine CM_callV (C := RX4) (As := [.int p2, .int (1 : Int32)]) (rest := [.int r1]) (wc := [(h_p1_boulders, .inr (4, fX4 p1_boulders_limit h_p1_boulders_cells p1_boulders_size)), (h_p1_boulders_cells, .inl (cI, n_p1_boulders_cells, .inl p1_boulders_cells))]) (w1 := [(h_p1_boulders, .inr (4, fX4 p1_boulders_limit h_p1_boulders_cells p1_boulders_size)), (h_p1_boulders_cells, .inl (cI, n_p1_boulders_cells, .inl p1_boulders_cells))]) (wr := [(h_p1, .inr (1, fX1 h_p1_surfaces h_p1_cliffs h_p1_boulders h_p1_scratches h_p1_numbers h_p1_facts h_p1_signs h_p1_areas h_p1_heights p1_ridges)), (h_p1_cliffs, .inr (4, fX4 p1_cliffs_limit h_p1_cliffs_cells p1_cliffs_size)), (h_p1_cliffs_cells, .inl (cI, n_p1_cliffs_cells, .inl p1_cliffs_cells)), (h_t, .inr (6, fX7 h_t_next h_t_stepsToGoal h_t_stepsFromEarlier)), (h_t_stepsToGoal, .inl (cI, 64, .inl t_stepsToGoal))]) (wo := [(h_p1, .inr (1, fX1 h_p1_surfaces h_p1_cliffs h_p1_boulders h_p1_scratches h_p1_numbers h_p1_facts h_p1_signs h_p1_areas h_p1_heights p1_ridges)), (h_p1_cliffs, .inr (4, fX4 p1_cliffs_limit h_p1_cliffs_cells p1_cliffs_size)), (h_p1_cliffs_cells, .inl (cI, n_p1_cliffs_cells, .inl p1_cliffs_cells)), (h_p1_boulders, .inr (4, fX4 p1_boulders_limit h_p1_boulders_cells p1_boulders_size)), (h_p1_boulders_cells, .inl (cI, n_p1_boulders_cells, .inl p1_boulders_cells)), (h_t, .inr (6, fX7 h_t_next h_t_stepsToGoal h_t_stepsFromEarlier)), (h_t_stepsToGoal, .inl (cI, 64, .inl t_stepsToGoal))]) (v := (some (.int r3))) ⟨hx, hb, hml, hown, hts⟩ (c_X4_cell l dC dI cI cZ te h_p1_boulders h_p1_boulders_cells p1_boulders_limit p1_boulders_size n_p1_boulders_cells p1_boulders_cells p2 (1 : Int32) r3 hg4) (cwV 2 hts gX7_stepsOfSort_X4_cell rfl rfl rfl (by decide +kernel) ⟨Nat.le_of_ble_eq_true rfl, Nat.le_of_ble_eq_true rfl⟩) (kS_env te) hK hP hD hS hA hE [3, 4] [0, 1, 2, 5, 6] [0, 1, 2, 5, 6, 3, 4] rfl rfl (by decide) (by decide) (by decide) (by decide) rfl 3 4 rfl rfl rfl rfl hl.1 rfl (Nat.le_of_ble_eq_true rfl) dX7_stepsOfSort_15 ⟨Nat.zero_le _, Nat.zero_le _⟩ (fun H locs hP hD hS => ?_)
  show W p l e rmX7_stepsOfSort s m args below meth c H locs 0 0 Q (F0 m 18 ls [.int r3, .int r1])
  refine lv_icmp_eq (tgt := 23) hx hb dX7_stepsOfSort_18 (by decide) (fun c5 => ?_) (fun c5 => ?_)
  · replace hf := ifp c5 hf
    refine lv_aload_n hx hb dX7_stepsOfSort_23 rfl (lv_at hl 0 rfl) ?_
    refine lv_aload_n hx hb dX7_stepsOfSort_24 rfl (lv_at hl 1 rfl) ?_
    refine va_get (D := (dC, dI)) (ci := 1) (v := .ref h_p1_cliffs) (C := RX1) (T := TX1) (N := 10) hx hb hts kX7_stepsOfSort_0 hown hK hP 0 rfl rfl 1 (by decide) (hts _ kX7_stepsOfSort_1) (fun _ h9 => h9) rfl dX7_stepsOfSort_25 ?_
    refine lv_iload_n hx hb dX7_stepsOfSort_28 rfl (lv_at hl 3 rfl) ?_
    refine lv_iconst (v := (0 : Int32)) hx hb dX7_stepsOfSort_29 (by decide) ?_
    obtain ⟨r6, hg7, hf⟩ := bd1_some hf
    refine CM_callV (C := RX4) (As := [.int p3, .int (0 : Int32)]) (rest := [.ref h_t]) (wc := [(h_p1_cliffs, .inr (4, fX4 p1_cliffs_limit h_p1_cliffs_cells p1_cliffs_size)), (h_p1_cliffs_cells, .inl (cI, n_p1_cliffs_cells, .inl p1_cliffs_cells))]) (w1 := [(h_p1_cliffs, .inr (4, fX4 p1_cliffs_limit h_p1_cliffs_cells p1_cliffs_size)), (h_p1_cliffs_cells, .inl (cI, n_p1_cliffs_cells, .inl p1_cliffs_cells))]) (wr := [(h_p1, .inr (1, fX1 h_p1_surfaces h_p1_cliffs h_p1_boulders h_p1_scratches h_p1_numbers h_p1_facts h_p1_signs h_p1_areas h_p1_heights p1_ridges)), (h_p1_boulders, .inr (4, fX4 p1_boulders_limit h_p1_boulders_cells p1_boulders_size)), (h_p1_boulders_cells, .inl (cI, n_p1_boulders_cells, .inl p1_boulders_cells)), (h_t, .inr (6, fX7 h_t_next h_t_stepsToGoal h_t_stepsFromEarlier)), (h_t_stepsToGoal, .inl (cI, 64, .inl t_stepsToGoal))]) (wo := [(h_p1, .inr (1, fX1 h_p1_surfaces h_p1_cliffs h_p1_boulders h_p1_scratches h_p1_numbers h_p1_facts h_p1_signs h_p1_areas h_p1_heights p1_ridges)), (h_p1_cliffs, .inr (4, fX4 p1_cliffs_limit h_p1_cliffs_cells p1_cliffs_size)), (h_p1_cliffs_cells, .inl (cI, n_p1_cliffs_cells, .inl p1_cliffs_cells)), (h_p1_boulders, .inr (4, fX4 p1_boulders_limit h_p1_boulders_cells p1_boulders_size)), (h_p1_boulders_cells, .inl (cI, n_p1_boulders_cells, .inl p1_boulders_cells)), (h_t, .inr (6, fX7 h_t_next h_t_stepsToGoal h_t_stepsFromEarlier)), (h_t_stepsToGoal, .inl (cI, 64, .inl t_stepsToGoal))]) (v := (some (.int r6))) ⟨hx, hb, hml, hown, hts⟩ (c_X4_cell l dC dI cI cZ te h_p1_cliffs h_p1_cliffs_cells p1_cliffs_limit p1_cliffs_size n_p1_cliffs_cells p1_cliffs_cells p3 (0 : Int32) r6 hg7) (cwV 2 hts gX7_stepsOfSort_X4_cell rfl rfl rfl (by decide +kernel) ⟨Nat.le_of_ble_eq_true rfl, Nat.le_of_ble_eq_true rfl⟩) (kS_env te) hK hP hD hS hA hE [1, 2] [0, 3, 4, 5, 6] [0, 5, 6, 1, 2, 3, 4] rfl rfl (by decide) (by decide) (by decide) (by decide) rfl 1 4 rfl rfl rfl rfl hl.1 rfl (Nat.le_of_ble_eq_true rfl) dX7_stepsOfSort_30 ⟨Nat.zero_le _, Nat.zero_le _⟩ (fun H locs hP hD hS => ?_)
    show W p l e rmX7_stepsOfSort s m args below meth c H locs 0 0 Q (F0 m 33 ls [.int r6, .ref h_t])
    obtain ⟨r8, hg9, hf⟩ := bd1_some hf
    refine CM_callV (C := RX7) (As := [.int r6]) (rest := []) (wc := [(h_t, .inr (6, fX7 h_t_next h_t_stepsToGoal h_t_stepsFromEarlier)), (h_t_stepsToGoal, .inl (cI, 64, .inl t_stepsToGoal))]) (w1 := [(h_t, .inr (6, fX7 h_t_next h_t_stepsToGoal h_t_stepsFromEarlier)), (h_t_stepsToGoal, .inl (cI, 64, .inl t_stepsToGoal))]) (wr := [(h_p1, .inr (1, fX1 h_p1_surfaces h_p1_cliffs h_p1_boulders h_p1_scratches h_p1_numbers h_p1_facts h_p1_signs h_p1_areas h_p1_heights p1_ridges)), (h_p1_cliffs, .inr (4, fX4 p1_cliffs_limit h_p1_cliffs_cells p1_cliffs_size)), (h_p1_cliffs_cells, .inl (cI, n_p1_cliffs_cells, .inl p1_cliffs_cells)), (h_p1_boulders, .inr (4, fX4 p1_boulders_limit h_p1_boulders_cells p1_boulders_size)), (h_p1_boulders_cells, .inl (cI, n_p1_boulders_cells, .inl p1_boulders_cells))]) (wo := [(h_p1, .inr (1, fX1 h_p1_surfaces h_p1_cliffs h_p1_boulders h_p1_scratches h_p1_numbers h_p1_facts h_p1_signs h_p1_areas h_p1_heights p1_ridges)), (h_p1_cliffs, .inr (4, fX4 p1_cliffs_limit h_p1_cliffs_cells p1_cliffs_size)), (h_p1_cliffs_cells, .inl (cI, n_p1_cliffs_cells, .inl p1_cliffs_cells)), (h_p1_boulders, .inr (4, fX4 p1_boulders_limit h_p1_boulders_cells p1_boulders_size)), (h_p1_boulders_cells, .inl (cI, n_p1_boulders_cells, .inl p1_boulders_cells)), (h_t, .inr (6, fX7 h_t_next h_t_stepsToGoal h_t_stepsFromEarlier)), (h_t_stepsToGoal, .inl (cI, 64, .inl t_stepsToGoal))]) (v := (some (.int r8))) ⟨hx, hb, hml, hown, hts⟩ (c_X7_stepsFrom l dC dI cI cZ te h_t h_t_next h_t_stepsToGoal h_t_stepsFromEarlier t_stepsToGoal r6 r8 hg9) (cwV 1 hts gX7_stepsOfSort_X7_stepsFrom rfl rfl rfl (by decide +kernel) ⟨Nat.le_of_ble_eq_true rfl, Nat.le_of_ble_eq_true rfl⟩) (kS_env te) hK hP hD hS hA hE [5, 6] [0, 1, 2, 3, 4] [0, 1, 2, 3, 4, 5, 6] rfl rfl (by decide) (by decide) (by decide) (by decide) rfl 5 6 rfl rfl rfl rfl hl.1 rfl (Nat.le_of_ble_eq_true rfl) dX7_stepsOfSort_33 ⟨Nat.zero_le _, Nat.zero_le _⟩ (fun H locs hP hD hS => ?_)
    show W p l e rmX7_stepsOfSort s m args below meth c H locs 0 0 Q (F0 m 36 ls [.int r8])
    obtain rfl := inj1 hf
    subst hQ
    exact CM_iret hx hb hr rfl hlocks hAe hP hD hS dX7_stepsOfSort_36
  · replace hf := ifn c5 hf
    refine lv_iconst (v := (-1 : Int32)) hx hb dX7_stepsOfSort_21 (by decide) ?_
    obtain rfl := inj1 hf
    subst hQ
    exact CM_iret hx hb hr rfl hlocks hAe hP hD hS dX7_stepsOfSort_22
def rmX7_fittingCliffs : Room := { frames := 3, cells := 0, slots := 0, locals := 74 }
set_option maxRecDepth 20000 in
theorem kX7_fittingCliffs_0 : ∀ w ∈ u_ws RX1 TX1 10, w ∈ wsX7_fittingCliffs := by decide +kernel
set_option maxRecDepth 20000 in
theorem kX7_fittingCliffs_1 : Cond.fieldLink RX7 29 "StoneRiver$Found" "surfaces" "[I" ∈ wsX7_fittingCliffs := by decide +kernel
set_option maxRecDepth 20000 in
theorem kX7_fittingCliffs_2 : Cond.fieldLink RX7 34 "StoneRiver$Found" "boulders" "LStoneRiver$Rows;" ∈ wsX7_fittingCliffs := by decide +kernel
set_option maxRecDepth 20000 in
theorem kX7_fittingCliffs_3 : Cond.fieldLink RX7 47 "StoneRiver$Found" "cliffs" "LStoneRiver$Rows;" ∈ wsX7_fittingCliffs := by decide +kernel
set_option maxHeartbeats 4000000 in
set_option maxRecDepth 100000 in
theorem c_X7_fittingCliffs (l : Launch) (dC : Nat → ClassId) (dI : Nat → Nat → Nat) (cI cZ : ClassId) (te : Nat → Nat) (h_t : Nat) (h_p1 : Nat) (h_p1_surfaces : Nat) (h_p1_cliffs : Nat) (h_p1_boulders : Nat) (h_p1_scratches : Nat) (h_p1_numbers : Nat) (h_p1_facts : Nat) (h_p1_signs : Nat) (h_p1_areas : Nat) (h_p1_heights : Nat) (h_p1_boulders_cells : Nat) (h_t_next : Nat) (h_t_stepsToGoal : Nat) (h_t_stepsFromEarlier : Nat) (h_p1_cliffs_cells : Nat) (p1_ridges : Int32) (p1_boulders_limit : Int32) (p1_boulders_size : Int32) (n_p1_boulders_cells : Nat) (p1_boulders_cells : Nat → Int32) (t_stepsToGoal : Nat → Int32) (p1_surfaces : Nat → Int32) (t_next : Nat → Int32) (t_stepsFromEarlier : Nat → Int32) (p1_cliffs_limit : Int32) (p1_cliffs_size : Int32) (n_p1_cliffs_cells : Nat) (p1_cliffs_cells : Nat → Int32) (p2 : Int32) (o0 : Int32) (o1 : Nat → Int32) (o2 : Nat → Int32) (o3 : Nat → Int32) (hf : f_X7_fittingCliffs p1_boulders_size n_p1_boulders_cells p1_boulders_cells t_stepsToGoal p1_surfaces t_next t_stepsFromEarlier p1_cliffs_size n_p1_cliffs_cells p1_cliffs_cells p2 = some (o0, o1, o2, o3)) : CM l yX7_fittingCliffs wsX7_fittingCliffs rmX7_fittingCliffs (kS te) dC dI cI cZ [.ref h_t, .ref h_p1, .int p2] [(h_p1, .inr (1, fX1 h_p1_surfaces h_p1_cliffs h_p1_boulders h_p1_scratches h_p1_numbers h_p1_facts h_p1_signs h_p1_areas h_p1_heights p1_ridges)), (h_p1_boulders, .inr (4, fX4 p1_boulders_limit h_p1_boulders_cells p1_boulders_size)), (h_p1_boulders_cells, .inl (cI, n_p1_boulders_cells, .inl p1_boulders_cells)), (h_t, .inr (6, fX7 h_t_next h_t_stepsToGoal h_t_stepsFromEarlier)), (h_t_stepsToGoal, .inl (cI, 64, .inl t_stepsToGoal)), (h_p1_surfaces, .inl (cI, 192, .inl p1_surfaces)), (h_t_next, .inl (cI, 64, .inl t_next)), (h_t_stepsFromEarlier, .inl (cI, 64, .inl t_stepsFromEarlier)), (h_p1_cliffs, .inr (4, fX4 p1_cliffs_limit h_p1_cliffs_cells p1_cliffs_size)), (h_p1_cliffs_cells, .inl (cI, n_p1_cliffs_cells, .inl p1_cliffs_cells))] [(h_p1, .inr (1, fX1 h_p1_surfaces h_p1_cliffs h_p1_boulders h_p1_scratches h_p1_numbers h_p1_facts h_p1_signs h_p1_areas h_p1_heights p1_ridges)), (h_p1_boulders, .inr (4, fX4 p1_boulders_limit h_p1_boulders_cells p1_boulders_size)), (h_p1_boulders_cells, .inl (cI, n_p1_boulders_cells, .inl p1_boulders_cells)), (h_t, .inr (6, fX7 h_t_next h_t_stepsToGoal h_t_stepsFromEarlier)), (h_t_stepsToGoal, .inl (cI, 64, .inl o1)), (h_p1_surfaces, .inl (cI, 192, .inl p1_surfaces)), (h_t_next, .inl (cI, 64, .inl o2)), (h_t_stepsFromEarlier, .inl (cI, 64, .inl o3)), (h_p1_cliffs, .inr (4, fX4 p1_cliffs_limit h_p1_cliffs_cells p1_cliffs_size)), (h_p1_cliffs_cells, .inl (cI, n_p1_cliffs_cells, .inl p1_cliffs_cells))] (some (.int o0)) := by
  refine CM_of (cc := cX7_fittingCliffs) (maxL := 5) (ret := (some .int)) (by decide +kernel) rfl (Nat.le_of_ble_eq_true rfl) ?_
  intro p e s m args below meth c A Q hx hb hr hml hown hts hlocks hA hK hP hD hS hE hQ hAe ls hl
  have hown : s.vm.findClass RX7 = some m.cls := hown
  have hl : lv_has ls 5 [(0, .ref h_t), (1, .ref h_p1), (2, .int p2)] := hl
  unfold f_X7_fittingCliffs at hf
  refine lv_aload_n hx hb dX7_fittingCliffs_0 rfl (lv_at hl 0 rfl) ?_
  refine lv_aload_n hx hb dX7_fittingCliffs_1 rfl (lv_at hl 1 rfl) ?_
  refine va_get (D := (dC, dI)) (ci := 1) (v := .ref h_p1_surfaces) (C := RX1) (T := TX1) (N := 10) hx hb hts kX7_fittingCliffs_0 hown hK hP 0 rfl rfl 0 (by decide) (hts _ kX7_fittingCliffs_1) (fun _ h9 => h9) rfl dX7_fittingCliffs_2 ?_
  refine lv_aload_n hx hb dX7_fittingCliffs_5 rfl (lv_at hl 1 rfl) ?_
  refine va_get (D := (dC, dI)) (ci := 1) (v := .ref h_p1_boulders) (C := RX1) (T := TX1) (N := 10) hx hb hts kX7_fittingCliffs_0 hown hK hP 0 rfl rfl 2 (by decide) (hts _ kX7_fittingCliffs_2) (fun _ h9 => h9) rfl dX7_fittingCliffs_6 ?_
  refine lv_iload_n hx hb dX7_fittingCliffs_9 rfl (lv_at hl 2 rfl) ?_
  refine lv_iconst (v := (0 : Int32)) hx hb dX7_fittingCliffs_10 (by decide) ?_
  obtain ⟨r1, hg2, hf⟩ := bd1_some hf
  refine CM_callV (C := RX4) (As := [.int p2, .int (0 : Int32)]) (rest := [.ref h_p1_surfaces, .ref h_t]) (wc := [(h_p1_boulders, .inr (4, fX4 p1_boulders_limit h_p1_boulders_cells p1_boulders_size)), (h_p1_boulders_cells, .inl (cI, n_p1_boulders_cells, .inl p1_boulders_cells))]) (w1 := [(h_p1_boulders, .inr (4, fX4 p1_boulders_limit h_p1_boulders_cells p1_boulders_size)), (h_p1_boulders_cells, .inl (cI, n_p1_boulders_cells, .inl p1_boulders_cells))]) (wr := [(h_p1, .inr (1, fX1 h_p1_surfaces h_p1_cliffs h_p1_boulders h_p1_scratches h_p1_numbers h_p1_facts h_p1_signs h_p1_areas h_p1_heights p1_ridges)), (h_t, .inr (6, fX7 h_t_next h_t_stepsToGoal h_t_stepsFromEarlier)), (h_t_stepsToGoal, .inl (cI, 64, .inl t_stepsToGoal)), (h_p1_surfaces, .inl (cI, 192, .inl p1_surfaces)), (h_t_next, .inl (cI, 64, .inl t_next)), (h_t_stepsFromEarlier, .inl (cI, 64, .inl t_stepsFromEarlier)), (h_p1_cliffs, .inr (4, fX4 p1_cliffs_limit h_p1_cliffs_cells p1_cliffs_size)), (h_p1_cliffs_cells, .inl (cI, n_p1_cliffs_cells, .inl p1_cliffs_cells))]) (wo := [(h_p1, .inr (1, fX1 h_p1_surfaces h_p1_cliffs h_p1_boulders h_p1_scratches h_p1_numbers h_p1_facts h_p1_signs h_p1_areas h_p1_heights p1_ridges)), (h_p1_boulders, .inr (4, fX4 p1_boulders_limit h_p1_boulders_cells p1_boulders_size)), (h_p1_boulders_cells, .inl (cI, n_p1_boulders_cells, .inl p1_boulders_cells)), (h_t, .inr (6, fX7 h_t_next h_t_stepsToGoal h_t_stepsFromEarlier)), (h_t_stepsToGoal, .inl (cI, 64, .inl t_stepsToGoal)), (h_p1_surfaces, .inl (cI, 192, .inl p1_surfaces)), (h_t_next, .inl (cI, 64, .inl t_next)), (h_t_stepsFromEarlier, .inl (cI, 64, .inl t_stepsFromEarlier)), (h_p1_cliffs, .inr (4, fX4 p1_cliffs_limit h_p1_cliffs_cells p1_cliffs_size)), (h_p1_cliffs_cells, .inl (cI, n_p1_cliffs_cells, .inl p1_cliffs_cells))]) (v := (some (.int r1))) ⟨hx, hb, hml, hown, hts⟩ (c_X4_cell l dC dI cI cZ te h_p1_boulders h_p1_boulders_cells p1_boulders_limit p1_boulders_size n_p1_boulders_cells p1_boulders_cells p2 (0 : Int32) r1 hg2) (cwV 2 hts gX7_fittingCliffs_X4_cell rfl rfl rfl (by decide +kernel) ⟨Nat.le_of_ble_eq_true rfl, Nat.le_of_ble_eq_true rfl⟩) (kS_env te) hK hP hD hS hA hE [1, 2] [0, 3, 4, 5, 6, 7, 8, 9] [0, 8, 9, 1, 2, 3, 4, 5, 6, 7] rfl rfl (by decide) (by decide) (by decide) (by decide) rfl 1 4 rfl rfl rfl rfl hl.1 rfl (Nat.le_of_ble_eq_true rfl) dX7_fittingCliffs_11 ⟨Nat.zero_le _, Nat.zero_le _⟩ (fun H locs hP hD hS => ?_)
  show W p l e rmX7_fittingCliffs s m args below meth c H locs 0 0 Q (F0 m 14 ls [.int r1, .ref h_p1_surfaces, .ref h_t])
  obtain ⟨y3, y4, y5, hg6, hf⟩ := bd3_some hf
  refine CM_callV (C := RX7) (As := [.ref h_p1_surfaces, .int r1]) (rest := []) (wc := [(h_t, .inr (6, fX7 h_t_next h_t_stepsToGoal h_t_stepsFromEarlier)), (h_t_stepsToGoal, .inl (cI, 64, .inl t_stepsToGoal)), (h_p1_surfaces, .inl (cI, 192, .inl p1_surfaces)), (h_t_next, .inl (cI, 64, .inl t_next)), (h_t_stepsFromEarlier, .inl (cI, 64, .inl t_stepsFromEarlier))]) (w1 := [(h_t, .inr (6, fX7 h_t_next h_t_stepsToGoal h_t_stepsFromEarlier)), (h_t_stepsToGoal, .inl (cI, 64, .inl y3)), (h_p1_surfaces, .inl (cI, 192, .inl p1_surfaces)), (h_t_next, .inl (cI, 64, .inl y4)), (h_t_stepsFromEarlier, .inl (cI, 64, .inl y5))]) (wr := [(h_p1, .inr (1, fX1 h_p1_surfaces h_p1_cliffs h_p1_boulders h_p1_scratches h_p1_numbers h_p1_facts h_p1_signs h_p1_areas h_p1_heights p1_ridges)), (h_p1_boulders, .inr (4, fX4 p1_boulders_limit h_p1_boulders_cells p1_boulders_size)), (h_p1_boulders_cells, .inl (cI, n_p1_boulders_cells, .inl p1_boulders_cells)), (h_p1_cliffs, .inr (4, fX4 p1_cliffs_limit h_p1_cliffs_cells p1_cliffs_size)), (h_p1_cliffs_cells, .inl (cI, n_p1_cliffs_cells, .inl p1_cliffs_cells))]) (wo := [(h_p1, .inr (1, fX1 h_p1_surfaces h_p1_cliffs h_p1_boulders h_p1_scratches h_p1_numbers h_p1_facts h_p1_signs h_p1_areas h_p1_heights p1_ridges)), (h_p1_boulders, .inr (4, fX4 p1_boulders_limit h_p1_boulders_cells p1_boulders_size)), (h_p1_boulders_cells, .inl (cI, n_p1_boulders_cells, .inl p1_boulders_cells)), (h_t, .inr (6, fX7 h_t_next h_t_stepsToGoal h_t_stepsFromEarlier)), (h_t_stepsToGoal, .inl (cI, 64, .inl y3)), (h_p1_surfaces, .inl (cI, 192, .inl p1_surfaces)), (h_t_next, .inl (cI, 64, .inl y4)), (h_t_stepsFromEarlier, .inl (cI, 64, .inl y5)), (h_p1_cliffs, .inr (4, fX4 p1_cliffs_limit h_p1_cliffs_cells p1_cliffs_size)), (h_p1_cliffs_cells, .inl (cI, n_p1_cliffs_cells, .inl p1_cliffs_cells))]) (v := (none)) ⟨hx, hb, hml, hown, hts⟩ (c_X7_leadTo l dC dI cI cZ te h_t h_p1_surfaces h_t_next h_t_stepsToGoal h_t_stepsFromEarlier t_stepsToGoal (192) p1_surfaces t_next t_stepsFromEarlier r1 y3 y4 y5 hg6) (cwV 2 hts gX7_fittingCliffs_X7_leadTo rfl rfl rfl (by decide +kernel) ⟨Nat.le_of_ble_eq_true rfl, Nat.le_of_ble_eq_true rfl⟩) (kS_env te) hK hP hD hS hA hE [3, 4, 5, 6, 7] [0, 1, 2, 8, 9] [0, 1, 2, 5, 6, 7, 8, 9, 3, 4] rfl rfl (by decide) (by decide) (by decide) (by decide) rfl 3 6 rfl rfl rfl rfl hl.1 rfl (Nat.le_of_ble_eq_true rfl) dX7_fittingCliffs_14 ⟨Nat.zero_le _, Nat.zero_le _⟩ (fun H locs hP hD hS => ?_)
  show W p l e rmX7_fittingCliffs s m args below meth c H locs 0 0 Q (F0 m 17 ls [])
  refine lv_iconst (v := (0 : Int32)) hx hb dX7_fittingCliffs_17 (by decide) ?_
  refine lv_istore_n (lv' := [(3, .int (0 : Int32)), (0, .ref h_t), (1, .ref h_p1), (2, .int p2)]) hx hb dX7_fittingCliffs_18 rfl hl (by decide) rfl (fun ls hl => ?_)
  refine lv_iconst (v := (0 : Int32)) hx hb dX7_fittingCliffs_19 (by decide) ?_
  refine lv_istore (lv' := [(4, .int (0 : Int32)), (3, .int (0 : Int32)), (0, .ref h_t), (1, .ref h_p1), (2, .int p2)]) hx hb dX7_fittingCliffs_20 hl (by decide) rfl (fun ls hl => ?_)
  have L31 : ∀ (fu21 : Nat) (x18 : Int32) (x19 : Int32) (x17 : Int32), f_X7_fittingCliffs_L1 p1_cliffs_size n_p1_cliffs_cells p1_cliffs_cells p1_boulders_size n_p1_boulders_cells p1_boulders_cells y3 p2 fu21 x18 x19 = some x17 → (∀ (H : Heap) (locs : List Loc), va_P (dC, dI) vwCl [(h_p1, .inr (1, fX1 h_p1_surfaces h_p1_cliffs h_p1_boulders h_p1_scratches h_p1_numbers h_p1_facts h_p1_signs h_p1_areas h_p1_heights p1_ridges)), (h_p1_boulders, .inr (4, fX4 p1_boulders_limit h_p1_boulders_cells p1_boulders_size)), (h_p1_boulders_cells, .inl (cI, n_p1_boulders_cells, .inl p1_boulders_cells)), (h_t, .inr (6, fX7 h_t_next h_t_stepsToGoal h_t_stepsFromEarlier)), (h_t_stepsToGoal, .inl (cI, 64, .inl y3)), (h_p1_surfaces, .inl (cI, 192, .inl p1_surfaces)), (h_t_next, .inl (cI, 64, .inl y4)), (h_t_stepsFromEarlier, .inl (cI, 64, .inl y5)), (h_p1_cliffs, .inr (4, fX4 p1_cliffs_limit h_p1_cliffs_cells p1_cliffs_size)), (h_p1_cliffs_cells, .inl (cI, n_p1_cliffs_cells, .inl p1_cliffs_cells))] H → va_D A [(h_p1, .inr (1, fX1 h_p1_surfaces h_p1_cliffs h_p1_boulders h_p1_scratches h_p1_numbers h_p1_facts h_p1_signs h_p1_areas h_p1_heights p1_ridges)), (h_p1_boulders, .inr (4, fX4 p1_boulders_limit h_p1_boulders_cells p1_boulders_size)), (h_p1_boulders_cells, .inl (cI, n_p1_boulders_cells, .inl p1_boulders_cells)), (h_t, .inr (6, fX7 h_t_next h_t_stepsToGoal h_t_stepsFromEarlier)), (h_t_stepsToGoal, .inl (cI, 64, .inl y3)), (h_p1_surfaces, .inl (cI, 192, .inl p1_surfaces)), (h_t_next, .inl (cI, 64, .inl y4)), (h_t_stepsFromEarlier, .inl (cI, 64, .inl y5)), (h_p1_cliffs, .inr (4, fX4 p1_cliffs_limit h_p1_cliffs_cells p1_cliffs_size)), (h_p1_cliffs_cells, .inl (cI, n_p1_cliffs_cells, .inl p1_cliffs_cells))] → va_S A s.heap H locs → ∀ ls : Array Slot, lv_has ls 5 [(3, .int x17)] → W p l e rmX7_fittingCliffs s m args below meth c H locs 0 0 Q (F0 m 59 ls [])) → ∀ (H : Heap) (locs : List Loc), va_P (dC, dI) vwCl [(h_p1, .inr (1, fX1 h_p1_surfaces h_p1_cliffs h_p1_boulders h_p1_scratches h_p1_numbers h_p1_facts h_p1_signs h_p1_areas h_p1_heights p1_ridges)), (h_p1_boulders, .inr (4, fX4 p1_boulders_limit h_p1_boulders_cells p1_boulders_size)), (h_p1_boulders_cells, .inl (cI, n_p1_boulders_cells, .inl p1_boulders_cells)), (h_t, .inr (6, fX7 h_t_next h_t_stepsToGoal h_t_stepsFromEarlier)), (h_t_stepsToGoal, .inl (cI, 64, .inl y3)), (h_p1_surfaces, .inl (cI, 192, .inl p1_surfaces)), (h_t_next, .inl (cI, 64, .inl y4)), (h_t_stepsFromEarlier, .inl (cI, 64, .inl y5)), (h_p1_cliffs, .inr (4, fX4 p1_cliffs_limit h_p1_cliffs_cells p1_cliffs_size)), (h_p1_cliffs_cells, .inl (cI, n_p1_cliffs_cells, .inl p1_cliffs_cells))] H → va_D A [(h_p1, .inr (1, fX1 h_p1_surfaces h_p1_cliffs h_p1_boulders h_p1_scratches h_p1_numbers h_p1_facts h_p1_signs h_p1_areas h_p1_heights p1_ridges)), (h_p1_boulders, .inr (4, fX4 p1_boulders_limit h_p1_boulders_cells p1_boulders_size)), (h_p1_boulders_cells, .inl (cI, n_p1_boulders_cells, .inl p1_boulders_cells)), (h_t, .inr (6, fX7 h_t_next h_t_stepsToGoal h_t_stepsFromEarlier)), (h_t_stepsToGoal, .inl (cI, 64, .inl y3)), (h_p1_surfaces, .inl (cI, 192, .inl p1_surfaces)), (h_t_next, .inl (cI, 64, .inl y4)), (h_t_stepsFromEarlier, .inl (cI, 64, .inl y5)), (h_p1_cliffs, .inr (4, fX4 p1_cliffs_limit h_p1_cliffs_cells p1_cliffs_size)), (h_p1_cliffs_cells, .inl (cI, n_p1_cliffs_cells, .inl p1_cliffs_cells))] → va_S A s.heap H locs → ∀ ls : Array Slot, lv_has ls 5 [(0, .ref h_t), (1, .ref h_p1), (2, .int p2), (3, .int x18), (4, .int x19)] → W p l e rmX7_fittingCliffs s m args below meth c H locs 0 0 Q (F0 m 22 ls []) := by
    intro fu21
    induction fu21 with
    | zero =>
      intro x18 x19 x17 hf
      unfold f_X7_fittingCliffs_L1 at hf
      exact none_ne hf
    | succ fu21 ih20 =>
      intro x18 x19 x17 hf hX22 H locs hP hD hS ls hl
      unfold f_X7_fittingCliffs_L1 at hf
      refine lv_iload hx hb dX7_fittingCliffs_22 (lv_at hl 4 rfl) ?_
      refine lv_aload_n hx hb dX7_fittingCliffs_24 rfl (lv_at hl 1 rfl) ?_
      refine va_get (D := (dC, dI)) (ci := 1) (v := .ref h_p1_cliffs) (C := RX1) (T := TX1) (N := 10) hx hb hts kX7_fittingCliffs_0 hown hK hP 0 rfl rfl 1 (by decide) (hts _ kX7_fittingCliffs_3) (fun _ h9 => h9) rfl dX7_fittingCliffs_25 ?_
      obtain ⟨r23, hg24, hf⟩ := bd1_some hf
      refine CM_callV (C := RX4) (As := []) (rest := [.int x19]) (wc := [(h_p1_cliffs, .inr (4, fX4 p1_cliffs_limit h_p1_cliffs_cells p1_cliffs_size))]) (w1 := [(h_p1_cliffs, .inr (4, fX4 p1_cliffs_limit h_p1_cliffs_cells p1_cliffs_size))]) (wr := [(h_p1, .inr (1, fX1 h_p1_surfaces h_p1_cliffs h_p1_boulders h_p1_scratches h_p1_numbers h_p1_facts h_p1_signs h_p1_areas h_p1_heights p1_ridges)), (h_p1_boulders, .inr (4, fX4 p1_boulders_limit h_p1_boulders_cells p1_boulders_size)), (h_p1_boulders_cells, .inl (cI, n_p1_boulders_cells, .inl p1_boulders_cells)), (h_t, .inr (6, fX7 h_t_next h_t_stepsToGoal h_t_stepsFromEarlier)), (h_t_stepsToGoal, .inl (cI, 64, .inl y3)), (h_p1_surfaces, .inl (cI, 192, .inl p1_surfaces)), (h_t_next, .inl (cI, 64, .inl y4)), (h_t_stepsFromEarlier, .inl (cI, 64, .inl y5)), (h_p1_cliffs_cells, .inl (cI, n_p1_cliffs_cells, .inl p1_cliffs_cells))]) (wo := [(h_p1, .inr (1, fX1 h_p1_surfaces h_p1_cliffs h_p1_boulders h_p1_scratches h_p1_numbers h_p1_facts h_p1_signs h_p1_areas h_p1_heights p1_ridges)), (h_p1_boulders, .inr (4, fX4 p1_boulders_limit h_p1_boulders_cells p1_boulders_size)), (h_p1_boulders_cells, .inl (cI, n_p1_boulders_cells, .inl p1_boulders_cells)), (h_t, .inr (6, fX7 h_t_next h_t_stepsToGoal h_t_stepsFromEarlier)), (h_t_stepsToGoal, .inl (cI, 64, .inl y3)), (h_p1_surfaces, .inl (cI, 192, .inl p1_surfaces)), (h_t_next, .inl (cI, 64, .inl y4)), (h_t_stepsFromEarlier, .inl (cI, 64, .inl y5)), (h_p1_cliffs, .inr (4, fX4 p1_cliffs_limit h_p1_cliffs_cells p1_cliffs_size)), (h_p1_cliffs_cells, .inl (cI, n_p1_cliffs_cells, .inl p1_cliffs_cells))]) (v := (some (.int r23))) ⟨hx, hb, hml, hown, hts⟩ (c_X4_size l dC dI cI cZ te h_p1_cliffs h_p1_cliffs_cells p1_cliffs_limit p1_cliffs_size r23 hg24) (cwV 0 hts gX7_fittingCliffs_X4_size rfl rfl rfl (by decide +kernel) ⟨Nat.le_of_ble_eq_true rfl, Nat.le_of_ble_eq_true rfl⟩) (kS_env te) hK hP hD hS hA hE [8] [0, 1, 2, 3, 4, 5, 6, 7, 9] [0, 1, 2, 3, 4, 5, 6, 7, 9, 8] rfl rfl (by decide) (by decide) (by decide) (by decide) rfl 8 4 rfl rfl rfl rfl hl.1 rfl (Nat.le_of_ble_eq_true rfl) dX7_fittingCliffs_28 ⟨Nat.zero_le _, Nat.zero_le _⟩ (fun H locs hP hD hS => ?_)
      show W p l e rmX7_fittingCliffs s m args below meth c H locs 0 0 Q (F0 m 31 ls [.int r23, .int x19])
      refine lv_icmp_ge (tgt := 59) hx hb dX7_fittingCliffs_31 (by decide) (fun c25 => ?_) (fun c25 => ?_)
      · replace hf := ifp c25 hf
        obtain rfl := inj1 hf
        exact hX22 _ _ hP hD hS _ (lv_sub hl [3] rfl)
      · replace hf := ifn c25 hf
        refine lv_aload_n hx hb dX7_fittingCliffs_34 rfl (lv_at hl 0 rfl) ?_
        refine lv_aload_n hx hb dX7_fittingCliffs_35 rfl (lv_at hl 1 rfl) ?_
        refine lv_iload_n hx hb dX7_fittingCliffs_36 rfl (lv_at hl 2 rfl) ?_
        refine lv_iload hx hb dX7_fittingCliffs_37 (lv_at hl 4 rfl) ?_
        obtain ⟨r26, hg27, hf⟩ := bd1_some hf
        refine CM_callV (C := RX7) (As := [.ref h_p1, .int p2, .int x19]) (rest := []) (wc := [(h_p1, .inr (1, fX1 h_p1_surfaces h_p1_cliffs h_p1_boulders h_p1_scratches h_p1_numbers h_p1_facts h_p1_signs h_p1_areas h_p1_heights p1_ridges)), (h_p1_cliffs, .inr (4, fX4 p1_cliffs_limit h_p1_cliffs_cells p1_cliffs_size)), (h_p1_cliffs_cells, .inl (cI, n_p1_cliffs_cells, .inl p1_cliffs_cells)), (h_p1_boulders, .inr (4, fX4 p1_boulders_limit h_p1_boulders_cells p1_boulders_size)), (h_p1_boulders_cells, .inl (cI, n_p1_boulders_cells, .inl p1_boulders_cells)), (h_t, .inr (6, fX7 h_t_next h_t_stepsToGoal h_t_stepsFromEarlier)), (h_t_stepsToGoal, .inl (cI, 64, .inl y3))]) (w1 := [(h_p1, .inr (1, fX1 h_p1_surfaces h_p1_cliffs h_p1_boulders h_p1_scratches h_p1_numbers h_p1_facts h_p1_signs h_p1_areas h_p1_heights p1_ridges)), (h_p1_cliffs, .inr (4, fX4 p1_cliffs_limit h_p1_cliffs_cells p1_cliffs_size)), (h_p1_cliffs_cells, .inl (cI, n_p1_cliffs_cells, .inl p1_cliffs_cells)), (h_p1_boulders, .inr (4, fX4 p1_boulders_limit h_p1_boulders_cells p1_boulders_size)), (h_p1_boulders_cells, .inl (cI, n_p1_boulders_cells, .inl p1_boulders_cells)), (h_t, .inr (6, fX7 h_t_next h_t_stepsToGoal h_t_stepsFromEarlier)), (h_t_stepsToGoal, .inl (cI, 64, .inl y3))]) (wr := [(h_p1_surfaces, .inl (cI, 192, .inl p1_surfaces)), (h_t_next, .inl (cI, 64, .inl y4)), (h_t_stepsFromEarlier, .inl (cI, 64, .inl y5))]) (wo := [(h_p1, .inr (1, fX1 h_p1_surfaces h_p1_cliffs h_p1_boulders h_p1_scratches h_p1_numbers h_p1_facts h_p1_signs h_p1_areas h_p1_heights p1_ridges)), (h_p1_boulders, .inr (4, fX4 p1_boulders_limit h_p1_boulders_cells p1_boulders_size)), (h_p1_boulders_cells, .inl (cI, n_p1_boulders_cells, .inl p1_boulders_cells)), (h_t, .inr (6, fX7 h_t_next h_t_stepsToGoal h_t_stepsFromEarlier)), (h_t_stepsToGoal, .inl (cI, 64, .inl y3)), (h_p1_surfaces, .inl (cI, 192, .inl p1_surfaces)), (h_t_next, .inl (cI, 64, .inl y4)), (h_t_stepsFromEarlier, .inl (cI, 64, .inl y5)), (h_p1_cliffs, .inr (4, fX4 p1_cliffs_limit h_p1_cliffs_cells p1_cliffs_size)), (h_p1_cliffs_cells, .inl (cI, n_p1_cliffs_cells, .inl p1_cliffs_cells))]) (v := (some (.int r26))) ⟨hx, hb, hml, hown, hts⟩ (c_X7_stepsOfSort l dC dI cI cZ te h_t h_p1 h_p1_surfaces h_p1_cliffs h_p1_boulders h_p1_scratches h_p1_numbers h_p1_facts h_p1_signs h_p1_areas h_p1_heights h_p1_cliffs_cells h_p1_boulders_cells h_t_next h_t_stepsToGoal h_t_stepsFromEarlier p1_ridges p1_cliffs_limit p1_cliffs_size n_p1_cliffs_cells p1_cliffs_cells p1_boulders_limit p1_boulders_size n_p1_boulders_cells p1_boulders_cells y3 p2 x19 r26 hg27) (cwV 3 hts gX7_fittingCliffs_X7_stepsOfSort rfl rfl rfl (by decide +kernel) ⟨Nat.le_of_ble_eq_true rfl, Nat.le_of_ble_eq_true rfl⟩) (kS_env te) hK hP hD hS hA hE [0, 8, 9, 1, 2, 3, 4] [5, 6, 7] [3, 6, 7, 8, 9, 0, 1, 2, 4, 5] rfl rfl (by decide) (by decide) (by decide) (by decide) rfl 3 6 rfl rfl rfl rfl hl.1 rfl (Nat.le_of_ble_eq_true rfl) dX7_fittingCliffs_39 ⟨Nat.zero_le _, Nat.zero_le _⟩ (fun H locs hP hD hS => ?_)
        show W p l e rmX7_fittingCliffs s m args below meth c H locs 0 0 Q (F0 m 42 ls [.int r26])
        refine lv_iconst (v := (-1 : Int32)) hx hb dX7_fittingCliffs_42 (by decide) ?_
        refine lv_icmp_eq (tgt := 53) hx hb dX7_fittingCliffs_43 (by decide) (fun c28 => ?_) (fun c28 => ?_)
        · replace hf := ifp c28 hf
          refine lv_iinc (v := (x19 + (1 : Int32))) (lv' := [(4, .int (x19 + (1 : Int32))), (0, .ref h_t), (1, .ref h_p1), (2, .int p2), (3, .int x18)]) hx hb dX7_fittingCliffs_53 hl (k := 4) rfl rfl (by decide) rfl (fun ls hl => ?_)
          refine lv_goto (tgt := 22) hx hb dX7_fittingCliffs_56 (by decide) ?_
          exact ih20 _ _ _ hf hX22 _ _ hP hD hS _ (lv_sub hl [1, 2, 3, 4, 0] rfl)
        · replace hf := ifn c28 hf
          refine lv_iload_n hx hb dX7_fittingCliffs_46 rfl (lv_at hl 3 rfl) ?_
          refine lv_iconst (v := (1 : Int32)) hx hb dX7_fittingCliffs_47 (by decide) ?_
          refine lv_iload hx hb dX7_fittingCliffs_48 (lv_at hl 4 rfl) ?_
          refine lv_ishl hx hb dX7_fittingCliffs_50 ?_
          refine lv_ior hx hb dX7_fittingCliffs_51 ?_
          obtain ⟨x29, e30, hf⟩ := nm_some hf
          refine lv_tope e30 ?_
          refine lv_istore_n (lv' := [(3, .int x29), (0, .ref h_t), (1, .ref h_p1), (2, .int p2), (4, .int x19)]) hx hb dX7_fittingCliffs_52 rfl hl (by decide) rfl (fun ls hl => ?_)
          refine lv_iinc (v := (x19 + (1 : Int32))) (lv' := [(4, .int (x19 + (1 : Int32))), (3, .int x29), (0, .ref h_t), (1, .ref h_p1), (2, .int p2)]) hx hb dX7_fittingCliffs_53 hl (k := 4) rfl rfl (by decide) rfl (fun ls hl => ?_)
          refine lv_goto (tgt := 22) hx hb dX7_fittingCliffs_56 (by decide) ?_
          exact ih20 _ _ _ hf hX22 _ _ hP hD hS _ (lv_sub hl [2, 3, 4, 1, 0] rfl)
  obtain ⟨x17, hg, hf⟩ := bd1_some hf
  refine L31 FU _ _ _ hg ?_ _ _ hP hD hS _ (lv_sub hl [2, 3, 4, 1, 0] rfl)
  · intro H locs hP hD hS ls hl
    refine lv_iload_n hx hb dX7_fittingCliffs_59 rfl (lv_at hl 0 rfl) ?_
    obtain ⟨rfl, rfl, rfl, rfl⟩ := inj4 hf
    subst hQ
    exact CM_iret hx hb hr rfl hlocks hAe hP hD hS dX7_fittingCliffs_60
def rmX7_nearestCliff : Room := { frames := 3, cells := 0, slots := 0, locals := 74 }
set_option maxRecDepth 20000 in
theorem kX7_nearestCliff_0 : ∀ w ∈ u_ws RX1 TX1 10, w ∈ wsX7_nearestCliff := by decide +kernel
set_option maxRecDepth 20000 in
theorem kX7_nearestCliff_1 : Cond.fieldLink RX7 29 "StoneRiver$Found" "surfaces" "[I" ∈ wsX7_nearestCliff := by decide +kernel
set_option maxRecDepth 20000 in
theorem kX7_nearestCliff_2 : Cond.fieldLink RX7 34 "StoneRiver$Found" "boulders" "LStoneRiver$Rows;" ∈ wsX7_nearestCliff := by decide +kernel
set_option maxRecDepth 20000 in
theorem kX7_nearestCliff_3 : Cond.constant RX7 62 (1000000) ∈ wsX7_nearestCliff := by decide +kernel
set_option maxRecDepth 20000 in
theorem kX7_nearestCliff_4 : Cond.fieldLink RX7 47 "StoneRiver$Found" "cliffs" "LStoneRiver$Rows;" ∈ wsX7_nearestCliff := by decide +kernel
set_option maxHeartbeats 4000000 in
set_option maxRecDepth 100000 in
theorem c_X7_nearestCliff (l : Launch) (dC : Nat → ClassId) (dI : Nat → Nat → Nat) (cI cZ : ClassId) (te : Nat → Nat) (h_t : Nat) (h_p1 : Nat) (h_p1_surfaces : Nat) (h_p1_cliffs : Nat) (h_p1_boulders : Nat) (h_p1_scratches : Nat) (h_p1_numbers : Nat) (h_p1_facts : Nat) (h_p1_signs : Nat) (h_p1_areas : Nat) (h_p1_heights : Nat) (h_p1_boulders_cells : Nat) (h_t_next : Nat) (h_t_stepsToGoal : Nat) (h_t_stepsFromEarlier : Nat) (h_p1_cliffs_cells : Nat) (p1_ridges : Int32) (p1_boulders_limit : Int32) (p1_boulders_size : Int32) (n_p1_boulders_cells : Nat) (p1_boulders_cells : Nat → Int32) (t_stepsToGoal : Nat → Int32) (p1_surfaces : Nat → Int32) (t_next : Nat → Int32) (t_stepsFromEarlier : Nat → Int32) (p1_cliffs_limit : Int32) (p1_cliffs_size : Int32) (n_p1_cliffs_cells : Nat) (p1_cliffs_cells : Nat → Int32) (p2 : Int32) (o0 : Int32) (o1 : Nat → Int32) (o2 : Nat → Int32) (o3 : Nat → Int32) (hf : f_X7_nearestCliff p1_boulders_size n_p1_boulders_cells p1_boulders_cells t_stepsToGoal p1_surfaces t_next t_stepsFromEarlier p1_cliffs_size n_p1_cliffs_cells p1_cliffs_cells p2 = some (o0, o1, o2, o3)) : CM l yX7_nearestCliff wsX7_nearestCliff rmX7_nearestCliff (kS te) dC dI cI cZ [.ref h_t, .ref h_p1, .int p2] [(h_p1, .inr (1, fX1 h_p1_surfaces h_p1_cliffs h_p1_boulders h_p1_scratches h_p1_numbers h_p1_facts h_p1_signs h_p1_areas h_p1_heights p1_ridges)), (h_p1_boulders, .inr (4, fX4 p1_boulders_limit h_p1_boulders_cells p1_boulders_size)), (h_p1_boulders_cells, .inl (cI, n_p1_boulders_cells, .inl p1_boulders_cells)), (h_t, .inr (6, fX7 h_t_next h_t_stepsToGoal h_t_stepsFromEarlier)), (h_t_stepsToGoal, .inl (cI, 64, .inl t_stepsToGoal)), (h_p1_surfaces, .inl (cI, 192, .inl p1_surfaces)), (h_t_next, .inl (cI, 64, .inl t_next)), (h_t_stepsFromEarlier, .inl (cI, 64, .inl t_stepsFromEarlier)), (h_p1_cliffs, .inr (4, fX4 p1_cliffs_limit h_p1_cliffs_cells p1_cliffs_size)), (h_p1_cliffs_cells, .inl (cI, n_p1_cliffs_cells, .inl p1_cliffs_cells))] [(h_p1, .inr (1, fX1 h_p1_surfaces h_p1_cliffs h_p1_boulders h_p1_scratches h_p1_numbers h_p1_facts h_p1_signs h_p1_areas h_p1_heights p1_ridges)), (h_p1_boulders, .inr (4, fX4 p1_boulders_limit h_p1_boulders_cells p1_boulders_size)), (h_p1_boulders_cells, .inl (cI, n_p1_boulders_cells, .inl p1_boulders_cells)), (h_t, .inr (6, fX7 h_t_next h_t_stepsToGoal h_t_stepsFromEarlier)), (h_t_stepsToGoal, .inl (cI, 64, .inl o1)), (h_p1_surfaces, .inl (cI, 192, .inl p1_surfaces)), (h_t_next, .inl (cI, 64, .inl o2)), (h_t_stepsFromEarlier, .inl (cI, 64, .inl o3)), (h_p1_cliffs, .inr (4, fX4 p1_cliffs_limit h_p1_cliffs_cells p1_cliffs_size)), (h_p1_cliffs_cells, .inl (cI, n_p1_cliffs_cells, .inl p1_cliffs_cells))] (some (.int o0)) := by
  refine CM_of (cc := cX7_nearestCliff) (maxL := 7) (ret := (some .int)) (by decide +kernel) rfl (Nat.le_of_ble_eq_true rfl) ?_
  intro p e s m args below meth c A Q hx hb hr hml hown hts hlocks hA hK hP hD hS hE hQ hAe ls hl
  have hown : s.vm.findClass RX7 = some m.cls := hown
  have hl : lv_has ls 7 [(0, .ref h_t), (1, .ref h_p1), (2, .int p2)] := hl
  unfold f_X7_nearestCliff at hf
  refine lv_aload_n hx hb dX7_nearestCliff_0 rfl (lv_at hl 0 rfl) ?_
  refine lv_aload_n hx hb dX7_nearestCliff_1 rfl (lv_at hl 1 rfl) ?_
  refine va_get (D := (dC, dI)) (ci := 1) (v := .ref h_p1_surfaces) (C := RX1) (T := TX1) (N := 10) hx hb hts kX7_nearestCliff_0 hown hK hP 0 rfl rfl 0 (by decide) (hts _ kX7_nearestCliff_1) (fun _ h9 => h9) rfl dX7_nearestCliff_2 ?_
  refine lv_aload_n hx hb dX7_nearestCliff_5 rfl (lv_at hl 1 rfl) ?_
  refine va_get (D := (dC, dI)) (ci := 1) (v := .ref h_p1_boulders) (C := RX1) (T := TX1) (N := 10) hx hb hts kX7_nearestCliff_0 hown hK hP 0 rfl rfl 2 (by decide) (hts _ kX7_nearestCliff_2) (fun _ h9 => h9) rfl dX7_nearestCliff_6 ?_
  refine lv_iload_n hx hb dX7_nearestCliff_9 rfl (lv_at hl 2 rfl) ?_
  refine lv_iconst (v := (0 : Int32)) hx hb dX7_nearestCliff_10 (by decide) ?_
  obtain ⟨r1, hg2, hf⟩ := bd1_some hf
  refine CM_callV (C := RX4) (As := [.int p2, .int (0 : Int32)]) (rest := [.ref h_p1_surfaces, .ref h_t]) (wc := [(h_p1_boulders, .inr (4, fX4 p1_boulders_limit h_p1_boulders_cells p1_boulders_size)), (h_p1_boulders_cells, .inl (cI, n_p1_boulders_cells, .inl p1_boulders_cells))]) (w1 := [(h_p1_boulders, .inr (4, fX4 p1_boulders_limit h_p1_boulders_cells p1_boulders_size)), (h_p1_boulders_cells, .inl (cI, n_p1_boulders_cells, .inl p1_boulders_cells))]) (wr := [(h_p1, .inr (1, fX1 h_p1_surfaces h_p1_cliffs h_p1_boulders h_p1_scratches h_p1_numbers h_p1_facts h_p1_signs h_p1_areas h_p1_heights p1_ridges)), (h_t, .inr (6, fX7 h_t_next h_t_stepsToGoal h_t_stepsFromEarlier)), (h_t_stepsToGoal, .inl (cI, 64, .inl t_stepsToGoal)), (h_p1_surfaces, .inl (cI, 192, .inl p1_surfaces)), (h_t_next, .inl (cI, 64, .inl t_next)), (h_t_stepsFromEarlier, .inl (cI, 64, .inl t_stepsFromEarlier)), (h_p1_cliffs, .inr (4, fX4 p1_cliffs_limit h_p1_cliffs_cells p1_cliffs_size)), (h_p1_cliffs_cells, .inl (cI, n_p1_cliffs_cells, .inl p1_cliffs_cells))]) (wo := [(h_p1, .inr (1, fX1 h_p1_surfaces h_p1_cliffs h_p1_boulders h_p1_scratches h_p1_numbers h_p1_facts h_p1_signs h_p1_areas h_p1_heights p1_ridges)), (h_p1_boulders, .inr (4, fX4 p1_boulders_limit h_p1_boulders_cells p1_boulders_size)), (h_p1_boulders_cells, .inl (cI, n_p1_boulders_cells, .inl p1_boulders_cells)), (h_t, .inr (6, fX7 h_t_next h_t_stepsToGoal h_t_stepsFromEarlier)), (h_t_stepsToGoal, .inl (cI, 64, .inl t_stepsToGoal)), (h_p1_surfaces, .inl (cI, 192, .inl p1_surfaces)), (h_t_next, .inl (cI, 64, .inl t_next)), (h_t_stepsFromEarlier, .inl (cI, 64, .inl t_stepsFromEarlier)), (h_p1_cliffs, .inr (4, fX4 p1_cliffs_limit h_p1_cliffs_cells p1_cliffs_size)), (h_p1_cliffs_cells, .inl (cI, n_p1_cliffs_cells, .inl p1_cliffs_cells))]) (v := (some (.int r1))) ⟨hx, hb, hml, hown, hts⟩ (c_X4_cell l dC dI cI cZ te h_p1_boulders h_p1_boulders_cells p1_boulders_limit p1_boulders_size n_p1_boulders_cells p1_boulders_cells p2 (0 : Int32) r1 hg2) (cwV 2 hts gX7_nearestCliff_X4_cell rfl rfl rfl (by decide +kernel) ⟨Nat.le_of_ble_eq_true rfl, Nat.le_of_ble_eq_true rfl⟩) (kS_env te) hK hP hD hS hA hE [1, 2] [0, 3, 4, 5, 6, 7, 8, 9] [0, 8, 9, 1, 2, 3, 4, 5, 6, 7] rfl rfl (by decide) (by decide) (by decide) (by decide) rfl 1 4 rfl rfl rfl rfl hl.1 rfl (Nat.le_of_ble_eq_true rfl) dX7_nearestCliff_11 ⟨Nat.zero_le _, Nat.zero_le _⟩ (fun H locs hP hD hS => ?_)
  show W p l e rmX7_nearestCliff s m args below meth c H locs 0 0 Q (F0 m 14 ls [.int r1, .ref h_p1_surfaces, .ref h_t])
  obtain ⟨y3, y4, y5, hg6, hf⟩ := bd3_some hf
  refine CM_callV (C := RX7) (As := [.ref h_p1_surfaces, .int r1]) (rest := []) (wc := [(h_t, .inr (6, fX7 h_t_next h_t_stepsToGoal h_t_stepsFromEarlier)), (h_t_stepsToGoal, .inl (cI, 64, .inl t_stepsToGoal)), (h_p1_surfaces, .inl (cI, 192, .inl p1_surfaces)), (h_t_next, .inl (cI, 64, .inl t_next)), (h_t_stepsFromEarlier, .inl (cI, 64, .inl t_stepsFromEarlier))]) (w1 := [(h_t, .inr (6, fX7 h_t_next h_t_stepsToGoal h_t_stepsFromEarlier)), (h_t_stepsToGoal, .inl (cI, 64, .inl y3)), (h_p1_surfaces, .inl (cI, 192, .inl p1_surfaces)), (h_t_next, .inl (cI, 64, .inl y4)), (h_t_stepsFromEarlier, .inl (cI, 64, .inl y5))]) (wr := [(h_p1, .inr (1, fX1 h_p1_surfaces h_p1_cliffs h_p1_boulders h_p1_scratches h_p1_numbers h_p1_facts h_p1_signs h_p1_areas h_p1_heights p1_ridges)), (h_p1_boulders, .inr (4, fX4 p1_boulders_limit h_p1_boulders_cells p1_boulders_size)), (h_p1_boulders_cells, .inl (cI, n_p1_boulders_cells, .inl p1_boulders_cells)), (h_p1_cliffs, .inr (4, fX4 p1_cliffs_limit h_p1_cliffs_cells p1_cliffs_size)), (h_p1_cliffs_cells, .inl (cI, n_p1_cliffs_cells, .inl p1_cliffs_cells))]) (wo := [(h_p1, .inr (1, fX1 h_p1_surfaces h_p1_cliffs h_p1_boulders h_p1_scratches h_p1_numbers h_p1_facts h_p1_signs h_p1_areas h_p1_heights p1_ridges)), (h_p1_boulders, .inr (4, fX4 p1_boulders_limit h_p1_boulders_cells p1_boulders_size)), (h_p1_boulders_cells, .inl (cI, n_p1_boulders_cells, .inl p1_boulders_cells)), (h_t, .inr (6, fX7 h_t_next h_t_stepsToGoal h_t_stepsFromEarlier)), (h_t_stepsToGoal, .inl (cI, 64, .inl y3)), (h_p1_surfaces, .inl (cI, 192, .inl p1_surfaces)), (h_t_next, .inl (cI, 64, .inl y4)), (h_t_stepsFromEarlier, .inl (cI, 64, .inl y5)), (h_p1_cliffs, .inr (4, fX4 p1_cliffs_limit h_p1_cliffs_cells p1_cliffs_size)), (h_p1_cliffs_cells, .inl (cI, n_p1_cliffs_cells, .inl p1_cliffs_cells))]) (v := (none)) ⟨hx, hb, hml, hown, hts⟩ (c_X7_leadTo l dC dI cI cZ te h_t h_p1_surfaces h_t_next h_t_stepsToGoal h_t_stepsFromEarlier t_stepsToGoal (192) p1_surfaces t_next t_stepsFromEarlier r1 y3 y4 y5 hg6) (cwV 2 hts gX7_nearestCliff_X7_leadTo rfl rfl rfl (by decide +kernel) ⟨Nat.le_of_ble_eq_true rfl, Nat.le_of_ble_eq_true rfl⟩) (kS_env te) hK hP hD hS hA hE [3, 4, 5, 6, 7] [0, 1, 2, 8, 9] [0, 1, 2, 5, 6, 7, 8, 9, 3, 4] rfl rfl (by decide) (by decide) (by decide) (by decide) rfl 3 6 rfl rfl rfl rfl hl.1 rfl (Nat.le_of_ble_eq_true rfl) dX7_nearestCliff_14 ⟨Nat.zero_le _, Nat.zero_le _⟩ (fun H locs hP hD hS => ?_)
  show W p l e rmX7_nearestCliff s m args below meth c H locs 0 0 Q (F0 m 17 ls [])
  refine lv_iconst (v := (-1 : Int32)) hx hb dX7_nearestCliff_17 (by decide) ?_
  refine lv_istore_n (lv' := [(3, .int (-1 : Int32)), (0, .ref h_t), (1, .ref h_p1), (2, .int p2)]) hx hb dX7_nearestCliff_18 rfl hl (by decide) rfl (fun ls hl => ?_)
  refine lv_ldc (v := (1000000 : Int32)) hx hb hown (hts _ kX7_nearestCliff_3) dX7_nearestCliff_19 ?_
  refine lv_istore (lv' := [(4, .int (1000000 : Int32)), (3, .int (-1 : Int32)), (0, .ref h_t), (1, .ref h_p1), (2, .int p2)]) hx hb dX7_nearestCliff_21 hl (by decide) rfl (fun ls hl => ?_)
  refine lv_iconst (v := (0 : Int32)) hx hb dX7_nearestCliff_23 (by decide) ?_
  refine lv_istore (lv' := [(5, .int (0 : Int32)), (4, .int (1000000 : Int32)), (3, .int (-1 : Int32)), (0, .ref h_t), (1, .ref h_p1), (2, .int p2)]) hx hb dX7_nearestCliff_24 hl (by decide) rfl (fun ls hl => ?_)
  have L31 : ∀ (fu22 : Nat) (x18 : Int32) (x19 : Int32) (x20 : Int32) (x17 : Int32), f_X7_nearestCliff_L1 p1_cliffs_size n_p1_cliffs_cells p1_cliffs_cells p1_boulders_size n_p1_boulders_cells p1_boulders_cells y3 p2 fu22 x18 x19 x20 = some x17 → (∀ (H : Heap) (locs : List Loc), va_P (dC, dI) vwCl [(h_p1, .inr (1, fX1 h_p1_surfaces h_p1_cliffs h_p1_boulders h_p1_scratches h_p1_numbers h_p1_facts h_p1_signs h_p1_areas h_p1_heights p1_ridges)), (h_p1_boulders, .inr (4, fX4 p1_boulders_limit h_p1_boulders_cells p1_boulders_size)), (h_p1_boulders_cells, .inl (cI, n_p1_boulders_cells, .inl p1_boulders_cells)), (h_t, .inr (6, fX7 h_t_next h_t_stepsToGoal h_t_stepsFromEarlier)), (h_t_stepsToGoal, .inl (cI, 64, .inl y3)), (h_p1_surfaces, .inl (cI, 192, .inl p1_surfaces)), (h_t_next, .inl (cI, 64, .inl y4)), (h_t_stepsFromEarlier, .inl (cI, 64, .inl y5)), (h_p1_cliffs, .inr (4, fX4 p1_cliffs_limit h_p1_cliffs_cells p1_cliffs_size)), (h_p1_cliffs_cells, .inl (cI, n_p1_cliffs_cells, .inl p1_cliffs_cells))] H → va_D A [(h_p1, .inr (1, fX1 h_p1_surfaces h_p1_cliffs h_p1_boulders h_p1_scratches h_p1_numbers h_p1_facts h_p1_signs h_p1_areas h_p1_heights p1_ridges)), (h_p1_boulders, .inr (4, fX4 p1_boulders_limit h_p1_boulders_cells p1_boulders_size)), (h_p1_boulders_cells, .inl (cI, n_p1_boulders_cells, .inl p1_boulders_cells)), (h_t, .inr (6, fX7 h_t_next h_t_stepsToGoal h_t_stepsFromEarlier)), (h_t_stepsToGoal, .inl (cI, 64, .inl y3)), (h_p1_surfaces, .inl (cI, 192, .inl p1_surfaces)), (h_t_next, .inl (cI, 64, .inl y4)), (h_t_stepsFromEarlier, .inl (cI, 64, .inl y5)), (h_p1_cliffs, .inr (4, fX4 p1_cliffs_limit h_p1_cliffs_cells p1_cliffs_size)), (h_p1_cliffs_cells, .inl (cI, n_p1_cliffs_cells, .inl p1_cliffs_cells))] → va_S A s.heap H locs → ∀ ls : Array Slot, lv_has ls 7 [(3, .int x17)] → W p l e rmX7_nearestCliff s m args below meth c H locs 0 0 Q (F0 m 74 ls [])) → ∀ (H : Heap) (locs : List Loc), va_P (dC, dI) vwCl [(h_p1, .inr (1, fX1 h_p1_surfaces h_p1_cliffs h_p1_boulders h_p1_scratches h_p1_numbers h_p1_facts h_p1_signs h_p1_areas h_p1_heights p1_ridges)), (h_p1_boulders, .inr (4, fX4 p1_boulders_limit h_p1_boulders_cells p1_boulders_size)), (h_p1_boulders_cells, .inl (cI, n_p1_boulders_cells, .inl p1_boulders_cells)), (h_t, .inr (6, fX7 h_t_next h_t_stepsToGoal h_t_stepsFromEarlier)), (h_t_stepsToGoal, .inl (cI, 64, .inl y3)), (h_p1_surfaces, .inl (cI, 192, .inl p1_surfaces)), (h_t_next, .inl (cI, 64, .inl y4)), (h_t_stepsFromEarlier, .inl (cI, 64, .inl y5)), (h_p1_cliffs, .inr (4, fX4 p1_cliffs_limit h_p1_cliffs_cells p1_cliffs_size)), (h_p1_cliffs_cells, .inl (cI, n_p1_cliffs_cells, .inl p1_cliffs_cells))] H → va_D A [(h_p1, .inr (1, fX1 h_p1_surfaces h_p1_cliffs h_p1_boulders h_p1_scratches h_p1_numbers h_p1_facts h_p1_signs h_p1_areas h_p1_heights p1_ridges)), (h_p1_boulders, .inr (4, fX4 p1_boulders_limit h_p1_boulders_cells p1_boulders_size)), (h_p1_boulders_cells, .inl (cI, n_p1_boulders_cells, .inl p1_boulders_cells)), (h_t, .inr (6, fX7 h_t_next h_t_stepsToGoal h_t_stepsFromEarlier)), (h_t_stepsToGoal, .inl (cI, 64, .inl y3)), (h_p1_surfaces, .inl (cI, 192, .inl p1_surfaces)), (h_t_next, .inl (cI, 64, .inl y4)), (h_t_stepsFromEarlier, .inl (cI, 64, .inl y5)), (h_p1_cliffs, .inr (4, fX4 p1_cliffs_limit h_p1_cliffs_cells p1_cliffs_size)), (h_p1_cliffs_cells, .inl (cI, n_p1_cliffs_cells, .inl p1_cliffs_cells))] → va_S A s.heap H locs → ∀ ls : Array Slot, lv_has ls 7 [(0, .ref h_t), (1, .ref h_p1), (2, .int p2), (3, .int x18), (4, .int x19), (5, .int x20)] → W p l e rmX7_nearestCliff s m args below meth c H locs 0 0 Q (F0 m 26 ls []) := by
    intro fu22
    induction fu22 with
    | zero =>
      intro x18 x19 x20 x17 hf
      unfold f_X7_nearestCliff_L1 at hf
      exact none_ne hf
    | succ fu22 ih21 =>
      intro x18 x19 x20 x17 hf hX23 H locs hP hD hS ls hl
      unfold f_X7_nearestCliff_L1 at hf
      refine lv_iload hx hb dX7_nearestCliff_26 (lv_at hl 5 rfl) ?_
      refine lv_aload_n hx hb dX7_nearestCliff_28 rfl (lv_at hl 1 rfl) ?_
      refine va_get (D := (dC, dI)) (ci := 1) (v := .ref h_p1_cliffs) (C := RX1) (T := TX1) (N := 10) hx hb hts kX7_nearestCliff_0 hown hK hP 0 rfl rfl 1 (by decide) (hts _ kX7_nearestCliff_4) (fun _ h9 => h9) rfl dX7_nearestCliff_29 ?_
      obtain ⟨r24, hg25, hf⟩ := bd1_some hf
      refine CM_callV (C := RX4) (As := []) (rest := [.int x20]) (wc := [(h_p1_cliffs, .inr (4, fX4 p1_cliffs_limit h_p1_cliffs_cells p1_cliffs_size))]) (w1 := [(h_p1_cliffs, .inr (4, fX4 p1_cliffs_limit h_p1_cliffs_cells p1_cliffs_size))]) (wr := [(h_p1, .inr (1, fX1 h_p1_surfaces h_p1_cliffs h_p1_boulders h_p1_scratches h_p1_numbers h_p1_facts h_p1_signs h_p1_areas h_p1_heights p1_ridges)), (h_p1_boulders, .inr (4, fX4 p1_boulders_limit h_p1_boulders_cells p1_boulders_size)), (h_p1_boulders_cells, .inl (cI, n_p1_boulders_cells, .inl p1_boulders_cells)), (h_t, .inr (6, fX7 h_t_next h_t_stepsToGoal h_t_stepsFromEarlier)), (h_t_stepsToGoal, .inl (cI, 64, .inl y3)), (h_p1_surfaces, .inl (cI, 192, .inl p1_surfaces)), (h_t_next, .inl (cI, 64, .inl y4)), (h_t_stepsFromEarlier, .inl (cI, 64, .inl y5)), (h_p1_cliffs_cells, .inl (cI, n_p1_cliffs_cells, .inl p1_cliffs_cells))]) (wo := [(h_p1, .inr (1, fX1 h_p1_surfaces h_p1_cliffs h_p1_boulders h_p1_scratches h_p1_numbers h_p1_facts h_p1_signs h_p1_areas h_p1_heights p1_ridges)), (h_p1_boulders, .inr (4, fX4 p1_boulders_limit h_p1_boulders_cells p1_boulders_size)), (h_p1_boulders_cells, .inl (cI, n_p1_boulders_cells, .inl p1_boulders_cells)), (h_t, .inr (6, fX7 h_t_next h_t_stepsToGoal h_t_stepsFromEarlier)), (h_t_stepsToGoal, .inl (cI, 64, .inl y3)), (h_p1_surfaces, .inl (cI, 192, .inl p1_surfaces)), (h_t_next, .inl (cI, 64, .inl y4)), (h_t_stepsFromEarlier, .inl (cI, 64, .inl y5)), (h_p1_cliffs, .inr (4, fX4 p1_cliffs_limit h_p1_cliffs_cells p1_cliffs_size)), (h_p1_cliffs_cells, .inl (cI, n_p1_cliffs_cells, .inl p1_cliffs_cells))]) (v := (some (.int r24))) ⟨hx, hb, hml, hown, hts⟩ (c_X4_size l dC dI cI cZ te h_p1_cliffs h_p1_cliffs_cells p1_cliffs_limit p1_cliffs_size r24 hg25) (cwV 0 hts gX7_nearestCliff_X4_size rfl rfl rfl (by decide +kernel) ⟨Nat.le_of_ble_eq_true rfl, Nat.le_of_ble_eq_true rfl⟩) (kS_env te) hK hP hD hS hA hE [8] [0, 1, 2, 3, 4, 5, 6, 7, 9] [0, 1, 2, 3, 4, 5, 6, 7, 9, 8] rfl rfl (by decide) (by decide) (by decide) (by decide) rfl 8 4 rfl rfl rfl rfl hl.1 rfl (Nat.le_of_ble_eq_true rfl) dX7_nearestCliff_32 ⟨Nat.zero_le _, Nat.zero_le _⟩ (fun H locs hP hD hS => ?_)
      show W p l e rmX7_nearestCliff s m args below meth c H locs 0 0 Q (F0 m 35 ls [.int r24, .int x20])
      refine lv_icmp_ge (tgt := 74) hx hb dX7_nearestCliff_35 (by decide) (fun c26 => ?_) (fun c26 => ?_)
      · replace hf := ifp c26 hf
        obtain rfl := inj1 hf
        exact hX23 _ _ hP hD hS _ (lv_sub hl [3] rfl)
      · replace hf := ifn c26 hf
        refine lv_aload_n hx hb dX7_nearestCliff_38 rfl (lv_at hl 0 rfl) ?_
        refine lv_aload_n hx hb dX7_nearestCliff_39 rfl (lv_at hl 1 rfl) ?_
        refine lv_iload_n hx hb dX7_nearestCliff_40 rfl (lv_at hl 2 rfl) ?_
        refine lv_iload hx hb dX7_nearestCliff_41 (lv_at hl 5 rfl) ?_
        obtain ⟨r27, hg28, hf⟩ := bd1_some hf
        refine CM_callV (C := RX7) (As := [.ref h_p1, .int p2, .int x20]) (rest := []) (wc := [(h_p1, .inr (1, fX1 h_p1_surfaces h_p1_cliffs h_p1_boulders h_p1_scratches h_p1_numbers h_p1_facts h_p1_signs h_p1_areas h_p1_heights p1_ridges)), (h_p1_cliffs, .inr (4, fX4 p1_cliffs_limit h_p1_cliffs_cells p1_cliffs_size)), (h_p1_cliffs_cells, .inl (cI, n_p1_cliffs_cells, .inl p1_cliffs_cells)), (h_p1_boulders, .inr (4, fX4 p1_boulders_limit h_p1_boulders_cells p1_boulders_size)), (h_p1_boulders_cells, .inl (cI, n_p1_boulders_cells, .inl p1_boulders_cells)), (h_t, .inr (6, fX7 h_t_next h_t_stepsToGoal h_t_stepsFromEarlier)), (h_t_stepsToGoal, .inl (cI, 64, .inl y3))]) (w1 := [(h_p1, .inr (1, fX1 h_p1_surfaces h_p1_cliffs h_p1_boulders h_p1_scratches h_p1_numbers h_p1_facts h_p1_signs h_p1_areas h_p1_heights p1_ridges)), (h_p1_cliffs, .inr (4, fX4 p1_cliffs_limit h_p1_cliffs_cells p1_cliffs_size)), (h_p1_cliffs_cells, .inl (cI, n_p1_cliffs_cells, .inl p1_cliffs_cells)), (h_p1_boulders, .inr (4, fX4 p1_boulders_limit h_p1_boulders_cells p1_boulders_size)), (h_p1_boulders_cells, .inl (cI, n_p1_boulders_cells, .inl p1_boulders_cells)), (h_t, .inr (6, fX7 h_t_next h_t_stepsToGoal h_t_stepsFromEarlier)), (h_t_stepsToGoal, .inl (cI, 64, .inl y3))]) (wr := [(h_p1_surfaces, .inl (cI, 192, .inl p1_surfaces)), (h_t_next, .inl (cI, 64, .inl y4)), (h_t_stepsFromEarlier, .inl (cI, 64, .inl y5))]) (wo := [(h_p1, .inr (1, fX1 h_p1_surfaces h_p1_cliffs h_p1_boulders h_p1_scratches h_p1_numbers h_p1_facts h_p1_signs h_p1_areas h_p1_heights p1_ridges)), (h_p1_boulders, .inr (4, fX4 p1_boulders_limit h_p1_boulders_cells p1_boulders_size)), (h_p1_boulders_cells, .inl (cI, n_p1_boulders_cells, .inl p1_boulders_cells)), (h_t, .inr (6, fX7 h_t_next h_t_stepsToGoal h_t_stepsFromEarlier)), (h_t_stepsToGoal, .inl (cI, 64, .inl y3)), (h_p1_surfaces, .inl (cI, 192, .inl p1_surfaces)), (h_t_next, .inl (cI, 64, .inl y4)), (h_t_stepsFromEarlier, .inl (cI, 64, .inl y5)), (h_p1_cliffs, .inr (4, fX4 p1_cliffs_limit h_p1_cliffs_cells p1_cliffs_size)), (h_p1_cliffs_cells, .inl (cI, n_p1_cliffs_cells, .inl p1_cliffs_cells))]) (v := (some (.int r27))) ⟨hx, hb, hml, hown, hts⟩ (c_X7_stepsOfSort l dC dI cI cZ te h_t h_p1 h_p1_surfaces h_p1_cliffs h_p1_boulders h_p1_scratches h_p1_numbers h_p1_facts h_p1_signs h_p1_areas h_p1_heights h_p1_cliffs_cells h_p1_boulders_cells h_t_next h_t_stepsToGoal h_t_stepsFromEarlier p1_ridges p1_cliffs_limit p1_cliffs_size n_p1_cliffs_cells p1_cliffs_cells p1_boulders_limit p1_boulders_size n_p1_boulders_cells p1_boulders_cells y3 p2 x20 r27 hg28) (cwV 3 hts gX7_nearestCliff_X7_stepsOfSort rfl rfl rfl (by decide +kernel) ⟨Nat.le_of_ble_eq_true rfl, Nat.le_of_ble_eq_true rfl⟩) (kS_env te) hK hP hD hS hA hE [0, 8, 9, 1, 2, 3, 4] [5, 6, 7] [3, 6, 7, 8, 9, 0, 1, 2, 4, 5] rfl rfl (by decide) (by decide) (by decide) (by decide) rfl 3 6 rfl rfl rfl rfl hl.1 rfl (Nat.le_of_ble_eq_true rfl) dX7_nearestCliff_43 ⟨Nat.zero_le _, Nat.zero_le _⟩ (fun H locs hP hD hS => ?_)
        show W p l e rmX7_nearestCliff s m args below meth c H locs 0 0 Q (F0 m 46 ls [.int r27])
        refine lv_istore (lv' := [(6, .int r27), (0, .ref h_t), (1, .ref h_p1), (2, .int p2), (3, .int x18), (4, .int x19), (5, .int x20)]) hx hb dX7_nearestCliff_46 hl (by decide) rfl (fun ls hl => ?_)
        refine lv_iload hx hb dX7_nearestCliff_48 (lv_at hl 0 rfl) ?_
        refine lv_iconst (v := (-1 : Int32)) hx hb dX7_nearestCliff_50 (by decide) ?_
        refine lv_icmp_eq (tgt := 68) hx hb dX7_nearestCliff_51 (by decide) (fun c29 => ?_) (fun c29 => ?_)
        · replace hf := ifp c29 hf
          refine lv_iinc (v := (x20 + (1 : Int32))) (lv' := [(5, .int (x20 + (1 : Int32))), (6, .int r27), (0, .ref h_t), (1, .ref h_p1), (2, .int p2), (3, .int x18), (4, .int x19)]) hx hb dX7_nearestCliff_68 hl (k := 6) rfl rfl (by decide) rfl (fun ls hl => ?_)
          refine lv_goto (tgt := 26) hx hb dX7_nearestCliff_71 (by decide) ?_
          exact ih21 _ _ _ _ hf hX23 _ _ hP hD hS _ (lv_sub hl [2, 3, 4, 5, 6, 0] rfl)
        · replace hf := ifn c29 hf
          refine lv_iload hx hb dX7_nearestCliff_54 (lv_at hl 0 rfl) ?_
          refine lv_iload hx hb dX7_nearestCliff_56 (lv_at hl 5 rfl) ?_
          refine lv_icmp_ge (tgt := 68) hx hb dX7_nearestCliff_58 (by decide) (fun c30 => ?_) (fun c30 => ?_)
          · replace hf := ifp c30 hf
            refine lv_iinc (v := (x20 + (1 : Int32))) (lv' := [(5, .int (x20 + (1 : Int32))), (6, .int r27), (0, .ref h_t), (1, .ref h_p1), (2, .int p2), (3, .int x18), (4, .int x19)]) hx hb dX7_nearestCliff_68 hl (k := 6) rfl rfl (by decide) rfl (fun ls hl => ?_)
            refine lv_goto (tgt := 26) hx hb dX7_nearestCliff_71 (by decide) ?_
            exact ih21 _ _ _ _ hf hX23 _ _ hP hD hS _ (lv_sub hl [2, 3, 4, 5, 6, 0] rfl)
          · replace hf := ifn c30 hf
            refine lv_iload hx hb dX7_nearestCliff_61 (lv_at hl 0 rfl) ?_
            refine lv_istore (lv' := [(4, .int r27), (6, .int r27), (0, .ref h_t), (1, .ref h_p1), (2, .int p2), (3, .int x18), (5, .int x20)]) hx hb dX7_nearestCliff_63 hl (by decide) rfl (fun ls hl => ?_)
            refine lv_iload hx hb dX7_nearestCliff_65 (lv_at hl 6 rfl) ?_
            refine lv_istore_n (lv' := [(3, .int x20), (4, .int r27), (6, .int r27), (0, .ref h_t), (1, .ref h_p1), (2, .int p2), (5, .int x20)]) hx hb dX7_nearestCliff_67 rfl hl (by decide) rfl (fun ls hl => ?_)
            refine lv_iinc (v := (x20 + (1 : Int32))) (lv' := [(5, .int (x20 + (1 : Int32))), (3, .int x20), (4, .int r27), (6, .int r27), (0, .ref h_t), (1, .ref h_p1), (2, .int p2)]) hx hb dX7_nearestCliff_68 hl (k := 6) rfl rfl (by decide) rfl (fun ls hl => ?_)
            refine lv_goto (tgt := 26) hx hb dX7_nearestCliff_71 (by decide) ?_
            exact ih21 _ _ _ _ hf hX23 _ _ hP hD hS _ (lv_sub hl [4, 5, 6, 1, 2, 0] rfl)
  obtain ⟨x17, hg, hf⟩ := bd1_some hf
  refine L31 FU _ _ _ _ hg ?_ _ _ hP hD hS _ (lv_sub hl [3, 4, 5, 2, 1, 0] rfl)
  · intro H locs hP hD hS ls hl
    refine lv_iload_n hx hb dX7_nearestCliff_74 rfl (lv_at hl 0 rfl) ?_
    obtain ⟨rfl, rfl, rfl, rfl⟩ := inj4 hf
    subst hQ
    exact CM_iret hx hb hr rfl hlocks hAe hP hD hS dX7_nearestCliff_75
def rmX7_placesAbove : Room := { frames := 3, cells := 0, slots := 0, locals := 74 }
set_option maxHeartbeats 4000000 in
set_option maxRecDepth 100000 in
theorem c_X7_placesAbove (l : Launch) (dC : Nat → ClassId) (dI : Nat → Nat → Nat) (cI cZ : ClassId) (te : Nat → Nat) (h_t : Nat) (h_p1 : Nat) (h_t_next : Nat) (h_t_stepsToGoal : Nat) (h_t_stepsFromEarlier : Nat) (t_stepsToGoal : Nat → Int32) (n_p1 : Nat) (p1 : Nat → Int32) (t_next : Nat → Int32) (t_stepsFromEarlier : Nat → Int32) (p2 : Int32) (o0 : Int32) (o1 : Nat → Int32) (o2 : Nat → Int32) (o3 : Nat → Int32) (hf : f_X7_placesAbove t_stepsToGoal n_p1 p1 t_next t_stepsFromEarlier p2 = some (o0, o1, o2, o3)) : CM l yX7_placesAbove wsX7_placesAbove rmX7_placesAbove (kS te) dC dI cI cZ [.ref h_t, .ref h_p1, .int p2] [(h_t, .inr (6, fX7 h_t_next h_t_stepsToGoal h_t_stepsFromEarlier)), (h_t_stepsToGoal, .inl (cI, 64, .inl t_stepsToGoal)), (h_p1, .inl (cI, n_p1, .inl p1)), (h_t_next, .inl (cI, 64, .inl t_next)), (h_t_stepsFromEarlier, .inl (cI, 64, .inl t_stepsFromEarlier))] [(h_t, .inr (6, fX7 h_t_next h_t_stepsToGoal h_t_stepsFromEarlier)), (h_t_stepsToGoal, .inl (cI, 64, .inl o1)), (h_p1, .inl (cI, n_p1, .inl p1)), (h_t_next, .inl (cI, 64, .inl o2)), (h_t_stepsFromEarlier, .inl (cI, 64, .inl o3))] (some (.int o0)) := by
  refine CM_of (cc := cX7_placesAbove) (maxL := 5) (ret := (some .int)) (by decide +kernel) rfl (Nat.le_of_ble_eq_true rfl) ?_
  intro p e s m args below meth c A Q hx hb hr hml hown hts hlocks hA hK hP hD hS hE hQ hAe ls hl
  have hown : s.vm.findClass RX7 = some m.cls := hown
  have hl : lv_has ls 5 [(0, .ref h_t), (1, .ref h_p1), (2, .int p2)] := hl
  unfold f_X7_placesAbove at hf
  refine lv_aload_n hx hb dX7_placesAbove_0 rfl (lv_at hl 0 rfl) ?_
  refine lv_aload_n hx hb dX7_placesAbove_1 rfl (lv_at hl 1 rfl) ?_
  refine lv_iload_n hx hb dX7_placesAbove_2 rfl (lv_at hl 2 rfl) ?_
  obtain ⟨y1, y2, y3, hg4, hf⟩ := bd3_some hf
  refine CM_callV (C := RX7) (As := [.ref h_p1, .int p2]) (rest := []) (wc := [(h_t, .inr (6, fX7 h_t_next h_t_stepsToGoal h_t_stepsFromEarlier)), (h_t_stepsToGoal, .inl (cI, 64, .inl t_stepsToGoal)), (h_p1, .inl (cI, n_p1, .inl p1)), (h_t_next, .inl (cI, 64, .inl t_next)), (h_t_stepsFromEarlier, .inl (cI, 64, .inl t_stepsFromEarlier))]) (w1 := [(h_t, .inr (6, fX7 h_t_next h_t_stepsToGoal h_t_stepsFromEarlier)), (h_t_stepsToGoal, .inl (cI, 64, .inl y1)), (h_p1, .inl (cI, n_p1, .inl p1)), (h_t_next, .inl (cI, 64, .inl y2)), (h_t_stepsFromEarlier, .inl (cI, 64, .inl y3))]) (wr := []) (wo := [(h_t, .inr (6, fX7 h_t_next h_t_stepsToGoal h_t_stepsFromEarlier)), (h_t_stepsToGoal, .inl (cI, 64, .inl y1)), (h_p1, .inl (cI, n_p1, .inl p1)), (h_t_next, .inl (cI, 64, .inl y2)), (h_t_stepsFromEarlier, .inl (cI, 64, .inl y3))]) (v := (none)) ⟨hx, hb, hml, hown, hts⟩ (c_X7_leadTo l dC dI cI cZ te h_t h_p1 h_t_next h_t_stepsToGoal h_t_stepsFromEarlier t_stepsToGoal n_p1 p1 t_next t_stepsFromEarlier p2 y1 y2 y3 hg4) (cwV 2 hts gX7_placesAbove_X7_leadTo rfl rfl rfl (by decide +kernel) ⟨Nat.le_of_ble_eq_true rfl, Nat.le_of_ble_eq_true rfl⟩) (kS_env te) hK hP hD hS hA hE [0, 1, 2, 3, 4] [] [0, 1, 2, 3, 4] rfl rfl (by decide) (by decide) (by decide) (by decide) rfl 0 6 rfl rfl rfl rfl hl.1 rfl (Nat.le_of_ble_eq_true rfl) dX7_placesAbove_3 ⟨Nat.zero_le _, Nat.zero_le _⟩ (fun H locs hP hD hS => ?_)
  show W p l e rmX7_placesAbove s m args below meth c H locs 0 0 Q (F0 m 6 ls [])
  refine lv_iconst (v := (0 : Int32)) hx hb dX7_placesAbove_6 (by decide) ?_
  refine lv_istore_n (lv' := [(3, .int (0 : Int32)), (0, .ref h_t), (1, .ref h_p1), (2, .int p2)]) hx hb dX7_placesAbove_7 rfl hl (by decide) rfl (fun ls hl => ?_)
  refine lv_iconst (v := (0 : Int32)) hx hb dX7_placesAbove_8 (by decide) ?_
  refine lv_istore (lv' := [(4, .int (0 : Int32)), (3, .int (0 : Int32)), (0, .ref h_t), (1, .ref h_p1), (2, .int p2)]) hx hb dX7_placesAbove_9 hl (by decide) rfl (fun ls hl => ?_)
  have L21 : ∀ (fu15 : Nat) (x12 : Int32) (x13 : Int32) (x11 : Int32), f_X7_placesAbove_L1 y1 fu15 x12 x13 = some x11 → (∀ (H : Heap) (locs : List Loc), va_P (dC, dI) vwCl [(h_t, .inr (6, fX7 h_t_next h_t_stepsToGoal h_t_stepsFromEarlier)), (h_t_stepsToGoal, .inl (cI, 64, .inl y1)), (h_p1, .inl (cI, n_p1, .inl p1)), (h_t_next, .inl (cI, 64, .inl y2)), (h_t_stepsFromEarlier, .inl (cI, 64, .inl y3))] H → va_D A [(h_t, .inr (6, fX7 h_t_next h_t_stepsToGoal h_t_stepsFromEarlier)), (h_t_stepsToGoal, .inl (cI, 64, .inl y1)), (h_p1, .inl (cI, n_p1, .inl p1)), (h_t_next, .inl (cI, 64, .inl y2)), (h_t_stepsFromEarlier, .inl (cI, 64, .inl y3))] → va_S A s.heap H locs → ∀ ls : Array Slot, lv_has ls 5 [(3, .int x11)] → W p l e rmX7_placesAbove s m args below meth c H locs 0 0 Q (F0 m 37 ls [])) → ∀ (H : Heap) (locs : List Loc), va_P (dC, dI) vwCl [(h_t, .inr (6, fX7 h_t_next h_t_stepsToGoal h_t_stepsFromEarlier)), (h_t_stepsToGoal, .inl (cI, 64, .inl y1)), (h_p1, .inl (cI, n_p1, .inl p1)), (h_t_next, .inl (cI, 64, .inl y2)), (h_t_stepsFromEarlier, .inl (cI, 64, .inl y3))] H → va_D A [(h_t, .inr (6, fX7 h_t_next h_t_stepsToGoal h_t_stepsFromEarlier)), (h_t_stepsToGoal, .inl (cI, 64, .inl y1)), (h_p1, .inl (cI, n_p1, .inl p1)), (h_t_next, .inl (cI, 64, .inl y2)), (h_t_stepsFromEarlier, .inl (cI, 64, .inl y3))] → va_S A s.heap H locs → ∀ ls : Array Slot, lv_has ls 5 [(0, .ref h_t), (3, .int x12), (4, .int x13)] → W p l e rmX7_placesAbove s m args below meth c H locs 0 0 Q (F0 m 11 ls []) := by
    intro fu15
    induction fu15 with
    | zero =>
      intro x12 x13 x11 hf
      unfold f_X7_placesAbove_L1 at hf
      exact none_ne hf
    | succ fu15 ih14 =>
      intro x12 x13 x11 hf hX16 H locs hP hD hS ls hl
      unfold f_X7_placesAbove_L1 at hf
      refine lv_iload hx hb dX7_placesAbove_11 (lv_at hl 2 rfl) ?_
      refine lv_bipush (v := (64 : Int32)) hx hb dX7_placesAbove_13 (by decide) ?_
      refine lv_icmp_ge (tgt := 37) hx hb dX7_placesAbove_15 (by decide) (fun c17 => ?_) (fun c17 => ?_)
      · replace hf := ifp c17 hf
        obtain rfl := inj1 hf
        exact hX16 _ _ hP hD hS _ (lv_sub hl [1] rfl)
      · replace hf := ifn c17 hf
        refine lv_aload_n hx hb dX7_placesAbove_18 rfl (lv_at hl 0 rfl) ?_
        refine lv_iload hx hb dX7_placesAbove_19 (lv_at hl 2 rfl) ?_
        obtain ⟨r18, hg19, hf⟩ := bd1_some hf
        refine CM_callV (C := RX7) (As := [.int x13]) (rest := []) (wc := [(h_t, .inr (6, fX7 h_t_next h_t_stepsToGoal h_t_stepsFromEarlier)), (h_t_stepsToGoal, .inl (cI, 64, .inl y1))]) (w1 := [(h_t, .inr (6, fX7 h_t_next h_t_stepsToGoal h_t_stepsFromEarlier)), (h_t_stepsToGoal, .inl (cI, 64, .inl y1))]) (wr := [(h_p1, .inl (cI, n_p1, .inl p1)), (h_t_next, .inl (cI, 64, .inl y2)), (h_t_stepsFromEarlier, .inl (cI, 64, .inl y3))]) (wo := [(h_t, .inr (6, fX7 h_t_next h_t_stepsToGoal h_t_stepsFromEarlier)), (h_t_stepsToGoal, .inl (cI, 64, .inl y1)), (h_p1, .inl (cI, n_p1, .inl p1)), (h_t_next, .inl (cI, 64, .inl y2)), (h_t_stepsFromEarlier, .inl (cI, 64, .inl y3))]) (v := (some (.int r18))) ⟨hx, hb, hml, hown, hts⟩ (c_X7_stepsFrom l dC dI cI cZ te h_t h_t_next h_t_stepsToGoal h_t_stepsFromEarlier y1 x13 r18 hg19) (cwV 1 hts gX7_placesAbove_X7_stepsFrom rfl rfl rfl (by decide +kernel) ⟨Nat.le_of_ble_eq_true rfl, Nat.le_of_ble_eq_true rfl⟩) (kS_env te) hK hP hD hS hA hE [0, 1] [2, 3, 4] [3, 4, 0, 1, 2] rfl rfl (by decide) (by decide) (by decide) (by decide) rfl 0 6 rfl rfl rfl rfl hl.1 rfl (Nat.le_of_ble_eq_true rfl) dX7_placesAbove_21 ⟨Nat.zero_le _, Nat.zero_le _⟩ (fun H locs hP hD hS => ?_)
        show W p l e rmX7_placesAbove s m args below meth c H locs 0 0 Q (F0 m 24 ls [.int r18])
        refine lv_iconst (v := (-1 : Int32)) hx hb dX7_placesAbove_24 (by decide) ?_
        refine lv_icmp_eq (tgt := 31) hx hb dX7_placesAbove_25 (by decide) (fun c20 => ?_) (fun c20 => ?_)
        · replace hf := ifp c20 hf
          refine lv_iinc (v := (x13 + (1 : Int32))) (lv' := [(4, .int (x13 + (1 : Int32))), (0, .ref h_t), (3, .int x12)]) hx hb dX7_placesAbove_31 hl (k := 2) rfl rfl (by decide) rfl (fun ls hl => ?_)
          refine lv_goto (tgt := 11) hx hb dX7_placesAbove_34 (by decide) ?_
          exact ih14 _ _ _ hf hX16 _ _ hP hD hS _ (lv_sub hl [1, 2, 0] rfl)
        · replace hf := ifn c20 hf
          refine lv_iinc (v := (x12 + (1 : Int32))) (lv' := [(3, .int (x12 + (1 : Int32))), (0, .ref h_t), (4, .int x13)]) hx hb dX7_placesAbove_28 hl (k := 1) rfl rfl (by decide) rfl (fun ls hl => ?_)
          refine lv_iinc (v := (x13 + (1 : Int32))) (lv' := [(4, .int (x13 + (1 : Int32))), (3, .int (x12 + (1 : Int32))), (0, .ref h_t)]) hx hb dX7_placesAbove_31 hl (k := 2) rfl rfl (by decide) rfl (fun ls hl => ?_)
          refine lv_goto (tgt := 11) hx hb dX7_placesAbove_34 (by decide) ?_
          exact ih14 _ _ _ hf hX16 _ _ hP hD hS _ (lv_sub hl [2, 1, 0] rfl)
  obtain ⟨x11, hg, hf⟩ := bd1_some hf
  refine L21 FU _ _ _ hg ?_ _ _ hP hD hS _ (lv_sub hl [2, 1, 0] rfl)
  · intro H locs hP hD hS ls hl
    refine lv_iload_n hx hb dX7_placesAbove_37 rfl (lv_at hl 0 rfl) ?_
    obtain ⟨rfl, rfl, rfl, rfl⟩ := inj4 hf
    subst hQ
    exact CM_iret hx hb hr rfl hlocks hAe hP hD hS dX7_placesAbove_38
def rmX8_standsAt : Room := { frames := 1, cells := 0, slots := 0, locals := 21 }
set_option maxRecDepth 20000 in
theorem kX8_standsAt_0 : ∀ w ∈ u_ws RX1 TX1 10, w ∈ wsX8_standsAt := by decide +kernel
set_option maxRecDepth 20000 in
theorem kX8_standsAt_1 : Cond.fieldLink RX8 11 "StoneRiver$Found" "numbers" "[I" ∈ wsX8_standsAt := by decide +kernel
set_option maxRecDepth 20000 in
theorem kX8_standsAt_2 : Cond.fieldLink RX8 17 "StoneRiver$Found" "heights" "[I" ∈ wsX8_standsAt := by decide +kernel
set_option maxRecDepth 20000 in
theorem kX8_standsAt_3 : Cond.methodLink RX8 20 Lib.Math.max.name ∈ wsX8_standsAt := by decide +kernel
set_option maxRecDepth 20000 in
theorem kX8_standsAt_4 : Cond.static Lib.Math.max.name ∈ wsX8_standsAt := by decide +kernel
set_option maxRecDepth 20000 in
theorem kX8_standsAt_5 : Cond.initialized "java/lang/Math" ∈ wsX8_standsAt := by decide +kernel
set_option maxRecDepth 20000 in
theorem kX8_standsAt_6 : Cond.code Lib.Math.max.name Lib.Math.max.code 2 (some .int) ∈ wsX8_standsAt := by decide +kernel
set_option maxHeartbeats 4000000 in
set_option maxRecDepth 100000 in
theorem c_X8_standsAt (l : Launch) (dC : Nat → ClassId) (dI : Nat → Nat → Nat) (cI cZ : ClassId) (te : Nat → Nat) (h_p1 : Nat) (h_p1_surfaces : Nat) (h_p1_cliffs : Nat) (h_p1_boulders : Nat) (h_p1_scratches : Nat) (h_p1_numbers : Nat) (h_p1_facts : Nat) (h_p1_signs : Nat) (h_p1_areas : Nat) (h_p1_heights : Nat) (p1_ridges : Int32) (p1_numbers : Nat → Int32) (p1_heights : Nat → Int32) (p2 : Int32) (p3 : Int32) (o0 : Int32) (hf : f_X8_standsAt p1_numbers p1_heights p2 p3 = some o0) : CM l yX8_standsAt wsX8_standsAt rmX8_standsAt (kS te) dC dI cI cZ [.ref h_p1, .int p2, .int p3] [(h_p1, .inr (1, fX1 h_p1_surfaces h_p1_cliffs h_p1_boulders h_p1_scratches h_p1_numbers h_p1_facts h_p1_signs h_p1_areas h_p1_heights p1_ridges)), (h_p1_numbers, .inl (cI, 6, .inl p1_numbers)), (h_p1_heights, .inl (cI, 21, .inl p1_heights))] [(h_p1, .inr (1, fX1 h_p1_surfaces h_p1_cliffs h_p1_boulders h_p1_scratches h_p1_numbers h_p1_facts h_p1_signs h_p1_areas h_p1_heights p1_ridges)), (h_p1_numbers, .inl (cI, 6, .inl p1_numbers)), (h_p1_heights, .inl (cI, 21, .inl p1_heights))] (some (.int o0)) := by
  refine CM_of (cc := cX8_standsAt) (maxL := 6) (ret := (some .int)) (by decide +kernel) rfl (Nat.le_of_ble_eq_true rfl) ?_
  intro p e s m args below meth c A Q hx hb hr hml hown hts hlocks hA hK hP hD hS hE hQ hAe ls hl
  have hown : s.vm.findClass RX8 = some m.cls := hown
  have hl : lv_has ls 6 [(0, .ref h_p1), (1, .int p2), (2, .int p3)] := hl
  unfold f_X8_standsAt at hf
  refine lv_iconst (v := (-1 : Int32)) hx hb dX8_standsAt_0 (by decide) ?_
  refine lv_istore_n (lv' := [(3, .int (-1 : Int32)), (0, .ref h_p1), (1, .int p2), (2, .int p3)]) hx hb dX8_standsAt_1 rfl hl (by decide) rfl (fun ls hl => ?_)
  refine lv_iconst (v := (0 : Int32)) hx hb dX8_standsAt_2 (by decide) ?_
  refine lv_istore (lv' := [(4, .int (0 : Int32)), (3, .int (-1 : Int32)), (0, .ref h_p1), (1, .int p2), (2, .int p3)]) hx hb dX8_standsAt_3 hl (by decide) rfl (fun ls hl => ?_)
  refine lv_iconst (v := (0 : Int32)) hx hb dX8_standsAt_5 (by decide) ?_
  refine lv_istore (lv' := [(5, .int (0 : Int32)), (4, .int (0 : Int32)), (3, .int (-1 : Int32)), (0, .ref h_p1), (1, .int p2), (2, .int p3)]) hx hb dX8_standsAt_6 hl (by decide) rfl (fun ls hl => ?_)
  have L23 : ∀ (fu15 : Nat) (x11 : Int32) (x12 : Int32) (x13 : Int32) (x10 : Int32), f_X8_standsAt_L1 p3 p1_numbers p2 p1_heights fu15 x11 x12 x13 = some x10 → (∀ (H : Heap) (locs : List Loc), va_P (dC, dI) vwCl [(h_p1, .inr (1, fX1 h_p1_surfaces h_p1_cliffs h_p1_boulders h_p1_scratches h_p1_numbers h_p1_facts h_p1_signs h_p1_areas h_p1_heights p1_ridges)), (h_p1_numbers, .inl (cI, 6, .inl p1_numbers)), (h_p1_heights, .inl (cI, 21, .inl p1_heights))] H → va_D A [(h_p1, .inr (1, fX1 h_p1_surfaces h_p1_cliffs h_p1_boulders h_p1_scratches h_p1_numbers h_p1_facts h_p1_signs h_p1_areas h_p1_heights p1_ridges)), (h_p1_numbers, .inl (cI, 6, .inl p1_numbers)), (h_p1_heights, .inl (cI, 21, .inl p1_heights))] → va_S A s.heap H locs → ∀ ls : Array Slot, lv_has ls 6 [(3, .int x10)] → W p l e rmX8_standsAt s m args below meth c H locs 0 0 Q (F0 m 56 ls [])) → ∀ (H : Heap) (locs : List Loc), va_P (dC, dI) vwCl [(h_p1, .inr (1, fX1 h_p1_surfaces h_p1_cliffs h_p1_boulders h_p1_scratches h_p1_numbers h_p1_facts h_p1_signs h_p1_areas h_p1_heights p1_ridges)), (h_p1_numbers, .inl (cI, 6, .inl p1_numbers)), (h_p1_heights, .inl (cI, 21, .inl p1_heights))] H → va_D A [(h_p1, .inr (1, fX1 h_p1_surfaces h_p1_cliffs h_p1_boulders h_p1_scratches h_p1_numbers h_p1_facts h_p1_signs h_p1_areas h_p1_heights p1_ridges)), (h_p1_numbers, .inl (cI, 6, .inl p1_numbers)), (h_p1_heights, .inl (cI, 21, .inl p1_heights))] → va_S A s.heap H locs → ∀ ls : Array Slot, lv_has ls 6 [(0, .ref h_p1), (1, .int p2), (2, .int p3), (3, .int x11), (4, .int x12), (5, .int x13)] → W p l e rmX8_standsAt s m args below meth c H locs 0 0 Q (F0 m 8 ls []) := by
    intro fu15
    induction fu15 with
    | zero =>
      intro x11 x12 x13 x10 hf
      unfold f_X8_standsAt_L1 at hf
      exact none_ne hf
    | succ fu15 ih14 =>
      intro x11 x12 x13 x10 hf hX16 H locs hP hD hS ls hl
      unfold f_X8_standsAt_L1 at hf
      refine lv_iload hx hb dX8_standsAt_8 (lv_at hl 5 rfl) ?_
      refine lv_bipush (v := (21 : Int32)) hx hb dX8_standsAt_10 (by decide) ?_
      refine lv_icmp_ge (tgt := 56) hx hb dX8_standsAt_12 (by decide) (fun c17 => ?_) (fun c17 => ?_)
      · replace hf := ifp c17 hf
        obtain rfl := inj1 hf
        exact hX16 _ _ hP hD hS _ (lv_sub hl [3] rfl)
      · replace hf := ifn c17 hf
        refine lv_iload hx hb dX8_standsAt_15 (lv_at hl 4 rfl) ?_
        refine lv_iload_n hx hb dX8_standsAt_17 rfl (lv_at hl 2 rfl) ?_
        refine lv_aload_n hx hb dX8_standsAt_18 rfl (lv_at hl 0 rfl) ?_
        refine va_get (D := (dC, dI)) (ci := 1) (v := .ref h_p1_numbers) (C := RX1) (T := TX1) (N := 10) hx hb hts kX8_standsAt_0 hown hK hP 0 rfl rfl 4 (by decide) (hts _ kX8_standsAt_1) (fun _ h9 => h9) rfl dX8_standsAt_19 ?_
        refine lv_iconst (v := (3 : Int32)) hx hb dX8_standsAt_22 (by decide) ?_
        obtain ⟨g18, hf⟩ := chk_some hf
        refine va_iald hx hb hK hP 1 0 rfl rfl (gin_in g18) dX8_standsAt_23 ?_
        refine lv_iconst (v := (0 : Int32)) hx hb dX8_standsAt_24 (by decide) ?_
        refine lv_iload_n hx hb dX8_standsAt_25 rfl (lv_at hl 1 rfl) ?_
        refine lv_aload_n hx hb dX8_standsAt_26 rfl (lv_at hl 0 rfl) ?_
        refine va_get (D := (dC, dI)) (ci := 1) (v := .ref h_p1_heights) (C := RX1) (T := TX1) (N := 10) hx hb hts kX8_standsAt_0 hown hK hP 0 rfl rfl 8 (by decide) (hts _ kX8_standsAt_2) (fun _ h9 => h9) rfl dX8_standsAt_27 ?_
        refine lv_iload hx hb dX8_standsAt_30 (lv_at hl 5 rfl) ?_
        obtain ⟨g19, hf⟩ := chk_some hf
        refine va_iald hx hb hK hP 2 0 rfl rfl (gin_in g19) dX8_standsAt_32 ?_
        refine lv_isub hx hb dX8_standsAt_33 ?_
        refine va_mmax hx hb (hml.trans hl.1.symm) hown (hts _ kX8_standsAt_3) (hts _ kX8_standsAt_4) (hts _ kX8_standsAt_5) (hts _ kX8_standsAt_6) (Nat.le_of_ble_eq_true rfl) (Nat.le_of_ble_eq_true rfl) (Nat.zero_le _) (Nat.zero_le _) dX8_standsAt_34 ?_
        refine lv_imul hx hb dX8_standsAt_37 ?_
        refine lv_isub hx hb dX8_standsAt_38 ?_
        refine lv_iadd hx hb dX8_standsAt_39 ?_
        obtain ⟨x20, e21, hf⟩ := nm_some hf
        refine lv_tope e21 ?_
        refine lv_istore (lv' := [(4, .int x20), (0, .ref h_p1), (1, .int p2), (2, .int p3), (3, .int x11), (5, .int x13)]) hx hb dX8_standsAt_40 hl (by decide) rfl (fun ls hl => ?_)
        refine lv_iload hx hb dX8_standsAt_42 (lv_at hl 0 rfl) ?_
        refine lv_if_lt (tgt := 50) hx hb dX8_standsAt_44 (by decide) (fun c22 => ?_) (fun c22 => ?_)
        · replace hf := ifp c22 hf
          refine lv_iinc (v := (x13 + (1 : Int32))) (lv' := [(5, .int (x13 + (1 : Int32))), (4, .int x20), (0, .ref h_p1), (1, .int p2), (2, .int p3), (3, .int x11)]) hx hb dX8_standsAt_50 hl (k := 5) rfl rfl (by decide) rfl (fun ls hl => ?_)
          refine lv_goto (tgt := 8) hx hb dX8_standsAt_53 (by decide) ?_
          exact ih14 _ _ _ _ hf hX16 _ _ hP hD hS _ (lv_sub hl [2, 3, 4, 5, 1, 0] rfl)
        · replace hf := ifn c22 hf
          refine lv_iload hx hb dX8_standsAt_47 (lv_at hl 5 rfl) ?_
          refine lv_istore_n (lv' := [(3, .int x13), (4, .int x20), (0, .ref h_p1), (1, .int p2), (2, .int p3), (5, .int x13)]) hx hb dX8_standsAt_49 rfl hl (by decide) rfl (fun ls hl => ?_)
          refine lv_iinc (v := (x13 + (1 : Int32))) (lv' := [(5, .int (x13 + (1 : Int32))), (3, .int x13), (4, .int x20), (0, .ref h_p1), (1, .int p2), (2, .int p3)]) hx hb dX8_standsAt_50 hl (k := 5) rfl rfl (by decide) rfl (fun ls hl => ?_)
          refine lv_goto (tgt := 8) hx hb dX8_standsAt_53 (by decide) ?_
          exact ih14 _ _ _ _ hf hX16 _ _ hP hD hS _ (lv_sub hl [3, 4, 5, 1, 2, 0] rfl)
  obtain ⟨x10, hg, hf⟩ := bd1_some hf
  refine L23 FU _ _ _ _ hg ?_ _ _ hP hD hS _ (lv_sub hl [3, 4, 5, 2, 1, 0] rfl)
  · intro H locs hP hD hS ls hl
    refine lv_iload_n hx hb dX8_standsAt_56 rfl (lv_at hl 0 rfl) ?_
    obtain rfl := inj1 hf
    subst hQ
    exact CM_iret hx hb hr rfl hlocks hAe hP hD hS dX8_standsAt_57
def rmX8_leastFor : Room := { frames := 2, cells := 0, slots := 0, locals := 46 }
set_option maxHeartbeats 4000000 in
set_option maxRecDepth 100000 in
theorem c_X8_leastFor (l : Launch) (dC : Nat → ClassId) (dI : Nat → Nat → Nat) (cI cZ : ClassId) (te : Nat → Nat) (h_p1 : Nat) (h_p1_surfaces : Nat) (h_p1_cliffs : Nat) (h_p1_boulders : Nat) (h_p1_scratches : Nat) (h_p1_numbers : Nat) (h_p1_facts : Nat) (h_p1_signs : Nat) (h_p1_areas : Nat) (h_p1_heights : Nat) (p1_ridges : Int32) (p1_numbers : Nat → Int32) (p1_heights : Nat → Int32) (p2 : Int32) (p3 : Int32) (o0 : Int32) (hf : f_X8_leastFor p1_numbers p1_heights p2 p3 = some o0) : CM l yX8_leastFor wsX8_leastFor rmX8_leastFor (kS te) dC dI cI cZ [.ref h_p1, .int p2, .int p3] [(h_p1, .inr (1, fX1 h_p1_surfaces h_p1_cliffs h_p1_boulders h_p1_scratches h_p1_numbers h_p1_facts h_p1_signs h_p1_areas h_p1_heights p1_ridges)), (h_p1_numbers, .inl (cI, 6, .inl p1_numbers)), (h_p1_heights, .inl (cI, 21, .inl p1_heights))] [(h_p1, .inr (1, fX1 h_p1_surfaces h_p1_cliffs h_p1_boulders h_p1_scratches h_p1_numbers h_p1_facts h_p1_signs h_p1_areas h_p1_heights p1_ridges)), (h_p1_numbers, .inl (cI, 6, .inl p1_numbers)), (h_p1_heights, .inl (cI, 21, .inl p1_heights))] (some (.int o0)) := by
  refine CM_of (cc := cX8_leastFor) (maxL := 4) (ret := (some .int)) (by decide +kernel) rfl (Nat.le_of_ble_eq_true rfl) ?_
  intro p e s m args below meth c A Q hx hb hr hml hown hts hlocks hA hK hP hD hS hE hQ hAe ls hl
  have hown : s.vm.findClass RX8 = some m.cls := hown
  have hl : lv_has ls 4 [(0, .ref h_p1), (1, .int p2), (2, .int p3)] := hl
  unfold f_X8_leastFor at hf
  refine lv_iconst (v := (0 : Int32)) hx hb dX8_leastFor_0 (by decide) ?_
  refine lv_istore_n (lv' := [(3, .int (0 : Int32)), (0, .ref h_p1), (1, .int p2), (2, .int p3)]) hx hb dX8_leastFor_1 rfl hl (by decide) rfl (fun ls hl => ?_)
  have L17 : ∀ (fu10 : Nat) (x8 : Int32) (q7 : Nat) (x6 : Int32), f_X8_leastFor_L1 p1_numbers p1_heights p3 p2 fu10 x8 = some (q7, x6) → (q7 = 0 → ∀ (H : Heap) (locs : List Loc), va_P (dC, dI) vwCl [(h_p1, .inr (1, fX1 h_p1_surfaces h_p1_cliffs h_p1_boulders h_p1_scratches h_p1_numbers h_p1_facts h_p1_signs h_p1_areas h_p1_heights p1_ridges)), (h_p1_numbers, .inl (cI, 6, .inl p1_numbers)), (h_p1_heights, .inl (cI, 21, .inl p1_heights))] H → va_D A [(h_p1, .inr (1, fX1 h_p1_surfaces h_p1_cliffs h_p1_boulders h_p1_scratches h_p1_numbers h_p1_facts h_p1_signs h_p1_areas h_p1_heights p1_ridges)), (h_p1_numbers, .inl (cI, 6, .inl p1_numbers)), (h_p1_heights, .inl (cI, 21, .inl p1_heights))] → va_S A s.heap H locs → ∀ ls : Array Slot, lv_has ls 4 [(3, .int x6)] → W p l e rmX8_leastFor s m args below meth c H locs 0 0 Q (F0 m 18 ls [])) → (q7 = 1 → ∀ (H : Heap) (locs : List Loc), va_P (dC, dI) vwCl [(h_p1, .inr (1, fX1 h_p1_surfaces h_p1_cliffs h_p1_boulders h_p1_scratches h_p1_numbers h_p1_facts h_p1_signs h_p1_areas h_p1_heights p1_ridges)), (h_p1_numbers, .inl (cI, 6, .inl p1_numbers)), (h_p1_heights, .inl (cI, 21, .inl p1_heights))] H → va_D A [(h_p1, .inr (1, fX1 h_p1_surfaces h_p1_cliffs h_p1_boulders h_p1_scratches h_p1_numbers h_p1_facts h_p1_signs h_p1_areas h_p1_heights p1_ridges)), (h_p1_numbers, .inl (cI, 6, .inl p1_numbers)), (h_p1_heights, .inl (cI, 21, .inl p1_heights))] → va_S A s.heap H locs → ∀ ls : Array Slot, lv_has ls 4 [] → W p l e rmX8_leastFor s m args below meth c H locs 0 0 Q (F0 m 26 ls [])) → ∀ (H : Heap) (locs : List Loc), va_P (dC, dI) vwCl [(h_p1, .inr (1, fX1 h_p1_surfaces h_p1_cliffs h_p1_boulders h_p1_scratches h_p1_numbers h_p1_facts h_p1_signs h_p1_areas h_p1_heights p1_ridges)), (h_p1_numbers, .inl (cI, 6, .inl p1_numbers)), (h_p1_heights, .inl (cI, 21, .inl p1_heights))] H → va_D A [(h_p1, .inr (1, fX1 h_p1_surfaces h_p1_cliffs h_p1_boulders h_p1_scratches h_p1_numbers h_p1_facts h_p1_signs h_p1_areas h_p1_heights p1_ridges)), (h_p1_numbers, .inl (cI, 6, .inl p1_numbers)), (h_p1_heights, .inl (cI, 21, .inl p1_heights))] → va_S A s.heap H locs → ∀ ls : Array Slot, lv_has ls 4 [(0, .ref h_p1), (1, .int p2), (2, .int p3), (3, .int x8)] → W p l e rmX8_leastFor s m args below meth c H locs 0 0 Q (F0 m 2 ls []) := by
    intro fu10
    induction fu10 with
    | zero =>
      intro x8 q7 x6 hf
      unfold f_X8_leastFor_L1 at hf
      exact none_ne hf
    | succ fu10 ih9 =>
      intro x8 q7 x6 hf hX11 hX12 H locs hP hD hS ls hl
      unfold f_X8_leastFor_L1 at hf
      refine lv_iload_n hx hb dX8_leastFor_2 rfl (lv_at hl 3 rfl) ?_
      refine lv_bipush (v := (60 : Int32)) hx hb dX8_leastFor_3 (by decide) ?_
      refine lv_icmp_gt (tgt := 26) hx hb dX8_leastFor_5 (by decide) (fun c13 => ?_) (fun c13 => ?_)
      · replace hf := ifp c13 hf
        obtain ⟨rfl, rfl⟩ := inj2 hf
        exact hX12 rfl _ _ hP hD hS _ (lv_sub hl [] rfl)
      · replace hf := ifn c13 hf
        refine lv_aload_n hx hb dX8_leastFor_8 rfl (lv_at hl 0 rfl) ?_
        refine lv_iload_n hx hb dX8_leastFor_9 rfl (lv_at hl 3 rfl) ?_
        refine lv_iload_n hx hb dX8_leastFor_10 rfl (lv_at hl 2 rfl) ?_
        obtain ⟨r14, hg15, hf⟩ := bd1_some hf
        refine CM_callS (As := [.ref h_p1, .int x8, .int p3]) (rest := []) (wc := [(h_p1, .inr (1, fX1 h_p1_surfaces h_p1_cliffs h_p1_boulders h_p1_scratches h_p1_numbers h_p1_facts h_p1_signs h_p1_areas h_p1_heights p1_ridges)), (h_p1_numbers, .inl (cI, 6, .inl p1_numbers)), (h_p1_heights, .inl (cI, 21, .inl p1_heights))]) (w1 := [(h_p1, .inr (1, fX1 h_p1_surfaces h_p1_cliffs h_p1_boulders h_p1_scratches h_p1_numbers h_p1_facts h_p1_signs h_p1_areas h_p1_heights p1_ridges)), (h_p1_numbers, .inl (cI, 6, .inl p1_numbers)), (h_p1_heights, .inl (cI, 21, .inl p1_heights))]) (wr := []) (wo := [(h_p1, .inr (1, fX1 h_p1_surfaces h_p1_cliffs h_p1_boulders h_p1_scratches h_p1_numbers h_p1_facts h_p1_signs h_p1_areas h_p1_heights p1_ridges)), (h_p1_numbers, .inl (cI, 6, .inl p1_numbers)), (h_p1_heights, .inl (cI, 21, .inl p1_heights))]) (v := (some (.int r14))) ⟨hx, hb, hml, hown, hts⟩ (c_X8_standsAt l dC dI cI cZ te h_p1 h_p1_surfaces h_p1_cliffs h_p1_boulders h_p1_scratches h_p1_numbers h_p1_facts h_p1_signs h_p1_areas h_p1_heights p1_ridges p1_numbers p1_heights x8 p3 r14 hg15) (va_cwS 3 hts gX8_leastFor_X8_standsAt rfl rfl rfl (by decide +kernel) ⟨Nat.le_of_ble_eq_true rfl, Nat.le_of_ble_eq_true rfl⟩) (kS_env te) hK hP hD hS hA hE [0, 1, 2] [] [0, 1, 2] rfl rfl (by decide) (by decide) (by decide) (by decide) rfl rfl hl.1 rfl (Nat.le_of_ble_eq_true rfl) dX8_leastFor_11 ⟨Nat.zero_le _, Nat.zero_le _⟩ (fun H locs hP hD hS => ?_)
        show W p l e rmX8_leastFor s m args below meth c H locs 0 0 Q (F0 m 14 ls [.int r14])
        refine lv_iload_n hx hb dX8_leastFor_14 rfl (lv_at hl 1 rfl) ?_
        refine lv_icmp_ne (tgt := 20) hx hb dX8_leastFor_15 (by decide) (fun c16 => ?_) (fun c16 => ?_)
        · replace hf := ifn c16 hf
          refine lv_iinc (v := (x8 + (1 : Int32))) (lv' := [(3, .int (x8 + (1 : Int32))), (0, .ref h_p1), (1, .int p2), (2, .int p3)]) hx hb dX8_leastFor_20 hl (k := 3) rfl rfl (by decide) rfl (fun ls hl => ?_)
          refine lv_goto (tgt := 2) hx hb dX8_leastFor_23 (by decide) ?_
          exact ih9 _ _ _ hf hX11 hX12 _ _ hP hD hS _ (lv_sub hl [1, 2, 3, 0] rfl)
        · replace hf := ifp c16 hf
          obtain ⟨rfl, rfl⟩ := inj2 hf
          exact hX11 rfl _ _ hP hD hS _ (lv_sub hl [3] rfl)
  obtain ⟨q7, x6, hg, hf⟩ := bd2_some hf
  refine L17 FU _ _ _ hg ?_ ?_ _ _ hP hD hS _ (lv_sub hl [1, 2, 3, 0] rfl)
  · intro hq
    subst hq
    replace hf := ifp rfl hf
    intro H locs hP hD hS ls hl
    refine lv_iload_n hx hb dX8_leastFor_18 rfl (lv_at hl 0 rfl) ?_
    obtain rfl := inj1 hf
    subst hQ
    exact CM_iret hx hb hr rfl hlocks hAe hP hD hS dX8_leastFor_19
  · intro hq
    subst hq
    replace hf := ifn (by decide) hf
    intro H locs hP hD hS ls hl
    refine lv_iconst (v := (-1 : Int32)) hx hb dX8_leastFor_26 (by decide) ?_
    obtain rfl := inj1 hf
    subst hQ
    exact CM_iret hx hb hr rfl hlocks hAe hP hD hS dX8_leastFor_27
