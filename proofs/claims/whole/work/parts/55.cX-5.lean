def rmX3_run : Room := { frames := 2, cells := 0, slots := 0, locals := 47 }
abbrev wqX3_run : List Cond := Cond.code yX3_run cX3_run 7 none :: tG
set_option maxHeartbeats 4000000 in
set_option maxRecDepth 100000 in
theorem c_X3_run (l : Launch) (dC : Nat → ClassId) (dI : Nat → Nat → Nat) (cI cZ : ClassId) (te : Nat → Nat) (h_t : Nat) (h_p1 : Nat) (h_p1_surfaces : Nat) (h_p1_cliffs : Nat) (h_p1_boulders : Nat) (h_p1_scratches : Nat) (h_p1_numbers : Nat) (h_p1_facts : Nat) (h_p1_signs : Nat) (h_p1_areas : Nat) (h_p1_heights : Nat) (h_t_left : Nat) (p1_ridges : Int32) (p1_areas : Nat → Int32) (t_hours : Int32) (t_greatest : Int32) (t_left : Nat → Int32) (p1_numbers : Nat → Int32) (p2 : Int32) (p3 : Int32) (o0 : Int32) (o1 : Int32) (o2 : Nat → Int32) (hf : f_X3_run p1_areas t_left p1_numbers p2 p3 = some (o0, o1, o2)) : CM l yX3_run wqX3_run rmX3_run (kS te) dC dI cI cZ [.ref h_t, .ref h_p1, .int p2, .int p3] [(h_p1, .inr (1, fX1 h_p1_surfaces h_p1_cliffs h_p1_boulders h_p1_scratches h_p1_numbers h_p1_facts h_p1_signs h_p1_areas h_p1_heights p1_ridges)), (h_p1_areas, .inl (cI, 20, .inl p1_areas)), (h_t, .inr (3, fX3 h_t_left t_hours t_greatest)), (h_t_left, .inl (cI, 20, .inl t_left)), (h_p1_numbers, .inl (cI, 6, .inl p1_numbers))] [(h_p1, .inr (1, fX1 h_p1_surfaces h_p1_cliffs h_p1_boulders h_p1_scratches h_p1_numbers h_p1_facts h_p1_signs h_p1_areas h_p1_heights p1_ridges)), (h_p1_areas, .inl (cI, 20, .inl p1_areas)), (h_t, .inr (3, fX3 h_t_left o0 o1)), (h_t_left, .inl (cI, 20, .inl o2)), (h_p1_numbers, .inl (cI, 6, .inl p1_numbers))] none := by
  refine CM_of (cc := cX3_run) (maxL := 7) (ret := none) (by decide +kernel) rfl (Nat.le_of_ble_eq_true rfl) ?_
  intro p e s m args below meth c A Q hx hb hr hml hown hts hlocks hA hK hP hD hS hE hQ hAe ls hl
  have hown : s.vm.findClass RX3 = some m.cls := hown
  have hl : lv_has ls 7 [(0, .ref h_t), (1, .ref h_p1), (2, .int p2), (3, .int p3)] := hl
  unfold f_X3_run at hf
  refine lv_aload_n hx hb dX3_run_0 rfl (lv_at hl 1 rfl) ?_
  refine va_get (D := (dC, dI)) (ci := 1) (v := .ref h_p1_areas) (C := RX1) (T := TX1) (N := 10) hx hb hts (in1 tw_X1) hown hK hP 0 rfl rfl 7 (by decide) (hts _ (List.mem_cons_of_mem _ kw_564)) (fun _ h9 => h9) rfl dX3_run_1 ?_
  refine lv_iload_n hx hb dX3_run_4 rfl (lv_at hl 2 rfl) ?_
  refine lv_iload_n hx hb dX3_run_5 rfl (lv_at hl 3 rfl) ?_
  obtain ⟨r1, hg2, hf⟩ := bd1_some hf
  refine CM_callS (As := [.ref h_p1_areas, .int p2, .int p3]) (rest := []) (wc := [(h_p1_areas, .inl (cI, 20, .inl p1_areas))]) (w1 := [(h_p1_areas, .inl (cI, 20, .inl p1_areas))]) (wr := [(h_p1, .inr (1, fX1 h_p1_surfaces h_p1_cliffs h_p1_boulders h_p1_scratches h_p1_numbers h_p1_facts h_p1_signs h_p1_areas h_p1_heights p1_ridges)), (h_t, .inr (3, fX3 h_t_left t_hours t_greatest)), (h_t_left, .inl (cI, 20, .inl t_left)), (h_p1_numbers, .inl (cI, 6, .inl p1_numbers))]) (wo := [(h_p1, .inr (1, fX1 h_p1_surfaces h_p1_cliffs h_p1_boulders h_p1_scratches h_p1_numbers h_p1_facts h_p1_signs h_p1_areas h_p1_heights p1_ridges)), (h_p1_areas, .inl (cI, 20, .inl p1_areas)), (h_t, .inr (3, fX3 h_t_left t_hours t_greatest)), (h_t_left, .inl (cI, 20, .inl t_left)), (h_p1_numbers, .inl (cI, 6, .inl p1_numbers))]) (v := (some (.int r1))) ⟨hx, hb, hml, hown, hts⟩ (c_X3_volume l dC dI cI cZ te h_p1_areas (20) p1_areas p2 p3 r1 hg2) (va_cwS 3 hts (gS kw_565 kw_566 kw_102 kw_567) rfl rfl rfl (by decide +kernel) ⟨Nat.le_of_ble_eq_true rfl, Nat.le_of_ble_eq_true rfl⟩) (kS_env te) hK hP hD hS hA hE [1] [0, 2, 3, 4] [0, 4, 1, 2, 3] rfl rfl (by decide) (by decide) (by decide) (by decide) rfl rfl hl.1 rfl (Nat.le_of_ble_eq_true rfl) dX3_run_6 ⟨Nat.zero_le _, Nat.zero_le _⟩ (fun H locs hP hD hS => ?_)
  show W p l e rmX3_run s m args below meth c H locs 0 0 Q (F0 m 9 ls [.int r1])
  refine lv_istore (lv' := [(4, .int r1), (0, .ref h_t), (1, .ref h_p1), (2, .int p2), (3, .int p3)]) hx hb dX3_run_9 hl (by decide) rfl (fun ls hl => ?_)
  refine lv_aload_n hx hb dX3_run_11 rfl (lv_at hl 2 rfl) ?_
  refine va_get (D := (dC, dI)) (ci := 1) (v := .ref h_p1_areas) (C := RX1) (T := TX1) (N := 10) hx hb hts (in1 tw_X1) hown hK hP 0 rfl rfl 7 (by decide) (hts _ (List.mem_cons_of_mem _ kw_564)) (fun _ h9 => h9) rfl dX3_run_12 ?_
  refine lv_iconst (v := (0 : Int32)) hx hb dX3_run_15 (by decide) ?_
  refine lv_aload_n hx hb dX3_run_16 rfl (lv_at hl 1 rfl) ?_
  refine va_get (D := (dC, dI)) (ci := 3) (v := .ref h_t_left) (C := RX3) (T := TX3) (N := 3) hx hb hts (in1 tw_X3) hown hK hP 2 rfl rfl 0 (by decide) (hts _ (List.mem_cons_of_mem _ kw_62)) (fun _ h9 => h9) rfl dX3_run_17 ?_
  refine lv_iconst (v := (0 : Int32)) hx hb dX3_run_20 (by decide) ?_
  refine lv_bipush (v := (20 : Int32)) hx hb dX3_run_21 (by decide) ?_
  obtain ⟨g3, hf⟩ := chk_some hf
  obtain ⟨y4, e5, hf⟩ := nm_some hf
  refine va_copyi hx hb (hml.trans hl.1.symm) hown (hts _ (List.mem_cons_of_mem _ kw_568)) (hts _ (List.mem_cons_of_mem _ kw_448)) (hts _ (List.mem_cons_of_mem _ kw_449)) (hts _ (List.mem_cons_of_mem _ kw_450)) hK hP hD hS 1 3 0 0 rfl rfl rfl rfl rfl (gcp_of g3).1 (gcp_of g3).2.1 (gcp_of g3).2.2.1 (gcp_of g3).2.2.2.1 (gcp_of g3).2.2.2.2 (fun _ _ => rfl) (Nat.le_of_ble_eq_true rfl) (Nat.le_of_ble_eq_true rfl) dX3_run_23 (fun H locs hP hD hS => ?_)
  have hP : va_P (dC, dI) vwCl [(h_p1, .inr (1, fX1 h_p1_surfaces h_p1_cliffs h_p1_boulders h_p1_scratches h_p1_numbers h_p1_facts h_p1_signs h_p1_areas h_p1_heights p1_ridges)), (h_p1_areas, .inl (cI, 20, .inl p1_areas)), (h_t, .inr (3, fX3 h_t_left t_hours t_greatest)), (h_t_left, .inl (cI, 20, .inl y4)), (h_p1_numbers, .inl (cI, 6, .inl p1_numbers))] H := by rw [e5]; exact hP
  have hD : va_D A [(h_p1, .inr (1, fX1 h_p1_surfaces h_p1_cliffs h_p1_boulders h_p1_scratches h_p1_numbers h_p1_facts h_p1_signs h_p1_areas h_p1_heights p1_ridges)), (h_p1_areas, .inl (cI, 20, .inl p1_areas)), (h_t, .inr (3, fX3 h_t_left t_hours t_greatest)), (h_t_left, .inl (cI, 20, .inl y4)), (h_p1_numbers, .inl (cI, 6, .inl p1_numbers))] := by rw [e5]; exact hD
  refine lv_aload_n hx hb dX3_run_26 rfl (lv_at hl 1 rfl) ?_
  refine lv_iconst (v := (0 : Int32)) hx hb dX3_run_27 (by decide) ?_
  refine va_put (D := (dC, dI)) (ci := 3) (v := .int (0 : Int32)) (ty := tyX3 1) (C := RX3) (T := TX3) (N := 3) hx hb hts (in1 tw_X3) tyX3 tyX3_ok nmX3 hown hK hP hD hS 2 rfl rfl 1 (by decide) (hts _ (List.mem_cons_of_mem _ kw_561)) (fun _ h9 => h9) rfl (tyX3_ok 1 (by decide)) rfl rfl (Nat.le_of_ble_eq_true rfl) dX3_run_28 (fun H locs hP hD hS => ?_)
  have hP : va_P (dC, dI) vwCl [(h_p1, .inr (1, fX1 h_p1_surfaces h_p1_cliffs h_p1_boulders h_p1_scratches h_p1_numbers h_p1_facts h_p1_signs h_p1_areas h_p1_heights p1_ridges)), (h_p1_areas, .inl (cI, 20, .inl p1_areas)), (h_t, .inr (3, fX3 h_t_left (0 : Int32) t_greatest)), (h_t_left, .inl (cI, 20, .inl y4)), (h_p1_numbers, .inl (cI, 6, .inl p1_numbers))] H := hP
  have hD : va_D A [(h_p1, .inr (1, fX1 h_p1_surfaces h_p1_cliffs h_p1_boulders h_p1_scratches h_p1_numbers h_p1_facts h_p1_signs h_p1_areas h_p1_heights p1_ridges)), (h_p1_areas, .inl (cI, 20, .inl p1_areas)), (h_t, .inr (3, fX3 h_t_left (0 : Int32) t_greatest)), (h_t_left, .inl (cI, 20, .inl y4)), (h_p1_numbers, .inl (cI, 6, .inl p1_numbers))] := hD
  refine lv_aload_n hx hb dX3_run_31 rfl (lv_at hl 1 rfl) ?_
  refine lv_iconst (v := (0 : Int32)) hx hb dX3_run_32 (by decide) ?_
  refine va_put (D := (dC, dI)) (ci := 3) (v := .int (0 : Int32)) (ty := tyX3 2) (C := RX3) (T := TX3) (N := 3) hx hb hts (in1 tw_X3) tyX3 tyX3_ok nmX3 hown hK hP hD hS 2 rfl rfl 2 (by decide) (hts _ (List.mem_cons_of_mem _ kw_562)) (fun _ h9 => h9) rfl (tyX3_ok 2 (by decide)) rfl rfl (Nat.le_of_ble_eq_true rfl) dX3_run_33 (fun H locs hP hD hS => ?_)
  have hP : va_P (dC, dI) vwCl [(h_p1, .inr (1, fX1 h_p1_surfaces h_p1_cliffs h_p1_boulders h_p1_scratches h_p1_numbers h_p1_facts h_p1_signs h_p1_areas h_p1_heights p1_ridges)), (h_p1_areas, .inl (cI, 20, .inl p1_areas)), (h_t, .inr (3, fX3 h_t_left (0 : Int32) (0 : Int32))), (h_t_left, .inl (cI, 20, .inl y4)), (h_p1_numbers, .inl (cI, 6, .inl p1_numbers))] H := hP
  have hD : va_D A [(h_p1, .inr (1, fX1 h_p1_surfaces h_p1_cliffs h_p1_boulders h_p1_scratches h_p1_numbers h_p1_facts h_p1_signs h_p1_areas h_p1_heights p1_ridges)), (h_p1_areas, .inl (cI, 20, .inl p1_areas)), (h_t, .inr (3, fX3 h_t_left (0 : Int32) (0 : Int32))), (h_t_left, .inl (cI, 20, .inl y4)), (h_p1_numbers, .inl (cI, 6, .inl p1_numbers))] := hD
  refine lv_iload_n hx hb dX3_run_36 rfl (lv_at hl 3 rfl) ?_
  refine lv_bipush (v := (20 : Int32)) hx hb dX3_run_37 (by decide) ?_
  refine va_mmin hx hb (hml.trans hl.1.symm) hown (hts _ (List.mem_cons_of_mem _ kw_563)) (hts _ (List.mem_cons_of_mem _ kw_4)) (hts _ (List.mem_cons_of_mem _ kw_5)) (hts _ (List.mem_cons_of_mem _ kw_6)) (Nat.le_of_ble_eq_true rfl) (Nat.le_of_ble_eq_true rfl) (Nat.zero_le _) (Nat.zero_le _) dX3_run_39 ?_
  refine lv_iconst (v := (1 : Int32)) hx hb dX3_run_42 (by decide) ?_
  refine lv_isub hx hb dX3_run_43 ?_
  obtain ⟨x6, e7, hf⟩ := nm_some hf
  refine lv_tope e7 ?_
  refine lv_istore (lv' := [(5, .int x6), (4, .int r1), (0, .ref h_t), (1, .ref h_p1), (2, .int p2), (3, .int p3)]) hx hb dX3_run_44 hl (by decide) rfl (fun ls hl => ?_)
  have L54 : ∀ (fu37 : Nat) (y31 : Nat → Int32) (x32 : Int32) (x33 : Int32) (x34 : Int32) (x35 : Int32) (y28 : Nat → Int32) (x29 : Int32) (x30 : Int32), f_X3_run_L1 p3 p1_numbers fu37 y31 x32 x33 x34 x35 = some (y28, x29, x30) → (∀ (H : Heap) (locs : List Loc), va_P (dC, dI) vwCl [(h_p1, .inr (1, fX1 h_p1_surfaces h_p1_cliffs h_p1_boulders h_p1_scratches h_p1_numbers h_p1_facts h_p1_signs h_p1_areas h_p1_heights p1_ridges)), (h_p1_areas, .inl (cI, 20, .inl p1_areas)), (h_t, .inr (3, fX3 h_t_left x29 x30)), (h_t_left, .inl (cI, 20, .inl y28)), (h_p1_numbers, .inl (cI, 6, .inl p1_numbers))] H → va_D A [(h_p1, .inr (1, fX1 h_p1_surfaces h_p1_cliffs h_p1_boulders h_p1_scratches h_p1_numbers h_p1_facts h_p1_signs h_p1_areas h_p1_heights p1_ridges)), (h_p1_areas, .inl (cI, 20, .inl p1_areas)), (h_t, .inr (3, fX3 h_t_left x29 x30)), (h_t_left, .inl (cI, 20, .inl y28)), (h_p1_numbers, .inl (cI, 6, .inl p1_numbers))] → va_S A s.heap H locs → ∀ ls : Array Slot, lv_has ls 7 [] → W p l e rmX3_run s m args below meth c H locs 0 0 Q (F0 m 132 ls [])) → ∀ (H : Heap) (locs : List Loc), va_P (dC, dI) vwCl [(h_p1, .inr (1, fX1 h_p1_surfaces h_p1_cliffs h_p1_boulders h_p1_scratches h_p1_numbers h_p1_facts h_p1_signs h_p1_areas h_p1_heights p1_ridges)), (h_p1_areas, .inl (cI, 20, .inl p1_areas)), (h_t, .inr (3, fX3 h_t_left x32 x33)), (h_t_left, .inl (cI, 20, .inl y31)), (h_p1_numbers, .inl (cI, 6, .inl p1_numbers))] H → va_D A [(h_p1, .inr (1, fX1 h_p1_surfaces h_p1_cliffs h_p1_boulders h_p1_scratches h_p1_numbers h_p1_facts h_p1_signs h_p1_areas h_p1_heights p1_ridges)), (h_p1_areas, .inl (cI, 20, .inl p1_areas)), (h_t, .inr (3, fX3 h_t_left x32 x33)), (h_t_left, .inl (cI, 20, .inl y31)), (h_p1_numbers, .inl (cI, 6, .inl p1_numbers))] → va_S A s.heap H locs → ∀ ls : Array Slot, lv_has ls 7 [(0, .ref h_t), (1, .ref h_p1), (3, .int p3), (4, .int x34), (5, .int x35)] → W p l e rmX3_run s m args below meth c H locs 0 0 Q (F0 m 46 ls []) := by
    intro fu37
    induction fu37 with
    | zero =>
      intro y31 x32 x33 x34 x35 y28 x29 x30 hf
      unfold f_X3_run_L1 at hf
      exact none_ne hf
    | succ fu37 ih36 =>
      intro y31 x32 x33 x34 x35 y28 x29 x30 hf hX38 H locs hP hD hS ls hl
      unfold f_X3_run_L1 at hf
      refine lv_iload hx hb dX3_run_46 (lv_at hl 3 rfl) ?_
      refine lv_if_le (tgt := 132) hx hb dX3_run_48 (by decide) (fun c39 => ?_) (fun c39 => ?_)
      · replace hf := ifp c39 hf
        obtain ⟨rfl, rfl, rfl⟩ := inj3 hf
        exact hX38 _ _ hP hD hS _ (lv_sub hl [] rfl)
      · replace hf := ifn c39 hf
        refine lv_aload_n hx hb dX3_run_51 rfl (lv_at hl 0 rfl) ?_
        refine va_get (D := (dC, dI)) (ci := 3) (v := .int x32) (C := RX3) (T := TX3) (N := 3) hx hb hts (in1 tw_X3) hown hK hP 2 rfl rfl 1 (by decide) (hts _ (List.mem_cons_of_mem _ kw_561)) (fun _ h9 => h9) rfl dX3_run_52 ?_
        refine lv_sipush (v := (1000 : Int32)) hx hb dX3_run_55 (by decide) ?_
        refine lv_icmp_ge (tgt := 132) hx hb dX3_run_58 (by decide) (fun c40 => ?_) (fun c40 => ?_)
        · replace hf := ifp c40 hf
          obtain ⟨rfl, rfl, rfl⟩ := inj3 hf
          exact hX38 _ _ hP hD hS _ (lv_sub hl [] rfl)
        · replace hf := ifn c40 hf
          refine lv_aload_n hx hb dX3_run_61 rfl (lv_at hl 0 rfl) ?_
          refine lv_iload hx hb dX3_run_62 (lv_at hl 4 rfl) ?_
          refine lv_iload_n hx hb dX3_run_64 rfl (lv_at hl 2 rfl) ?_
          obtain ⟨r41, hg42, hf⟩ := bd1_some hf
          refine CM_callV (C := RX3) (As := [.int x35, .int p3]) (rest := []) (wc := [(h_t, .inr (3, fX3 h_t_left x32 x33)), (h_t_left, .inl (cI, 20, .inl y31))]) (w1 := [(h_t, .inr (3, fX3 h_t_left x32 x33)), (h_t_left, .inl (cI, 20, .inl y31))]) (wr := [(h_p1, .inr (1, fX1 h_p1_surfaces h_p1_cliffs h_p1_boulders h_p1_scratches h_p1_numbers h_p1_facts h_p1_signs h_p1_areas h_p1_heights p1_ridges)), (h_p1_areas, .inl (cI, 20, .inl p1_areas)), (h_p1_numbers, .inl (cI, 6, .inl p1_numbers))]) (wo := [(h_p1, .inr (1, fX1 h_p1_surfaces h_p1_cliffs h_p1_boulders h_p1_scratches h_p1_numbers h_p1_facts h_p1_signs h_p1_areas h_p1_heights p1_ridges)), (h_p1_areas, .inl (cI, 20, .inl p1_areas)), (h_t, .inr (3, fX3 h_t_left x32 x33)), (h_t_left, .inl (cI, 20, .inl y31)), (h_p1_numbers, .inl (cI, 6, .inl p1_numbers))]) (v := (some (.int r41))) ⟨hx, hb, hml, hown, hts⟩ (c_X3_highestWithSomething l dC dI cI cZ te h_t h_t_left x32 x33 y31 x35 p3 r41 hg42) (cwV 2 hts (gV kw_569 kw_570 kw_571 kw_102 kw_572) rfl rfl rfl (by decide +kernel) ⟨Nat.le_of_ble_eq_true rfl, Nat.le_of_ble_eq_true rfl⟩) (kS_env te) hK hP hD hS hA hE [2, 3] [0, 1, 4] [0, 1, 3, 4, 2] rfl rfl (by decide) (by decide) (by decide) (by decide) rfl 2 3 rfl rfl rfl rfl hl.1 rfl (Nat.le_of_ble_eq_true rfl) dX3_run_65 ⟨Nat.zero_le _, Nat.zero_le _⟩ (fun H locs hP hD hS => ?_)
          show W p l e rmX3_run s m args below meth c H locs 0 0 Q (F0 m 68 ls [.int r41])
          refine lv_istore (lv' := [(5, .int r41), (0, .ref h_t), (1, .ref h_p1), (3, .int p3), (4, .int x34)]) hx hb dX3_run_68 hl (by decide) rfl (fun ls hl => ?_)
          refine lv_iload hx hb dX3_run_70 (lv_at hl 4 rfl) ?_
          refine lv_aload_n hx hb dX3_run_72 rfl (lv_at hl 2 rfl) ?_
          refine va_get (D := (dC, dI)) (ci := 1) (v := .ref h_p1_numbers) (C := RX1) (T := TX1) (N := 10) hx hb hts (in1 tw_X1) hown hK hP 0 rfl rfl 4 (by decide) (hts _ (List.mem_cons_of_mem _ kw_573)) (fun _ h9 => h9) rfl dX3_run_73 ?_
          refine lv_iconst (v := (2 : Int32)) hx hb dX3_run_76 (by decide) ?_
          obtain ⟨g43, hf⟩ := chk_some hf
          refine va_iald hx hb hK hP 4 0 rfl rfl (gin_in g43) dX3_run_77 ?_
          refine lv_iload hx hb dX3_run_78 (lv_at hl 0 rfl) ?_
          refine lv_iload_n hx hb dX3_run_80 rfl (lv_at hl 3 rfl) ?_
          refine lv_isub hx hb dX3_run_81 ?_
          refine lv_iconst (v := (1 : Int32)) hx hb dX3_run_82 (by decide) ?_
          refine lv_iadd hx hb dX3_run_83 ?_
          refine lv_imul hx hb dX3_run_84 ?_
          refine va_mmin hx hb (hml.trans hl.1.symm) hown (hts _ (List.mem_cons_of_mem _ kw_563)) (hts _ (List.mem_cons_of_mem _ kw_4)) (hts _ (List.mem_cons_of_mem _ kw_5)) (hts _ (List.mem_cons_of_mem _ kw_6)) (Nat.le_of_ble_eq_true rfl) (Nat.le_of_ble_eq_true rfl) (Nat.zero_le _) (Nat.zero_le _) dX3_run_85 ?_
          obtain ⟨x44, e45, hf⟩ := nm_some hf
          refine lv_tope e45 ?_
          refine lv_istore (lv' := [(6, .int x44), (5, .int r41), (0, .ref h_t), (1, .ref h_p1), (3, .int p3), (4, .int x34)]) hx hb dX3_run_88 hl (by decide) rfl (fun ls hl => ?_)
          refine lv_aload_n hx hb dX3_run_90 rfl (lv_at hl 2 rfl) ?_
          refine lv_iload hx hb dX3_run_91 (lv_at hl 1 rfl) ?_
          refine lv_iload_n hx hb dX3_run_93 rfl (lv_at hl 4 rfl) ?_
          refine lv_iload hx hb dX3_run_94 (lv_at hl 0 rfl) ?_
          obtain ⟨y46, hg47, hf⟩ := bd1_some hf
          refine CM_callV (C := RX3) (As := [.int r41, .int p3, .int x44]) (rest := []) (wc := [(h_t, .inr (3, fX3 h_t_left x32 x33)), (h_t_left, .inl (cI, 20, .inl y31))]) (w1 := [(h_t, .inr (3, fX3 h_t_left x32 x33)), (h_t_left, .inl (cI, 20, .inl y46))]) (wr := [(h_p1, .inr (1, fX1 h_p1_surfaces h_p1_cliffs h_p1_boulders h_p1_scratches h_p1_numbers h_p1_facts h_p1_signs h_p1_areas h_p1_heights p1_ridges)), (h_p1_areas, .inl (cI, 20, .inl p1_areas)), (h_p1_numbers, .inl (cI, 6, .inl p1_numbers))]) (wo := [(h_p1, .inr (1, fX1 h_p1_surfaces h_p1_cliffs h_p1_boulders h_p1_scratches h_p1_numbers h_p1_facts h_p1_signs h_p1_areas h_p1_heights p1_ridges)), (h_p1_areas, .inl (cI, 20, .inl p1_areas)), (h_t, .inr (3, fX3 h_t_left x32 x33)), (h_t_left, .inl (cI, 20, .inl y46)), (h_p1_numbers, .inl (cI, 6, .inl p1_numbers))]) (v := (none)) ⟨hx, hb, hml, hown, hts⟩ (c_X3_drain l dC dI cI cZ te h_t h_t_left x32 x33 y31 r41 p3 x44 y46 hg47) (cwV 3 hts (gV kw_574 kw_575 kw_576 kw_102 kw_577) rfl rfl rfl (by decide +kernel) ⟨Nat.le_of_ble_eq_true rfl, Nat.le_of_ble_eq_true rfl⟩) (kS_env te) hK hP hD hS hA hE [2, 3] [0, 1, 4] [0, 1, 3, 4, 2] rfl rfl (by decide) (by decide) (by decide) (by decide) rfl 2 3 rfl rfl rfl rfl hl.1 rfl (Nat.le_of_ble_eq_true rfl) dX3_run_96 ⟨Nat.zero_le _, Nat.zero_le _⟩ (fun H locs hP hD hS => ?_)
          show W p l e rmX3_run s m args below meth c H locs 0 0 Q (F0 m 99 ls [])
          refine lv_iload hx hb dX3_run_99 (lv_at hl 5 rfl) ?_
          refine lv_iload hx hb dX3_run_101 (lv_at hl 0 rfl) ?_
          refine lv_isub hx hb dX3_run_103 ?_
          obtain ⟨x48, e49, hf⟩ := nm_some hf
          refine lv_tope e49 ?_
          refine lv_istore (lv' := [(4, .int x48), (6, .int x44), (5, .int r41), (0, .ref h_t), (1, .ref h_p1), (3, .int p3)]) hx hb dX3_run_104 hl (by decide) rfl (fun ls hl => ?_)
          refine lv_aload_n hx hb dX3_run_106 rfl (lv_at hl 3 rfl) ?_
          refine lv_aload_n hx hb dX3_run_107 rfl (lv_at hl 3 rfl) ?_
          refine va_get (D := (dC, dI)) (ci := 3) (v := .int x33) (C := RX3) (T := TX3) (N := 3) hx hb hts (in1 tw_X3) hown hK hP 2 rfl rfl 2 (by decide) (hts _ (List.mem_cons_of_mem _ kw_562)) (fun _ h9 => h9) rfl dX3_run_108 ?_
          refine lv_iload hx hb dX3_run_111 (lv_at hl 1 rfl) ?_
          refine va_mmax hx hb (hml.trans hl.1.symm) hown (hts _ (List.mem_cons_of_mem _ kw_560)) (hts _ (List.mem_cons_of_mem _ kw_8)) (hts _ (List.mem_cons_of_mem _ kw_5)) (hts _ (List.mem_cons_of_mem _ kw_9)) (Nat.le_of_ble_eq_true rfl) (Nat.le_of_ble_eq_true rfl) (Nat.zero_le _) (Nat.zero_le _) dX3_run_113 ?_
          obtain ⟨x50, e51, hf⟩ := nm_some hf
          refine lv_tope e51 ?_
          refine va_put (D := (dC, dI)) (ci := 3) (v := .int x50) (ty := tyX3 2) (C := RX3) (T := TX3) (N := 3) hx hb hts (in1 tw_X3) tyX3 tyX3_ok nmX3 hown hK hP hD hS 2 rfl rfl 2 (by decide) (hts _ (List.mem_cons_of_mem _ kw_562)) (fun _ h9 => h9) rfl (tyX3_ok 2 (by decide)) rfl rfl (Nat.le_of_ble_eq_true rfl) dX3_run_116 (fun H locs hP hD hS => ?_)
          have hP : va_P (dC, dI) vwCl [(h_p1, .inr (1, fX1 h_p1_surfaces h_p1_cliffs h_p1_boulders h_p1_scratches h_p1_numbers h_p1_facts h_p1_signs h_p1_areas h_p1_heights p1_ridges)), (h_p1_areas, .inl (cI, 20, .inl p1_areas)), (h_t, .inr (3, fX3 h_t_left x32 x50)), (h_t_left, .inl (cI, 20, .inl y46)), (h_p1_numbers, .inl (cI, 6, .inl p1_numbers))] H := hP
          have hD : va_D A [(h_p1, .inr (1, fX1 h_p1_surfaces h_p1_cliffs h_p1_boulders h_p1_scratches h_p1_numbers h_p1_facts h_p1_signs h_p1_areas h_p1_heights p1_ridges)), (h_p1_areas, .inl (cI, 20, .inl p1_areas)), (h_t, .inr (3, fX3 h_t_left x32 x50)), (h_t_left, .inl (cI, 20, .inl y46)), (h_p1_numbers, .inl (cI, 6, .inl p1_numbers))] := hD
          refine lv_aload_n hx hb dX3_run_119 rfl (lv_at hl 3 rfl) ?_
          refine lv_dup hx hb dX3_run_120 rfl ?_
          refine va_get (D := (dC, dI)) (ci := 3) (v := .int x32) (C := RX3) (T := TX3) (N := 3) hx hb hts (in1 tw_X3) hown hK hP 2 rfl rfl 1 (by decide) (hts _ (List.mem_cons_of_mem _ kw_561)) (fun _ h9 => h9) rfl dX3_run_121 ?_
          refine lv_iconst (v := (1 : Int32)) hx hb dX3_run_124 (by decide) ?_
          refine lv_iadd hx hb dX3_run_125 ?_
          obtain ⟨x52, e53, hf⟩ := nm_some hf
          refine lv_tope e53 ?_
          refine va_put (D := (dC, dI)) (ci := 3) (v := .int x52) (ty := tyX3 1) (C := RX3) (T := TX3) (N := 3) hx hb hts (in1 tw_X3) tyX3 tyX3_ok nmX3 hown hK hP hD hS 2 rfl rfl 1 (by decide) (hts _ (List.mem_cons_of_mem _ kw_561)) (fun _ h9 => h9) rfl (tyX3_ok 1 (by decide)) rfl rfl (Nat.le_of_ble_eq_true rfl) dX3_run_126 (fun H locs hP hD hS => ?_)
          have hP : va_P (dC, dI) vwCl [(h_p1, .inr (1, fX1 h_p1_surfaces h_p1_cliffs h_p1_boulders h_p1_scratches h_p1_numbers h_p1_facts h_p1_signs h_p1_areas h_p1_heights p1_ridges)), (h_p1_areas, .inl (cI, 20, .inl p1_areas)), (h_t, .inr (3, fX3 h_t_left x52 x50)), (h_t_left, .inl (cI, 20, .inl y46)), (h_p1_numbers, .inl (cI, 6, .inl p1_numbers))] H := hP
          have hD : va_D A [(h_p1, .inr (1, fX1 h_p1_surfaces h_p1_cliffs h_p1_boulders h_p1_scratches h_p1_numbers h_p1_facts h_p1_signs h_p1_areas h_p1_heights p1_ridges)), (h_p1_areas, .inl (cI, 20, .inl p1_areas)), (h_t, .inr (3, fX3 h_t_left x52 x50)), (h_t_left, .inl (cI, 20, .inl y46)), (h_p1_numbers, .inl (cI, 6, .inl p1_numbers))] := hD
          refine lv_goto (tgt := 46) hx hb dX3_run_129 (by decide) ?_
          exact ih36 _ _ _ _ _ _ _ _ hf hX38 _ _ hP hD hS _ (lv_sub hl [3, 4, 5, 0, 2] rfl)
  obtain ⟨y28, x29, x30, hg, hf⟩ := bd3_some hf
  refine L54 FU _ _ _ _ _ _ _ _ hg ?_ _ _ hP hD hS _ (lv_sub hl [2, 3, 5, 1, 0] rfl)
  · intro H locs hP hD hS ls hl
    obtain ⟨rfl, rfl, rfl⟩ := inj3 hf
    subst hQ
    exact CM_vret hx hb hr hlocks hAe hP hD hS dX3_run_132
def rmX4_add : Room := { frames := 0, cells := 0, slots := 0, locals := 0 }
abbrev wqX4_add : List Cond := Cond.code yX4_add cX4_add 7 (some .int) :: tG
set_option maxHeartbeats 4000000 in
set_option maxRecDepth 100000 in
theorem c_X4_add (l : Launch) (dC : Nat → ClassId) (dI : Nat → Nat → Nat) (cI cZ : ClassId) (te : Nat → Nat) (h_t : Nat) (h_t_cells : Nat) (t_limit : Int32) (t_size : Int32) (n_t_cells : Nat) (t_cells : Nat → Int32) (p1 : Int32) (p2 : Int32) (p3 : Int32) (p4 : Int32) (p5 : Int32) (o0 : Int32) (o1 : Int32) (o2 : Nat → Int32) (hf : f_X4_add t_limit t_size n_t_cells t_cells p1 p2 p3 p4 p5 = some (o0, o1, o2)) : CM l yX4_add wqX4_add rmX4_add (kS te) dC dI cI cZ [.ref h_t, .int p1, .int p2, .int p3, .int p4, .int p5] [(h_t, .inr (4, fX4 t_limit h_t_cells t_size)), (h_t_cells, .inl (cI, n_t_cells, .inl t_cells))] [(h_t, .inr (4, fX4 t_limit h_t_cells o1)), (h_t_cells, .inl (cI, n_t_cells, .inl o2))] (some (.int o0)) := by
  refine CM_of (cc := cX4_add) (maxL := 7) (ret := (some .int)) (by decide +kernel) rfl (Nat.le_of_ble_eq_true rfl) ?_
  intro p e s m args below meth c A Q hx hb hr hml hown hts hlocks hA hK hP hD hS hE hQ hAe ls hl
  have hown : s.vm.findClass RX4 = some m.cls := hown
  have hl : lv_has ls 7 [(0, .ref h_t), (1, .int p1), (2, .int p2), (3, .int p3), (4, .int p4), (5, .int p5)] := hl
  unfold f_X4_add at hf
  refine lv_aload_n hx hb dX4_add_0 rfl (lv_at hl 0 rfl) ?_
  refine va_get (D := (dC, dI)) (ci := 4) (v := .int t_size) (C := RX4) (T := TX4) (N := 3) hx hb hts (in1 tw_X4) hown hK hP 0 rfl rfl 2 (by decide) (hts _ (List.mem_cons_of_mem _ kw_401)) (fun _ h9 => h9) rfl dX4_add_1 ?_
  refine lv_aload_n hx hb dX4_add_4 rfl (lv_at hl 0 rfl) ?_
  refine va_get (D := (dC, dI)) (ci := 4) (v := .int t_limit) (C := RX4) (T := TX4) (N := 3) hx hb hts (in1 tw_X4) hown hK hP 0 rfl rfl 0 (by decide) (hts _ (List.mem_cons_of_mem _ kw_11)) (fun _ h9 => h9) rfl dX4_add_5 ?_
  refine lv_icmp_lt (tgt := 14) hx hb dX4_add_8 (by decide) (fun c1 => ?_) (fun c1 => ?_)
  · replace hf := ifp c1 hf
    refine lv_iconst (v := (5 : Int32)) hx hb dX4_add_14 (by decide) ?_
    refine lv_aload_n hx hb dX4_add_15 rfl (lv_at hl 0 rfl) ?_
    refine va_get (D := (dC, dI)) (ci := 4) (v := .int t_size) (C := RX4) (T := TX4) (N := 3) hx hb hts (in1 tw_X4) hown hK hP 0 rfl rfl 2 (by decide) (hts _ (List.mem_cons_of_mem _ kw_401)) (fun _ h9 => h9) rfl dX4_add_16 ?_
    refine lv_imul hx hb dX4_add_19 ?_
    obtain ⟨x2, e3, hf⟩ := nm_some hf
    refine lv_tope e3 ?_
    refine lv_istore (lv' := [(6, .int x2), (0, .ref h_t), (1, .int p1), (2, .int p2), (3, .int p3), (4, .int p4), (5, .int p5)]) hx hb dX4_add_20 hl (by decide) rfl (fun ls hl => ?_)
    refine lv_aload_n hx hb dX4_add_22 rfl (lv_at hl 1 rfl) ?_
    refine va_get (D := (dC, dI)) (ci := 4) (v := .ref h_t_cells) (C := RX4) (T := TX4) (N := 3) hx hb hts (in1 tw_X4) hown hK hP 0 rfl rfl 1 (by decide) (hts _ (List.mem_cons_of_mem _ kw_13)) (fun _ h9 => h9) rfl dX4_add_23 ?_
    refine lv_iload hx hb dX4_add_26 (lv_at hl 0 rfl) ?_
    refine lv_iload_n hx hb dX4_add_28 rfl (lv_at hl 2 rfl) ?_
    obtain ⟨g4, hf⟩ := chk_some hf
    obtain ⟨y5, e6, hf⟩ := nm_some hf
    refine va_iast hx hb hK hP hD hS 1 0 rfl rfl (gin_in g4) dX4_add_29 (fun H locs hP hD hS => ?_)
    have hP : va_P (dC, dI) vwCl [(h_t, .inr (4, fX4 t_limit h_t_cells t_size)), (h_t_cells, .inl (cI, n_t_cells, .inl y5))] H := by rw [e6]; exact hP
    have hD : va_D A [(h_t, .inr (4, fX4 t_limit h_t_cells t_size)), (h_t_cells, .inl (cI, n_t_cells, .inl y5))] := by rw [e6]; exact hD
    refine lv_aload_n hx hb dX4_add_30 rfl (lv_at hl 1 rfl) ?_
    refine va_get (D := (dC, dI)) (ci := 4) (v := .ref h_t_cells) (C := RX4) (T := TX4) (N := 3) hx hb hts (in1 tw_X4) hown hK hP 0 rfl rfl 1 (by decide) (hts _ (List.mem_cons_of_mem _ kw_13)) (fun _ h9 => h9) rfl dX4_add_31 ?_
    refine lv_iload hx hb dX4_add_34 (lv_at hl 0 rfl) ?_
    refine lv_iconst (v := (1 : Int32)) hx hb dX4_add_36 (by decide) ?_
    refine lv_iadd hx hb dX4_add_37 ?_
    refine lv_iload_n hx hb dX4_add_38 rfl (lv_at hl 3 rfl) ?_
    obtain ⟨g7, hf⟩ := chk_some hf
    obtain ⟨y8, e9, hf⟩ := nm_some hf
    refine va_iast hx hb hK hP hD hS 1 0 rfl rfl (gin_in g7) dX4_add_39 (fun H locs hP hD hS => ?_)
    have hP : va_P (dC, dI) vwCl [(h_t, .inr (4, fX4 t_limit h_t_cells t_size)), (h_t_cells, .inl (cI, n_t_cells, .inl y8))] H := by rw [e9]; exact hP
    have hD : va_D A [(h_t, .inr (4, fX4 t_limit h_t_cells t_size)), (h_t_cells, .inl (cI, n_t_cells, .inl y8))] := by rw [e9]; exact hD
    refine lv_aload_n hx hb dX4_add_40 rfl (lv_at hl 1 rfl) ?_
    refine va_get (D := (dC, dI)) (ci := 4) (v := .ref h_t_cells) (C := RX4) (T := TX4) (N := 3) hx hb hts (in1 tw_X4) hown hK hP 0 rfl rfl 1 (by decide) (hts _ (List.mem_cons_of_mem _ kw_13)) (fun _ h9 => h9) rfl dX4_add_41 ?_
    refine lv_iload hx hb dX4_add_44 (lv_at hl 0 rfl) ?_
    refine lv_iconst (v := (2 : Int32)) hx hb dX4_add_46 (by decide) ?_
    refine lv_iadd hx hb dX4_add_47 ?_
    refine lv_iload_n hx hb dX4_add_48 rfl (lv_at hl 4 rfl) ?_
    obtain ⟨g10, hf⟩ := chk_some hf
    obtain ⟨y11, e12, hf⟩ := nm_some hf
    refine va_iast hx hb hK hP hD hS 1 0 rfl rfl (gin_in g10) dX4_add_49 (fun H locs hP hD hS => ?_)
    have hP : va_P (dC, dI) vwCl [(h_t, .inr (4, fX4 t_limit h_t_cells t_size)), (h_t_cells, .inl (cI, n_t_cells, .inl y11))] H := by rw [e12]; exact hP
    have hD : va_D A [(h_t, .inr (4, fX4 t_limit h_t_cells t_size)), (h_t_cells, .inl (cI, n_t_cells, .inl y11))] := by rw [e12]; exact hD
    refine lv_aload_n hx hb dX4_add_50 rfl (lv_at hl 1 rfl) ?_
    refine va_get (D := (dC, dI)) (ci := 4) (v := .ref h_t_cells) (C := RX4) (T := TX4) (N := 3) hx hb hts (in1 tw_X4) hown hK hP 0 rfl rfl 1 (by decide) (hts _ (List.mem_cons_of_mem _ kw_13)) (fun _ h9 => h9) rfl dX4_add_51 ?_
    refine lv_iload hx hb dX4_add_54 (lv_at hl 0 rfl) ?_
    refine lv_iconst (v := (3 : Int32)) hx hb dX4_add_56 (by decide) ?_
    refine lv_iadd hx hb dX4_add_57 ?_
    refine lv_iload hx hb dX4_add_58 (lv_at hl 5 rfl) ?_
    obtain ⟨g13, hf⟩ := chk_some hf
    obtain ⟨y14, e15, hf⟩ := nm_some hf
    refine va_iast hx hb hK hP hD hS 1 0 rfl rfl (gin_in g13) dX4_add_60 (fun H locs hP hD hS => ?_)
    have hP : va_P (dC, dI) vwCl [(h_t, .inr (4, fX4 t_limit h_t_cells t_size)), (h_t_cells, .inl (cI, n_t_cells, .inl y14))] H := by rw [e15]; exact hP
    have hD : va_D A [(h_t, .inr (4, fX4 t_limit h_t_cells t_size)), (h_t_cells, .inl (cI, n_t_cells, .inl y14))] := by rw [e15]; exact hD
    refine lv_aload_n hx hb dX4_add_61 rfl (lv_at hl 1 rfl) ?_
    refine va_get (D := (dC, dI)) (ci := 4) (v := .ref h_t_cells) (C := RX4) (T := TX4) (N := 3) hx hb hts (in1 tw_X4) hown hK hP 0 rfl rfl 1 (by decide) (hts _ (List.mem_cons_of_mem _ kw_13)) (fun _ h9 => h9) rfl dX4_add_62 ?_
    refine lv_iload hx hb dX4_add_65 (lv_at hl 0 rfl) ?_
    refine lv_iconst (v := (4 : Int32)) hx hb dX4_add_67 (by decide) ?_
    refine lv_iadd hx hb dX4_add_68 ?_
    refine lv_iload hx hb dX4_add_69 (lv_at hl 6 rfl) ?_
    obtain ⟨g16, hf⟩ := chk_some hf
    obtain ⟨y17, e18, hf⟩ := nm_some hf
    refine va_iast hx hb hK hP hD hS 1 0 rfl rfl (gin_in g16) dX4_add_71 (fun H locs hP hD hS => ?_)
    have hP : va_P (dC, dI) vwCl [(h_t, .inr (4, fX4 t_limit h_t_cells t_size)), (h_t_cells, .inl (cI, n_t_cells, .inl y17))] H := by rw [e18]; exact hP
    have hD : va_D A [(h_t, .inr (4, fX4 t_limit h_t_cells t_size)), (h_t_cells, .inl (cI, n_t_cells, .inl y17))] := by rw [e18]; exact hD
    refine lv_aload_n hx hb dX4_add_72 rfl (lv_at hl 1 rfl) ?_
    refine lv_dup hx hb dX4_add_73 rfl ?_
    refine va_get (D := (dC, dI)) (ci := 4) (v := .int t_size) (C := RX4) (T := TX4) (N := 3) hx hb hts (in1 tw_X4) hown hK hP 0 rfl rfl 2 (by decide) (hts _ (List.mem_cons_of_mem _ kw_401)) (fun _ h9 => h9) rfl dX4_add_74 ?_
    refine lv_dup_x1 hx hb dX4_add_77 rfl rfl ?_
    refine lv_iconst (v := (1 : Int32)) hx hb dX4_add_78 (by decide) ?_
    refine lv_iadd hx hb dX4_add_79 ?_
    obtain ⟨x19, e20, hf⟩ := nm_some hf
    refine lv_tope e20 ?_
    refine va_put (D := (dC, dI)) (ci := 4) (v := .int x19) (ty := tyX4 2) (C := RX4) (T := TX4) (N := 3) hx hb hts (in1 tw_X4) tyX4 tyX4_ok nmX4 hown hK hP hD hS 0 rfl rfl 2 (by decide) (hts _ (List.mem_cons_of_mem _ kw_401)) (fun _ h9 => h9) rfl (tyX4_ok 2 (by decide)) rfl rfl (Nat.le_of_ble_eq_true rfl) dX4_add_80 (fun H locs hP hD hS => ?_)
    have hP : va_P (dC, dI) vwCl [(h_t, .inr (4, fX4 t_limit h_t_cells x19)), (h_t_cells, .inl (cI, n_t_cells, .inl y17))] H := hP
    have hD : va_D A [(h_t, .inr (4, fX4 t_limit h_t_cells x19)), (h_t_cells, .inl (cI, n_t_cells, .inl y17))] := hD
    obtain ⟨rfl, rfl, rfl⟩ := inj3 hf
    subst hQ
    exact CM_iret hx hb hr rfl hlocks hAe hP hD hS dX4_add_83
  · replace hf := ifn c1 hf
    refine lv_bipush (v := (-4 : Int32)) hx hb dX4_add_11 (by decide) ?_
    obtain ⟨rfl, rfl, rfl⟩ := inj3 hf
    subst hQ
    exact CM_iret hx hb hr rfl hlocks hAe hP hD hS dX4_add_13
def rmX7_surfaceAt : Room := { frames := 0, cells := 0, slots := 0, locals := 0 }
abbrev wqX7_surfaceAt : List Cond := Cond.code yX7_surfaceAt cX7_surfaceAt 4 (some .int) :: tG
set_option maxHeartbeats 4000000 in
set_option maxRecDepth 100000 in
theorem c_X7_surfaceAt (l : Launch) (dC : Nat → ClassId) (dI : Nat → Nat → Nat) (cI cZ : ClassId) (te : Nat → Nat) (h_p1 : Nat) (n_p1 : Nat) (p1 : Nat → Int32) (p2 : Int32) (p3 : Int32) (o0 : Int32) (hf : f_X7_surfaceAt n_p1 p1 p2 p3 = some o0) : CM l yX7_surfaceAt wqX7_surfaceAt rmX7_surfaceAt (kS te) dC dI cI cZ [.ref h_p1, .int p2, .int p3] [(h_p1, .inl (cI, n_p1, .inl p1))] [(h_p1, .inl (cI, n_p1, .inl p1))] (some (.int o0)) := by
  refine CM_of (cc := cX7_surfaceAt) (maxL := 4) (ret := (some .int)) (by decide +kernel) rfl (Nat.le_of_ble_eq_true rfl) ?_
  intro p e s m args below meth c A Q hx hb hr hml hown hts hlocks hA hK hP hD hS hE hQ hAe ls hl
  have hown : s.vm.findClass RX7 = some m.cls := hown
  have hl : lv_has ls 4 [(0, .ref h_p1), (1, .int p2), (2, .int p3)] := hl
  unfold f_X7_surfaceAt at hf
  refine lv_bipush (v := (64 : Int32)) hx hb dX7_surfaceAt_0 (by decide) ?_
  refine lv_iload_n hx hb dX7_surfaceAt_2 rfl (lv_at hl 1 rfl) ?_
  refine lv_imul hx hb dX7_surfaceAt_3 ?_
  refine lv_iload_n hx hb dX7_surfaceAt_4 rfl (lv_at hl 2 rfl) ?_
  refine lv_iadd hx hb dX7_surfaceAt_5 ?_
  obtain ⟨x1, e2, hf⟩ := nm_some hf
  refine lv_tope e2 ?_
  refine lv_istore_n (lv' := [(3, .int x1), (0, .ref h_p1), (1, .int p2), (2, .int p3)]) hx hb dX7_surfaceAt_6 rfl hl (by decide) rfl (fun ls hl => ?_)
  refine lv_iload_n hx hb dX7_surfaceAt_7 rfl (lv_at hl 0 rfl) ?_
  refine lv_if_lt (tgt := 23) hx hb dX7_surfaceAt_8 (by decide) (fun c3 => ?_) (fun c3 => ?_)
  · replace hf := ifp c3 hf
    refine lv_iconst (v := (0 : Int32)) hx hb dX7_surfaceAt_23 (by decide) ?_
    obtain rfl := inj1 hf
    subst hQ
    exact CM_iret hx hb hr rfl hlocks hAe hP hD hS dX7_surfaceAt_24
  · replace hf := ifn c3 hf
    refine lv_iload_n hx hb dX7_surfaceAt_11 rfl (lv_at hl 0 rfl) ?_
    refine lv_aload_n hx hb dX7_surfaceAt_12 rfl (lv_at hl 1 rfl) ?_
    refine va_alen hx hb hK hP 0 0 rfl rfl (v := (Int32.ofNat n_p1)) rfl dX7_surfaceAt_13 ?_
    refine lv_icmp_ge (tgt := 23) hx hb dX7_surfaceAt_14 (by decide) (fun c4 => ?_) (fun c4 => ?_)
    · replace hf := ifp c4 hf
      refine lv_iconst (v := (0 : Int32)) hx hb dX7_surfaceAt_23 (by decide) ?_
      obtain rfl := inj1 hf
      subst hQ
      exact CM_iret hx hb hr rfl hlocks hAe hP hD hS dX7_surfaceAt_24
    · replace hf := ifn c4 hf
      refine lv_aload_n hx hb dX7_surfaceAt_17 rfl (lv_at hl 1 rfl) ?_
      refine lv_iload_n hx hb dX7_surfaceAt_18 rfl (lv_at hl 0 rfl) ?_
      obtain ⟨g5, hf⟩ := chk_some hf
      refine va_iald hx hb hK hP 0 0 rfl rfl (gin_in g5) dX7_surfaceAt_19 ?_
      refine lv_goto (tgt := 24) hx hb dX7_surfaceAt_20 (by decide) ?_
      obtain rfl := inj1 hf
      subst hQ
      exact CM_iret hx hb hr rfl hlocks hAe hP hD hS dX7_surfaceAt_24
def rmX7_placeBeside : Room := { frames := 0, cells := 0, slots := 0, locals := 0 }
abbrev wqX7_placeBeside : List Cond := Cond.code yX7_placeBeside cX7_placeBeside 5 (some .int) :: tG
set_option maxHeartbeats 4000000 in
set_option maxRecDepth 100000 in
theorem c_X7_placeBeside (l : Launch) (dC : Nat → ClassId) (dI : Nat → Nat → Nat) (cI cZ : ClassId) (te : Nat → Nat) (p1 : Int32) (p2 : Int32) (o0 : Int32) (hf : f_X7_placeBeside p1 p2 = some o0) : CM l yX7_placeBeside wqX7_placeBeside rmX7_placeBeside (kS te) dC dI cI cZ [.int p1, .int p2] [] [] (some (.int o0)) := by
  refine CM_of (cc := cX7_placeBeside) (maxL := 5) (ret := (some .int)) (by decide +kernel) rfl (Nat.le_of_ble_eq_true rfl) ?_
  intro p e s m args below meth c A Q hx hb hr hml hown hts hlocks hA hK hP hD hS hE hQ hAe ls hl
  have hown : s.vm.findClass RX7 = some m.cls := hown
  have hl : lv_has ls 5 [(0, .int p1), (1, .int p2)] := hl
  unfold f_X7_placeBeside at hf
  refine lv_iload_n hx hb dX7_placeBeside_0 rfl (lv_at hl 1 rfl) ?_
  refine lv_if_lt (tgt := 10) hx hb dX7_placeBeside_1 (by decide) (fun c1 => ?_) (fun c1 => ?_)
  · replace hf := ifp c1 hf
    refine lv_iconst (v := (-1 : Int32)) hx hb dX7_placeBeside_10 (by decide) ?_
    obtain rfl := inj1 hf
    subst hQ
    exact CM_iret hx hb hr rfl hlocks hAe hP hD hS dX7_placeBeside_11
  · replace hf := ifn c1 hf
    refine lv_iload_n hx hb dX7_placeBeside_4 rfl (lv_at hl 1 rfl) ?_
    refine lv_bipush (v := (8 : Int32)) hx hb dX7_placeBeside_5 (by decide) ?_
    refine lv_icmp_lt (tgt := 12) hx hb dX7_placeBeside_7 (by decide) (fun c2 => ?_) (fun c2 => ?_)
    · replace hf := ifp c2 hf
      refine lv_iload_n hx hb dX7_placeBeside_12 rfl (lv_at hl 0 rfl) ?_
      refine lv_bipush (v := (8 : Int32)) hx hb dX7_placeBeside_13 (by decide) ?_
      refine lv_idiv hx hb dX7_placeBeside_15 (by decide) ?_
      refine va_gets hx hb (C := "StoneRiver$Valley") (n := "ROW_STEP") (d := "[I") (kS_z0 hE) hS hown (hts _ (List.mem_cons_of_mem _ kw_578)) (fun _ h9 => h9) dX7_placeBeside_16 ?_
      refine lv_iload_n hx hb dX7_placeBeside_19 rfl (lv_at hl 1 rfl) ?_
      obtain ⟨g3, hf⟩ := chk_some hf
      refine va_ti hx hb (kS_t0 hE) hS (gin_in g3) (v := .int (tb0 p2.toNatClampNeg)) rfl dX7_placeBeside_20 ?_
      refine lv_iadd hx hb dX7_placeBeside_21 ?_
      obtain ⟨x4, e5, hf⟩ := nm_some hf
      refine lv_tope e5 ?_
      refine lv_istore_n (lv' := [(2, .int x4), (0, .int p1), (1, .int p2)]) hx hb dX7_placeBeside_22 rfl hl (by decide) rfl (fun ls hl => ?_)
      refine lv_iload_n hx hb dX7_placeBeside_23 rfl (lv_at hl 1 rfl) ?_
      refine lv_bipush (v := (8 : Int32)) hx hb dX7_placeBeside_24 (by decide) ?_
      refine lv_irem hx hb dX7_placeBeside_26 (by decide) ?_
      refine va_gets hx hb (C := "StoneRiver$Valley") (n := "COLUMN_STEP") (d := "[I") (kS_z1 hE) hS hown (hts _ (List.mem_cons_of_mem _ kw_579)) (fun _ h9 => h9) dX7_placeBeside_27 ?_
      refine lv_iload_n hx hb dX7_placeBeside_30 rfl (lv_at hl 2 rfl) ?_
      obtain ⟨g6, hf⟩ := chk_some hf
      refine va_ti hx hb (kS_t1 hE) hS (gin_in g6) (v := .int (tb1 p2.toNatClampNeg)) rfl dX7_placeBeside_31 ?_
      refine lv_iadd hx hb dX7_placeBeside_32 ?_
      obtain ⟨x7, e8, hf⟩ := nm_some hf
      refine lv_tope e8 ?_
      refine lv_istore_n (lv' := [(3, .int x7), (2, .int x4), (0, .int p1), (1, .int p2)]) hx hb dX7_placeBeside_33 rfl hl (by decide) rfl (fun ls hl => ?_)
      refine lv_iload_n hx hb dX7_placeBeside_34 rfl (lv_at hl 1 rfl) ?_
      obtain ⟨x9, hg, hf⟩ := bd1_some hf
      have J10 : ∀ (H : Heap) (locs : List Loc), va_P (dC, dI) vwCl [] H → va_D A [] → va_S A s.heap H locs → ∀ ls : Array Slot, lv_has ls 5 [(2, .int x4), (3, .int x7)] → W p l e rmX7_placeBeside s m args below meth c H locs 0 0 Q (F0 m 59 ls [.int x9]) := by
        intro H locs hP hD hS ls hl
        refine lv_istore (lv' := [(4, .int x9), (2, .int x4), (3, .int x7)]) hx hb dX7_placeBeside_59 hl (by decide) rfl (fun ls hl => ?_)
        refine lv_iload hx hb dX7_placeBeside_61 (lv_at hl 0 rfl) ?_
        refine lv_if_eq (tgt := 70) hx hb dX7_placeBeside_63 (by decide) (fun c11 => ?_) (fun c11 => ?_)
        · replace hf := ifp c11 hf
          refine lv_bipush (v := (8 : Int32)) hx hb dX7_placeBeside_70 (by decide) ?_
          refine lv_iload_n hx hb dX7_placeBeside_72 rfl (lv_at hl 1 rfl) ?_
          refine lv_imul hx hb dX7_placeBeside_73 ?_
          refine lv_iload_n hx hb dX7_placeBeside_74 rfl (lv_at hl 2 rfl) ?_
          refine lv_iadd hx hb dX7_placeBeside_75 ?_
          obtain rfl := inj1 hf
          subst hQ
          exact CM_iret hx hb hr rfl hlocks hAe hP hD hS dX7_placeBeside_76
        · replace hf := ifn c11 hf
          refine lv_iconst (v := (-1 : Int32)) hx hb dX7_placeBeside_66 (by decide) ?_
          refine lv_goto (tgt := 76) hx hb dX7_placeBeside_67 (by decide) ?_
          obtain rfl := inj1 hf
          subst hQ
          exact CM_iret hx hb hr rfl hlocks hAe hP hD hS dX7_placeBeside_76
      clear hf
      have hf := hg
      refine lv_if_lt (tgt := 54) hx hb dX7_placeBeside_35 (by decide) (fun c12 => ?_) (fun c12 => ?_)
      · replace hf := ifp c12 hf
        refine lv_iconst (v := (1 : Int32)) hx hb dX7_placeBeside_54 (by decide) ?_
        refine lv_goto (tgt := 59) hx hb dX7_placeBeside_55 (by decide) ?_
        obtain rfl := inj1 hf
        exact J10 _ _ hP hD hS _ (lv_sub hl [1, 0] rfl)
      · replace hf := ifn c12 hf
        refine lv_iload_n hx hb dX7_placeBeside_38 rfl (lv_at hl 1 rfl) ?_
        refine lv_bipush (v := (8 : Int32)) hx hb dX7_placeBeside_39 (by decide) ?_
        refine lv_icmp_ge (tgt := 54) hx hb dX7_placeBeside_41 (by decide) (fun c13 => ?_) (fun c13 => ?_)
        · replace hf := ifp c13 hf
          refine lv_iconst (v := (1 : Int32)) hx hb dX7_placeBeside_54 (by decide) ?_
          refine lv_goto (tgt := 59) hx hb dX7_placeBeside_55 (by decide) ?_
          obtain rfl := inj1 hf
          exact J10 _ _ hP hD hS _ (lv_sub hl [1, 0] rfl)
        · replace hf := ifn c13 hf
          refine lv_iload_n hx hb dX7_placeBeside_44 rfl (lv_at hl 0 rfl) ?_
          refine lv_if_lt (tgt := 54) hx hb dX7_placeBeside_45 (by decide) (fun c14 => ?_) (fun c14 => ?_)
          · replace hf := ifp c14 hf
            refine lv_iconst (v := (1 : Int32)) hx hb dX7_placeBeside_54 (by decide) ?_
            refine lv_goto (tgt := 59) hx hb dX7_placeBeside_55 (by decide) ?_
            obtain rfl := inj1 hf
            exact J10 _ _ hP hD hS _ (lv_sub hl [1, 0] rfl)
          · replace hf := ifn c14 hf
            refine lv_iload_n hx hb dX7_placeBeside_48 rfl (lv_at hl 0 rfl) ?_
            refine lv_bipush (v := (8 : Int32)) hx hb dX7_placeBeside_49 (by decide) ?_
            refine lv_icmp_lt (tgt := 58) hx hb dX7_placeBeside_51 (by decide) (fun c15 => ?_) (fun c15 => ?_)
            · replace hf := ifp c15 hf
              refine lv_iconst (v := (0 : Int32)) hx hb dX7_placeBeside_58 (by decide) ?_
              obtain rfl := inj1 hf
              exact J10 _ _ hP hD hS _ (lv_sub hl [1, 0] rfl)
            · replace hf := ifn c15 hf
              refine lv_iconst (v := (1 : Int32)) hx hb dX7_placeBeside_54 (by decide) ?_
              refine lv_goto (tgt := 59) hx hb dX7_placeBeside_55 (by decide) ?_
              obtain rfl := inj1 hf
              exact J10 _ _ hP hD hS _ (lv_sub hl [1, 0] rfl)
    · replace hf := ifn c2 hf
      refine lv_iconst (v := (-1 : Int32)) hx hb dX7_placeBeside_10 (by decide) ?_
      obtain rfl := inj1 hf
      subst hQ
      exact CM_iret hx hb hr rfl hlocks hAe hP hD hS dX7_placeBeside_11
def rmX7_directionOfFlow : Room := { frames := 1, cells := 0, slots := 0, locals := 24 }
abbrev wqX7_directionOfFlow : List Cond := Cond.code yX7_directionOfFlow cX7_directionOfFlow 7 (some .int) :: tG
set_option maxHeartbeats 4000000 in
set_option maxRecDepth 100000 in
theorem c_X7_directionOfFlow (l : Launch) (dC : Nat → ClassId) (dI : Nat → Nat → Nat) (cI cZ : ClassId) (te : Nat → Nat) (h_p1 : Nat) (n_p1 : Nat) (p1 : Nat → Int32) (p2 : Int32) (p3 : Int32) (o0 : Int32) (hf : f_X7_directionOfFlow n_p1 p1 p2 p3 = some o0) : CM l yX7_directionOfFlow wqX7_directionOfFlow rmX7_directionOfFlow (kS te) dC dI cI cZ [.ref h_p1, .int p2, .int p3] [(h_p1, .inl (cI, n_p1, .inl p1))] [(h_p1, .inl (cI, n_p1, .inl p1))] (some (.int o0)) := by
  refine CM_of (cc := cX7_directionOfFlow) (maxL := 7) (ret := (some .int)) (by decide +kernel) rfl (Nat.le_of_ble_eq_true rfl) ?_
  intro p e s m args below meth c A Q hx hb hr hml hown hts hlocks hA hK hP hD hS hE hQ hAe ls hl
  have hown : s.vm.findClass RX7 = some m.cls := hown
  have hl : lv_has ls 7 [(0, .ref h_p1), (1, .int p2), (2, .int p3)] := hl
  unfold f_X7_directionOfFlow at hf
  refine lv_aload_n hx hb dX7_directionOfFlow_0 rfl (lv_at hl 0 rfl) ?_
  refine lv_iload_n hx hb dX7_directionOfFlow_1 rfl (lv_at hl 1 rfl) ?_
  refine lv_iload_n hx hb dX7_directionOfFlow_2 rfl (lv_at hl 2 rfl) ?_
  obtain ⟨r1, hg2, hf⟩ := bd1_some hf
  refine CM_callS (As := [.ref h_p1, .int p2, .int p3]) (rest := []) (wc := [(h_p1, .inl (cI, n_p1, .inl p1))]) (w1 := [(h_p1, .inl (cI, n_p1, .inl p1))]) (wr := []) (wo := [(h_p1, .inl (cI, n_p1, .inl p1))]) (v := (some (.int r1))) ⟨hx, hb, hml, hown, hts⟩ (c_X7_surfaceAt l dC dI cI cZ te h_p1 n_p1 p1 p2 p3 r1 hg2) (va_cwS 3 hts (gS kw_580 kw_581 kw_81 kw_582) rfl rfl rfl (by decide +kernel) ⟨Nat.le_of_ble_eq_true rfl, Nat.le_of_ble_eq_true rfl⟩) (kS_env te) hK hP hD hS hA hE [0] [] [0] rfl rfl (by decide) (by decide) (by decide) (by decide) rfl rfl hl.1 rfl (Nat.le_of_ble_eq_true rfl) dX7_directionOfFlow_3 ⟨Nat.zero_le _, Nat.zero_le _⟩ (fun H locs hP hD hS => ?_)
  show W p l e rmX7_directionOfFlow s m args below meth c H locs 0 0 Q (F0 m 6 ls [.int r1])
  refine lv_istore_n (lv' := [(3, .int r1), (0, .ref h_p1), (1, .int p2), (2, .int p3)]) hx hb dX7_directionOfFlow_6 rfl hl (by decide) rfl (fun ls hl => ?_)
  refine lv_iconst (v := (-1 : Int32)) hx hb dX7_directionOfFlow_7 (by decide) ?_
  refine lv_istore (lv' := [(4, .int (-1 : Int32)), (3, .int r1), (0, .ref h_p1), (1, .int p2), (2, .int p3)]) hx hb dX7_directionOfFlow_8 hl (by decide) rfl (fun ls hl => ?_)
  refine lv_iconst (v := (0 : Int32)) hx hb dX7_directionOfFlow_10 (by decide) ?_
  refine lv_istore (lv' := [(5, .int (0 : Int32)), (4, .int (-1 : Int32)), (3, .int r1), (0, .ref h_p1), (1, .int p2), (2, .int p3)]) hx hb dX7_directionOfFlow_11 hl (by decide) rfl (fun ls hl => ?_)
  have L31 : ∀ (fu20 : Nat) (x16 : Int32) (x17 : Int32) (x18 : Int32) (x15 : Int32), f_X7_directionOfFlow_L1 p3 n_p1 p1 p2 fu20 x16 x17 x18 = some x15 → (∀ (H : Heap) (locs : List Loc), va_P (dC, dI) vwCl [(h_p1, .inl (cI, n_p1, .inl p1))] H → va_D A [(h_p1, .inl (cI, n_p1, .inl p1))] → va_S A s.heap H locs → ∀ ls : Array Slot, lv_has ls 7 [(4, .int x15)] → W p l e rmX7_directionOfFlow s m args below meth c H locs 0 0 Q (F0 m 63 ls [])) → ∀ (H : Heap) (locs : List Loc), va_P (dC, dI) vwCl [(h_p1, .inl (cI, n_p1, .inl p1))] H → va_D A [(h_p1, .inl (cI, n_p1, .inl p1))] → va_S A s.heap H locs → ∀ ls : Array Slot, lv_has ls 7 [(0, .ref h_p1), (1, .int p2), (2, .int p3), (3, .int x16), (4, .int x17), (5, .int x18)] → W p l e rmX7_directionOfFlow s m args below meth c H locs 0 0 Q (F0 m 13 ls []) := by
    intro fu20
    induction fu20 with
    | zero =>
      intro x16 x17 x18 x15 hf
      unfold f_X7_directionOfFlow_L1 at hf
      exact none_ne hf
    | succ fu20 ih19 =>
      intro x16 x17 x18 x15 hf hX21 H locs hP hD hS ls hl
      unfold f_X7_directionOfFlow_L1 at hf
      refine lv_iload hx hb dX7_directionOfFlow_13 (lv_at hl 5 rfl) ?_
      refine lv_bipush (v := (8 : Int32)) hx hb dX7_directionOfFlow_15 (by decide) ?_
      refine lv_icmp_ge (tgt := 63) hx hb dX7_directionOfFlow_17 (by decide) (fun c22 => ?_) (fun c22 => ?_)
      · replace hf := ifp c22 hf
        obtain rfl := inj1 hf
        exact hX21 _ _ hP hD hS _ (lv_sub hl [4] rfl)
      · replace hf := ifn c22 hf
        refine lv_iload_n hx hb dX7_directionOfFlow_20 rfl (lv_at hl 2 rfl) ?_
        refine lv_iload hx hb dX7_directionOfFlow_21 (lv_at hl 5 rfl) ?_
        obtain ⟨r23, hg24, hf⟩ := bd1_some hf
        refine CM_callS (As := [.int p3, .int x18]) (rest := []) (wc := []) (w1 := []) (wr := [(h_p1, .inl (cI, n_p1, .inl p1))]) (wo := [(h_p1, .inl (cI, n_p1, .inl p1))]) (v := (some (.int r23))) ⟨hx, hb, hml, hown, hts⟩ (c_X7_placeBeside l dC dI cI cZ te p3 x18 r23 hg24) (va_cwS 2 hts (gS kw_583 kw_584 kw_81 kw_585) rfl rfl rfl (by decide +kernel) ⟨Nat.le_of_ble_eq_true rfl, Nat.le_of_ble_eq_true rfl⟩) (kS_env te) hK hP hD hS hA hE [] [0] [0] rfl rfl (by decide) (by decide) (by decide) (by decide) rfl rfl hl.1 rfl (Nat.le_of_ble_eq_true rfl) dX7_directionOfFlow_23 ⟨Nat.zero_le _, Nat.zero_le _⟩ (fun H locs hP hD hS => ?_)
        show W p l e rmX7_directionOfFlow s m args below meth c H locs 0 0 Q (F0 m 26 ls [.int r23])
        refine lv_istore (lv' := [(6, .int r23), (0, .ref h_p1), (1, .int p2), (2, .int p3), (3, .int x16), (4, .int x17), (5, .int x18)]) hx hb dX7_directionOfFlow_26 hl (by decide) rfl (fun ls hl => ?_)
        refine lv_iload hx hb dX7_directionOfFlow_28 (lv_at hl 0 rfl) ?_
        refine lv_iconst (v := (-1 : Int32)) hx hb dX7_directionOfFlow_30 (by decide) ?_
        refine lv_icmp_eq (tgt := 57) hx hb dX7_directionOfFlow_31 (by decide) (fun c25 => ?_) (fun c25 => ?_)
        · replace hf := ifp c25 hf
          refine lv_iinc (v := (x18 + (1 : Int32))) (lv' := [(5, .int (x18 + (1 : Int32))), (6, .int r23), (0, .ref h_p1), (1, .int p2), (2, .int p3), (3, .int x16), (4, .int x17)]) hx hb dX7_directionOfFlow_57 hl (k := 6) rfl rfl (by decide) rfl (fun ls hl => ?_)
          refine lv_goto (tgt := 13) hx hb dX7_directionOfFlow_60 (by decide) ?_
          exact ih19 _ _ _ _ hf hX21 _ _ hP hD hS _ (lv_sub hl [2, 3, 4, 5, 6, 0] rfl)
        · replace hf := ifn c25 hf
          refine lv_aload_n hx hb dX7_directionOfFlow_34 rfl (lv_at hl 1 rfl) ?_
          refine lv_iload_n hx hb dX7_directionOfFlow_35 rfl (lv_at hl 2 rfl) ?_
          refine lv_iload hx hb dX7_directionOfFlow_36 (lv_at hl 0 rfl) ?_
          obtain ⟨r26, hg27, hf⟩ := bd1_some hf
          refine CM_callS (As := [.ref h_p1, .int p2, .int r23]) (rest := []) (wc := [(h_p1, .inl (cI, n_p1, .inl p1))]) (w1 := [(h_p1, .inl (cI, n_p1, .inl p1))]) (wr := []) (wo := [(h_p1, .inl (cI, n_p1, .inl p1))]) (v := (some (.int r26))) ⟨hx, hb, hml, hown, hts⟩ (c_X7_surfaceAt l dC dI cI cZ te h_p1 n_p1 p1 p2 r23 r26 hg27) (va_cwS 3 hts (gS kw_580 kw_581 kw_81 kw_582) rfl rfl rfl (by decide +kernel) ⟨Nat.le_of_ble_eq_true rfl, Nat.le_of_ble_eq_true rfl⟩) (kS_env te) hK hP hD hS hA hE [0] [] [0] rfl rfl (by decide) (by decide) (by decide) (by decide) rfl rfl hl.1 rfl (Nat.le_of_ble_eq_true rfl) dX7_directionOfFlow_38 ⟨Nat.zero_le _, Nat.zero_le _⟩ (fun H locs hP hD hS => ?_)
          show W p l e rmX7_directionOfFlow s m args below meth c H locs 0 0 Q (F0 m 41 ls [.int r26])
          refine lv_iload_n hx hb dX7_directionOfFlow_41 rfl (lv_at hl 4 rfl) ?_
          refine lv_icmp_ge (tgt := 57) hx hb dX7_directionOfFlow_42 (by decide) (fun c28 => ?_) (fun c28 => ?_)
          · replace hf := ifp c28 hf
            refine lv_iinc (v := (x18 + (1 : Int32))) (lv' := [(5, .int (x18 + (1 : Int32))), (6, .int r23), (0, .ref h_p1), (1, .int p2), (2, .int p3), (3, .int x16), (4, .int x17)]) hx hb dX7_directionOfFlow_57 hl (k := 6) rfl rfl (by decide) rfl (fun ls hl => ?_)
            refine lv_goto (tgt := 13) hx hb dX7_directionOfFlow_60 (by decide) ?_
            exact ih19 _ _ _ _ hf hX21 _ _ hP hD hS _ (lv_sub hl [2, 3, 4, 5, 6, 0] rfl)
          · replace hf := ifn c28 hf
            refine lv_aload_n hx hb dX7_directionOfFlow_45 rfl (lv_at hl 1 rfl) ?_
            refine lv_iload_n hx hb dX7_directionOfFlow_46 rfl (lv_at hl 2 rfl) ?_
            refine lv_iload hx hb dX7_directionOfFlow_47 (lv_at hl 0 rfl) ?_
            obtain ⟨r29, hg30, hf⟩ := bd1_some hf
            refine CM_callS (As := [.ref h_p1, .int p2, .int r23]) (rest := []) (wc := [(h_p1, .inl (cI, n_p1, .inl p1))]) (w1 := [(h_p1, .inl (cI, n_p1, .inl p1))]) (wr := []) (wo := [(h_p1, .inl (cI, n_p1, .inl p1))]) (v := (some (.int r29))) ⟨hx, hb, hml, hown, hts⟩ (c_X7_surfaceAt l dC dI cI cZ te h_p1 n_p1 p1 p2 r23 r29 hg30) (va_cwS 3 hts (gS kw_580 kw_581 kw_81 kw_582) rfl rfl rfl (by decide +kernel) ⟨Nat.le_of_ble_eq_true rfl, Nat.le_of_ble_eq_true rfl⟩) (kS_env te) hK hP hD hS hA hE [0] [] [0] rfl rfl (by decide) (by decide) (by decide) (by decide) rfl rfl hl.1 rfl (Nat.le_of_ble_eq_true rfl) dX7_directionOfFlow_49 ⟨Nat.zero_le _, Nat.zero_le _⟩ (fun H locs hP hD hS => ?_)
            show W p l e rmX7_directionOfFlow s m args below meth c H locs 0 0 Q (F0 m 52 ls [.int r29])
            refine lv_istore_n (lv' := [(3, .int r29), (6, .int r23), (0, .ref h_p1), (1, .int p2), (2, .int p3), (4, .int x17), (5, .int x18)]) hx hb dX7_directionOfFlow_52 rfl hl (by decide) rfl (fun ls hl => ?_)
            refine lv_iload hx hb dX7_directionOfFlow_53 (lv_at hl 6 rfl) ?_
            refine lv_istore (lv' := [(4, .int x18), (3, .int r29), (6, .int r23), (0, .ref h_p1), (1, .int p2), (2, .int p3), (5, .int x18)]) hx hb dX7_directionOfFlow_55 hl (by decide) rfl (fun ls hl => ?_)
            refine lv_iinc (v := (x18 + (1 : Int32))) (lv' := [(5, .int (x18 + (1 : Int32))), (4, .int x18), (3, .int r29), (6, .int r23), (0, .ref h_p1), (1, .int p2), (2, .int p3)]) hx hb dX7_directionOfFlow_57 hl (k := 6) rfl rfl (by decide) rfl (fun ls hl => ?_)
            refine lv_goto (tgt := 13) hx hb dX7_directionOfFlow_60 (by decide) ?_
            exact ih19 _ _ _ _ hf hX21 _ _ hP hD hS _ (lv_sub hl [4, 5, 6, 2, 1, 0] rfl)
  obtain ⟨x15, hg, hf⟩ := bd1_some hf
  refine L31 FU _ _ _ _ hg ?_ _ _ hP hD hS _ (lv_sub hl [3, 4, 5, 2, 1, 0] rfl)
  · intro H locs hP hD hS ls hl
    refine lv_iload hx hb dX7_directionOfFlow_63 (lv_at hl 0 rfl) ?_
    obtain rfl := inj1 hf
    subst hQ
    exact CM_iret hx hb hr rfl hlocks hAe hP hD hS dX7_directionOfFlow_65
def rmX5_turnBetween : Room := { frames := 1, cells := 0, slots := 0, locals := 22 }
abbrev wqX5_turnBetween : List Cond := Cond.code yX5_turnBetween cX5_turnBetween 3 (some .int) :: tG
set_option maxHeartbeats 4000000 in
set_option maxRecDepth 100000 in
theorem c_X5_turnBetween (l : Launch) (dC : Nat → ClassId) (dI : Nat → Nat → Nat) (cI cZ : ClassId) (te : Nat → Nat) (p1 : Int32) (p2 : Int32) (o0 : Int32) (hf : f_X5_turnBetween p1 p2 = some o0) : CM l yX5_turnBetween wqX5_turnBetween rmX5_turnBetween (kS te) dC dI cI cZ [.int p1, .int p2] [] [] (some (.int o0)) := by
  refine CM_of (cc := cX5_turnBetween) (maxL := 3) (ret := (some .int)) (by decide +kernel) rfl (Nat.le_of_ble_eq_true rfl) ?_
  intro p e s m args below meth c A Q hx hb hr hml hown hts hlocks hA hK hP hD hS hE hQ hAe ls hl
  have hown : s.vm.findClass RX5 = some m.cls := hown
  have hl : lv_has ls 3 [(0, .int p1), (1, .int p2)] := hl
  unfold f_X5_turnBetween at hf
  refine lv_iload_n hx hb dX5_turnBetween_0 rfl (lv_at hl 0 rfl) ?_
  refine lv_iload_n hx hb dX5_turnBetween_1 rfl (lv_at hl 1 rfl) ?_
  refine lv_isub hx hb dX5_turnBetween_2 ?_
  refine lv_bipush (v := (16 : Int32)) hx hb dX5_turnBetween_3 (by decide) ?_
  obtain ⟨r1, hg2, hf⟩ := bd1_some hf
  refine CM_callS (As := [.int (p1 - p2), .int (16 : Int32)]) (rest := []) (wc := []) (w1 := []) (wr := []) (wo := []) (v := (some (.int r1))) ⟨hx, hb, hml, hown, hts⟩ (c_J9_floorMod_7cf53 l dC dI cI cZ te (p1 - p2) (16 : Int32) r1 hg2) (va_cwS 2 hts (gS kw_586 kw_587 kw_588 kw_589) rfl rfl rfl (by decide +kernel) ⟨Nat.le_of_ble_eq_true rfl, Nat.le_of_ble_eq_true rfl⟩) (kS_env te) hK hP hD hS hA hE [] [] [] rfl rfl (by decide) (by decide) (by decide) (by decide) rfl rfl hl.1 rfl (Nat.le_of_ble_eq_true rfl) dX5_turnBetween_5 ⟨Nat.zero_le _, Nat.zero_le _⟩ (fun H locs hP hD hS => ?_)
  show W p l e rmX5_turnBetween s m args below meth c H locs 0 0 Q (F0 m 8 ls [.int r1])
  refine lv_istore_n (lv' := [(2, .int r1), (0, .int p1), (1, .int p2)]) hx hb dX5_turnBetween_8 rfl hl (by decide) rfl (fun ls hl => ?_)
  refine lv_iload_n hx hb dX5_turnBetween_9 rfl (lv_at hl 0 rfl) ?_
  refine lv_bipush (v := (16 : Int32)) hx hb dX5_turnBetween_10 (by decide) ?_
  refine lv_iload_n hx hb dX5_turnBetween_12 rfl (lv_at hl 0 rfl) ?_
  refine lv_isub hx hb dX5_turnBetween_13 ?_
  refine va_mmin hx hb (hml.trans hl.1.symm) hown (hts _ (List.mem_cons_of_mem _ kw_590)) (hts _ (List.mem_cons_of_mem _ kw_4)) (hts _ (List.mem_cons_of_mem _ kw_5)) (hts _ (List.mem_cons_of_mem _ kw_6)) (Nat.le_of_ble_eq_true rfl) (Nat.le_of_ble_eq_true rfl) (Nat.zero_le _) (Nat.zero_le _) dX5_turnBetween_14 ?_
  obtain rfl := inj1 hf
  subst hQ
  exact CM_iret hx hb hr rfl hlocks hAe hP hD hS dX5_turnBetween_17
def rmX5_stagesOf : Room := { frames := 2, cells := 0, slots := 0, locals := 50 }
abbrev wqX5_stagesOf : List Cond := Cond.code yX5_stagesOf cX5_stagesOf 7 (some .int) :: tG
set_option maxHeartbeats 4000000 in
set_option maxRecDepth 100000 in
theorem c_X5_stagesOf (l : Launch) (dC : Nat → ClassId) (dI : Nat → Nat → Nat) (cI cZ : ClassId) (te : Nat → Nat) (h_p1 : Nat) (h_p1_surfaces : Nat) (h_p1_cliffs : Nat) (h_p1_boulders : Nat) (h_p1_scratches : Nat) (h_p1_numbers : Nat) (h_p1_facts : Nat) (h_p1_signs : Nat) (h_p1_areas : Nat) (h_p1_heights : Nat) (h_p1_scratches_cells : Nat) (p1_ridges : Int32) (p1_scratches_limit : Int32) (p1_scratches_size : Int32) (n_p1_scratches_cells : Nat) (p1_scratches_cells : Nat → Int32) (p1_surfaces : Nat → Int32) (p1_numbers : Nat → Int32) (p2 : Int32) (o0 : Int32) (hf : f_X5_stagesOf p1_scratches_size n_p1_scratches_cells p1_scratches_cells p1_surfaces p1_numbers p2 = some o0) : CM l yX5_stagesOf wqX5_stagesOf rmX5_stagesOf (kS te) dC dI cI cZ [.ref h_p1, .int p2] [(h_p1, .inr (1, fX1 h_p1_surfaces h_p1_cliffs h_p1_boulders h_p1_scratches h_p1_numbers h_p1_facts h_p1_signs h_p1_areas h_p1_heights p1_ridges)), (h_p1_scratches, .inr (4, fX4 p1_scratches_limit h_p1_scratches_cells p1_scratches_size)), (h_p1_scratches_cells, .inl (cI, n_p1_scratches_cells, .inl p1_scratches_cells)), (h_p1_surfaces, .inl (cI, 192, .inl p1_surfaces)), (h_p1_numbers, .inl (cI, 6, .inl p1_numbers))] [(h_p1, .inr (1, fX1 h_p1_surfaces h_p1_cliffs h_p1_boulders h_p1_scratches h_p1_numbers h_p1_facts h_p1_signs h_p1_areas h_p1_heights p1_ridges)), (h_p1_scratches, .inr (4, fX4 p1_scratches_limit h_p1_scratches_cells p1_scratches_size)), (h_p1_scratches_cells, .inl (cI, n_p1_scratches_cells, .inl p1_scratches_cells)), (h_p1_surfaces, .inl (cI, 192, .inl p1_surfaces)), (h_p1_numbers, .inl (cI, 6, .inl p1_numbers))] (some (.int o0)) := by
  refine CM_of (cc := cX5_stagesOf) (maxL := 7) (ret := (some .int)) (by decide +kernel) rfl (Nat.le_of_ble_eq_true rfl) ?_
  intro p e s m args below meth c A Q hx hb hr hml hown hts hlocks hA hK hP hD hS hE hQ hAe ls hl
  have hown : s.vm.findClass RX5 = some m.cls := hown
  have hl : lv_has ls 7 [(0, .ref h_p1), (1, .int p2)] := hl
  unfold f_X5_stagesOf at hf
  refine lv_aload_n hx hb dX5_stagesOf_0 rfl (lv_at hl 0 rfl) ?_
  refine va_get (D := (dC, dI)) (ci := 1) (v := .ref h_p1_scratches) (C := RX1) (T := TX1) (N := 10) hx hb hts (in1 tw_X1) hown hK hP 0 rfl rfl 3 (by decide) (hts _ (List.mem_cons_of_mem _ kw_591)) (fun _ h9 => h9) rfl dX5_stagesOf_1 ?_
  refine lv_iload_n hx hb dX5_stagesOf_4 rfl (lv_at hl 1 rfl) ?_
  refine lv_iconst (v := (0 : Int32)) hx hb dX5_stagesOf_5 (by decide) ?_
  obtain ⟨r1, hg2, hf⟩ := bd1_some hf
  refine CM_callV (C := RX4) (As := [.int p2, .int (0 : Int32)]) (rest := []) (wc := [(h_p1_scratches, .inr (4, fX4 p1_scratches_limit h_p1_scratches_cells p1_scratches_size)), (h_p1_scratches_cells, .inl (cI, n_p1_scratches_cells, .inl p1_scratches_cells))]) (w1 := [(h_p1_scratches, .inr (4, fX4 p1_scratches_limit h_p1_scratches_cells p1_scratches_size)), (h_p1_scratches_cells, .inl (cI, n_p1_scratches_cells, .inl p1_scratches_cells))]) (wr := [(h_p1, .inr (1, fX1 h_p1_surfaces h_p1_cliffs h_p1_boulders h_p1_scratches h_p1_numbers h_p1_facts h_p1_signs h_p1_areas h_p1_heights p1_ridges)), (h_p1_surfaces, .inl (cI, 192, .inl p1_surfaces)), (h_p1_numbers, .inl (cI, 6, .inl p1_numbers))]) (wo := [(h_p1, .inr (1, fX1 h_p1_surfaces h_p1_cliffs h_p1_boulders h_p1_scratches h_p1_numbers h_p1_facts h_p1_signs h_p1_areas h_p1_heights p1_ridges)), (h_p1_scratches, .inr (4, fX4 p1_scratches_limit h_p1_scratches_cells p1_scratches_size)), (h_p1_scratches_cells, .inl (cI, n_p1_scratches_cells, .inl p1_scratches_cells)), (h_p1_surfaces, .inl (cI, 192, .inl p1_surfaces)), (h_p1_numbers, .inl (cI, 6, .inl p1_numbers))]) (v := (some (.int r1))) ⟨hx, hb, hml, hown, hts⟩ (c_X4_cell l dC dI cI cZ te h_p1_scratches h_p1_scratches_cells p1_scratches_limit p1_scratches_size n_p1_scratches_cells p1_scratches_cells p2 (0 : Int32) r1 hg2) (cwV 2 hts (gV kw_592 kw_414 kw_415 kw_19 kw_416) rfl rfl rfl (by decide +kernel) ⟨Nat.le_of_ble_eq_true rfl, Nat.le_of_ble_eq_true rfl⟩) (kS_env te) hK hP hD hS hA hE [1, 2] [0, 3, 4] [0, 3, 4, 1, 2] rfl rfl (by decide) (by decide) (by decide) (by decide) rfl 1 4 rfl rfl rfl rfl hl.1 rfl (Nat.le_of_ble_eq_true rfl) dX5_stagesOf_6 ⟨Nat.zero_le _, Nat.zero_le _⟩ (fun H locs hP hD hS => ?_)
  show W p l e rmX5_stagesOf s m args below meth c H locs 0 0 Q (F0 m 9 ls [.int r1])
  refine lv_istore_n (lv' := [(2, .int r1), (0, .ref h_p1), (1, .int p2)]) hx hb dX5_stagesOf_9 rfl hl (by decide) rfl (fun ls hl => ?_)
  refine lv_aload_n hx hb dX5_stagesOf_10 rfl (lv_at hl 1 rfl) ?_
  refine va_get (D := (dC, dI)) (ci := 1) (v := .ref h_p1_scratches) (C := RX1) (T := TX1) (N := 10) hx hb hts (in1 tw_X1) hown hK hP 0 rfl rfl 3 (by decide) (hts _ (List.mem_cons_of_mem _ kw_591)) (fun _ h9 => h9) rfl dX5_stagesOf_11 ?_
  refine lv_iload_n hx hb dX5_stagesOf_14 rfl (lv_at hl 2 rfl) ?_
  refine lv_iconst (v := (1 : Int32)) hx hb dX5_stagesOf_15 (by decide) ?_
  obtain ⟨r3, hg4, hf⟩ := bd1_some hf
  refine CM_callV (C := RX4) (As := [.int p2, .int (1 : Int32)]) (rest := []) (wc := [(h_p1_scratches, .inr (4, fX4 p1_scratches_limit h_p1_scratches_cells p1_scratches_size)), (h_p1_scratches_cells, .inl (cI, n_p1_scratches_cells, .inl p1_scratches_cells))]) (w1 := [(h_p1_scratches, .inr (4, fX4 p1_scratches_limit h_p1_scratches_cells p1_scratches_size)), (h_p1_scratches_cells, .inl (cI, n_p1_scratches_cells, .inl p1_scratches_cells))]) (wr := [(h_p1, .inr (1, fX1 h_p1_surfaces h_p1_cliffs h_p1_boulders h_p1_scratches h_p1_numbers h_p1_facts h_p1_signs h_p1_areas h_p1_heights p1_ridges)), (h_p1_surfaces, .inl (cI, 192, .inl p1_surfaces)), (h_p1_numbers, .inl (cI, 6, .inl p1_numbers))]) (wo := [(h_p1, .inr (1, fX1 h_p1_surfaces h_p1_cliffs h_p1_boulders h_p1_scratches h_p1_numbers h_p1_facts h_p1_signs h_p1_areas h_p1_heights p1_ridges)), (h_p1_scratches, .inr (4, fX4 p1_scratches_limit h_p1_scratches_cells p1_scratches_size)), (h_p1_scratches_cells, .inl (cI, n_p1_scratches_cells, .inl p1_scratches_cells)), (h_p1_surfaces, .inl (cI, 192, .inl p1_surfaces)), (h_p1_numbers, .inl (cI, 6, .inl p1_numbers))]) (v := (some (.int r3))) ⟨hx, hb, hml, hown, hts⟩ (c_X4_cell l dC dI cI cZ te h_p1_scratches h_p1_scratches_cells p1_scratches_limit p1_scratches_size n_p1_scratches_cells p1_scratches_cells p2 (1 : Int32) r3 hg4) (cwV 2 hts (gV kw_592 kw_414 kw_415 kw_19 kw_416) rfl rfl rfl (by decide +kernel) ⟨Nat.le_of_ble_eq_true rfl, Nat.le_of_ble_eq_true rfl⟩) (kS_env te) hK hP hD hS hA hE [1, 2] [0, 3, 4] [0, 3, 4, 1, 2] rfl rfl (by decide) (by decide) (by decide) (by decide) rfl 1 4 rfl rfl rfl rfl hl.1 rfl (Nat.le_of_ble_eq_true rfl) dX5_stagesOf_16 ⟨Nat.zero_le _, Nat.zero_le _⟩ (fun H locs hP hD hS => ?_)
  show W p l e rmX5_stagesOf s m args below meth c H locs 0 0 Q (F0 m 19 ls [.int r3])
  refine lv_istore_n (lv' := [(3, .int r3), (2, .int r1), (0, .ref h_p1), (1, .int p2)]) hx hb dX5_stagesOf_19 rfl hl (by decide) rfl (fun ls hl => ?_)
  refine lv_iconst (v := (0 : Int32)) hx hb dX5_stagesOf_20 (by decide) ?_
  refine lv_istore (lv' := [(4, .int (0 : Int32)), (3, .int r3), (2, .int r1), (0, .ref h_p1), (1, .int p2)]) hx hb dX5_stagesOf_21 hl (by decide) rfl (fun ls hl => ?_)
  refine lv_iconst (v := (0 : Int32)) hx hb dX5_stagesOf_23 (by decide) ?_
  refine lv_istore (lv' := [(5, .int (0 : Int32)), (4, .int (0 : Int32)), (3, .int r3), (2, .int r1), (0, .ref h_p1), (1, .int p2)]) hx hb dX5_stagesOf_24 hl (by decide) rfl (fun ls hl => ?_)
  have L33 : ∀ (fu21 : Nat) (x18 : Int32) (x19 : Int32) (x17 : Int32), f_X5_stagesOf_L1 p1_surfaces r1 r3 p1_numbers fu21 x18 x19 = some x17 → (∀ (H : Heap) (locs : List Loc), va_P (dC, dI) vwCl [(h_p1, .inr (1, fX1 h_p1_surfaces h_p1_cliffs h_p1_boulders h_p1_scratches h_p1_numbers h_p1_facts h_p1_signs h_p1_areas h_p1_heights p1_ridges)), (h_p1_scratches, .inr (4, fX4 p1_scratches_limit h_p1_scratches_cells p1_scratches_size)), (h_p1_scratches_cells, .inl (cI, n_p1_scratches_cells, .inl p1_scratches_cells)), (h_p1_surfaces, .inl (cI, 192, .inl p1_surfaces)), (h_p1_numbers, .inl (cI, 6, .inl p1_numbers))] H → va_D A [(h_p1, .inr (1, fX1 h_p1_surfaces h_p1_cliffs h_p1_boulders h_p1_scratches h_p1_numbers h_p1_facts h_p1_signs h_p1_areas h_p1_heights p1_ridges)), (h_p1_scratches, .inr (4, fX4 p1_scratches_limit h_p1_scratches_cells p1_scratches_size)), (h_p1_scratches_cells, .inl (cI, n_p1_scratches_cells, .inl p1_scratches_cells)), (h_p1_surfaces, .inl (cI, 192, .inl p1_surfaces)), (h_p1_numbers, .inl (cI, 6, .inl p1_numbers))] → va_S A s.heap H locs → ∀ ls : Array Slot, lv_has ls 7 [(4, .int x17)] → W p l e rmX5_stagesOf s m args below meth c H locs 0 0 Q (F0 m 82 ls [])) → ∀ (H : Heap) (locs : List Loc), va_P (dC, dI) vwCl [(h_p1, .inr (1, fX1 h_p1_surfaces h_p1_cliffs h_p1_boulders h_p1_scratches h_p1_numbers h_p1_facts h_p1_signs h_p1_areas h_p1_heights p1_ridges)), (h_p1_scratches, .inr (4, fX4 p1_scratches_limit h_p1_scratches_cells p1_scratches_size)), (h_p1_scratches_cells, .inl (cI, n_p1_scratches_cells, .inl p1_scratches_cells)), (h_p1_surfaces, .inl (cI, 192, .inl p1_surfaces)), (h_p1_numbers, .inl (cI, 6, .inl p1_numbers))] H → va_D A [(h_p1, .inr (1, fX1 h_p1_surfaces h_p1_cliffs h_p1_boulders h_p1_scratches h_p1_numbers h_p1_facts h_p1_signs h_p1_areas h_p1_heights p1_ridges)), (h_p1_scratches, .inr (4, fX4 p1_scratches_limit h_p1_scratches_cells p1_scratches_size)), (h_p1_scratches_cells, .inl (cI, n_p1_scratches_cells, .inl p1_scratches_cells)), (h_p1_surfaces, .inl (cI, 192, .inl p1_surfaces)), (h_p1_numbers, .inl (cI, 6, .inl p1_numbers))] → va_S A s.heap H locs → ∀ ls : Array Slot, lv_has ls 7 [(0, .ref h_p1), (2, .int r1), (3, .int r3), (4, .int x18), (5, .int x19)] → W p l e rmX5_stagesOf s m args below meth c H locs 0 0 Q (F0 m 26 ls []) := by
    intro fu21
    induction fu21 with
    | zero =>
      intro x18 x19 x17 hf
      unfold f_X5_stagesOf_L1 at hf
      exact none_ne hf
    | succ fu21 ih20 =>
      intro x18 x19 x17 hf hX22 H locs hP hD hS ls hl
      unfold f_X5_stagesOf_L1 at hf
      refine lv_iload hx hb dX5_stagesOf_26 (lv_at hl 4 rfl) ?_
      refine lv_iconst (v := (3 : Int32)) hx hb dX5_stagesOf_28 (by decide) ?_
      refine lv_icmp_ge (tgt := 82) hx hb dX5_stagesOf_29 (by decide) (fun c23 => ?_) (fun c23 => ?_)
      · replace hf := ifp c23 hf
        obtain rfl := inj1 hf
        exact hX22 _ _ hP hD hS _ (lv_sub hl [3] rfl)
      · replace hf := ifn c23 hf
        refine lv_aload_n hx hb dX5_stagesOf_32 rfl (lv_at hl 0 rfl) ?_
        refine va_get (D := (dC, dI)) (ci := 1) (v := .ref h_p1_surfaces) (C := RX1) (T := TX1) (N := 10) hx hb hts (in1 tw_X1) hown hK hP 0 rfl rfl 0 (by decide) (hts _ (List.mem_cons_of_mem _ kw_593)) (fun _ h9 => h9) rfl dX5_stagesOf_33 ?_
        refine lv_iload hx hb dX5_stagesOf_36 (lv_at hl 4 rfl) ?_
        refine lv_iload_n hx hb dX5_stagesOf_38 rfl (lv_at hl 1 rfl) ?_
        obtain ⟨r24, hg25, hf⟩ := bd1_some hf
        refine CM_callS (As := [.ref h_p1_surfaces, .int x19, .int r1]) (rest := []) (wc := [(h_p1_surfaces, .inl (cI, 192, .inl p1_surfaces))]) (w1 := [(h_p1_surfaces, .inl (cI, 192, .inl p1_surfaces))]) (wr := [(h_p1, .inr (1, fX1 h_p1_surfaces h_p1_cliffs h_p1_boulders h_p1_scratches h_p1_numbers h_p1_facts h_p1_signs h_p1_areas h_p1_heights p1_ridges)), (h_p1_scratches, .inr (4, fX4 p1_scratches_limit h_p1_scratches_cells p1_scratches_size)), (h_p1_scratches_cells, .inl (cI, n_p1_scratches_cells, .inl p1_scratches_cells)), (h_p1_numbers, .inl (cI, 6, .inl p1_numbers))]) (wo := [(h_p1, .inr (1, fX1 h_p1_surfaces h_p1_cliffs h_p1_boulders h_p1_scratches h_p1_numbers h_p1_facts h_p1_signs h_p1_areas h_p1_heights p1_ridges)), (h_p1_scratches, .inr (4, fX4 p1_scratches_limit h_p1_scratches_cells p1_scratches_size)), (h_p1_scratches_cells, .inl (cI, n_p1_scratches_cells, .inl p1_scratches_cells)), (h_p1_surfaces, .inl (cI, 192, .inl p1_surfaces)), (h_p1_numbers, .inl (cI, 6, .inl p1_numbers))]) (v := (some (.int r24))) ⟨hx, hb, hml, hown, hts⟩ (c_X7_directionOfFlow l dC dI cI cZ te h_p1_surfaces (192) p1_surfaces x19 r1 r24 hg25) (va_cwS 3 hts (gS kw_594 kw_595 kw_81 kw_596) rfl rfl rfl (by decide +kernel) ⟨Nat.le_of_ble_eq_true rfl, Nat.le_of_ble_eq_true rfl⟩) (kS_env te) hK hP hD hS hA hE [3] [0, 1, 2, 4] [0, 1, 2, 4, 3] rfl rfl (by decide) (by decide) (by decide) (by decide) rfl rfl hl.1 rfl (Nat.le_of_ble_eq_true rfl) dX5_stagesOf_39 ⟨Nat.zero_le _, Nat.zero_le _⟩ (fun H locs hP hD hS => ?_)
        show W p l e rmX5_stagesOf s m args below meth c H locs 0 0 Q (F0 m 42 ls [.int r24])
        refine lv_istore (lv' := [(6, .int r24), (0, .ref h_p1), (2, .int r1), (3, .int r3), (4, .int x18), (5, .int x19)]) hx hb dX5_stagesOf_42 hl (by decide) rfl (fun ls hl => ?_)
        refine lv_iload hx hb dX5_stagesOf_44 (lv_at hl 0 rfl) ?_
        refine lv_iconst (v := (-1 : Int32)) hx hb dX5_stagesOf_46 (by decide) ?_
        refine lv_icmp_eq (tgt := 76) hx hb dX5_stagesOf_47 (by decide) (fun c26 => ?_) (fun c26 => ?_)
        · replace hf := ifp c26 hf
          refine lv_iinc (v := (x19 + (1 : Int32))) (lv' := [(5, .int (x19 + (1 : Int32))), (6, .int r24), (0, .ref h_p1), (2, .int r1), (3, .int r3), (4, .int x18)]) hx hb dX5_stagesOf_76 hl (k := 5) rfl rfl (by decide) rfl (fun ls hl => ?_)
          refine lv_goto (tgt := 26) hx hb dX5_stagesOf_79 (by decide) ?_
          exact ih20 _ _ _ hf hX22 _ _ hP hD hS _ (lv_sub hl [2, 3, 4, 5, 0] rfl)
        · replace hf := ifn c26 hf
          refine lv_iconst (v := (2 : Int32)) hx hb dX5_stagesOf_50 (by decide) ?_
          refine lv_iload hx hb dX5_stagesOf_51 (lv_at hl 0 rfl) ?_
          refine lv_imul hx hb dX5_stagesOf_53 ?_
          refine lv_iload_n hx hb dX5_stagesOf_54 rfl (lv_at hl 3 rfl) ?_
          obtain ⟨r27, hg28, hf⟩ := bd1_some hf
          refine CM_callS (As := [.int ((2 : Int32) * r24), .int r3]) (rest := []) (wc := []) (w1 := []) (wr := [(h_p1, .inr (1, fX1 h_p1_surfaces h_p1_cliffs h_p1_boulders h_p1_scratches h_p1_numbers h_p1_facts h_p1_signs h_p1_areas h_p1_heights p1_ridges)), (h_p1_scratches, .inr (4, fX4 p1_scratches_limit h_p1_scratches_cells p1_scratches_size)), (h_p1_scratches_cells, .inl (cI, n_p1_scratches_cells, .inl p1_scratches_cells)), (h_p1_surfaces, .inl (cI, 192, .inl p1_surfaces)), (h_p1_numbers, .inl (cI, 6, .inl p1_numbers))]) (wo := [(h_p1, .inr (1, fX1 h_p1_surfaces h_p1_cliffs h_p1_boulders h_p1_scratches h_p1_numbers h_p1_facts h_p1_signs h_p1_areas h_p1_heights p1_ridges)), (h_p1_scratches, .inr (4, fX4 p1_scratches_limit h_p1_scratches_cells p1_scratches_size)), (h_p1_scratches_cells, .inl (cI, n_p1_scratches_cells, .inl p1_scratches_cells)), (h_p1_surfaces, .inl (cI, 192, .inl p1_surfaces)), (h_p1_numbers, .inl (cI, 6, .inl p1_numbers))]) (v := (some (.int r27))) ⟨hx, hb, hml, hown, hts⟩ (c_X5_turnBetween l dC dI cI cZ te ((2 : Int32) * r24) r3 r27 hg28) (va_cwS 2 hts (gS kw_597 kw_598 kw_599 kw_600) rfl rfl rfl (by decide +kernel) ⟨Nat.le_of_ble_eq_true rfl, Nat.le_of_ble_eq_true rfl⟩) (kS_env te) hK hP hD hS hA hE [] [0, 1, 2, 3, 4] [0, 1, 2, 3, 4] rfl rfl (by decide) (by decide) (by decide) (by decide) rfl rfl hl.1 rfl (Nat.le_of_ble_eq_true rfl) dX5_stagesOf_55 ⟨Nat.zero_le _, Nat.zero_le _⟩ (fun H locs hP hD hS => ?_)
          show W p l e rmX5_stagesOf s m args below meth c H locs 0 0 Q (F0 m 58 ls [.int r27])
          refine lv_aload_n hx hb dX5_stagesOf_58 rfl (lv_at hl 1 rfl) ?_
          refine va_get (D := (dC, dI)) (ci := 1) (v := .ref h_p1_numbers) (C := RX1) (T := TX1) (N := 10) hx hb hts (in1 tw_X1) hown hK hP 0 rfl rfl 4 (by decide) (hts _ (List.mem_cons_of_mem _ kw_601)) (fun _ h9 => h9) rfl dX5_stagesOf_59 ?_
          refine lv_iconst (v := (0 : Int32)) hx hb dX5_stagesOf_62 (by decide) ?_
          obtain ⟨g29, hf⟩ := chk_some hf
          refine va_iald hx hb hK hP 4 0 rfl rfl (gin_in g29) dX5_stagesOf_63 ?_
          refine lv_icmp_gt (tgt := 76) hx hb dX5_stagesOf_64 (by decide) (fun c30 => ?_) (fun c30 => ?_)
          · replace hf := ifp c30 hf
            refine lv_iinc (v := (x19 + (1 : Int32))) (lv' := [(5, .int (x19 + (1 : Int32))), (6, .int r24), (0, .ref h_p1), (2, .int r1), (3, .int r3), (4, .int x18)]) hx hb dX5_stagesOf_76 hl (k := 5) rfl rfl (by decide) rfl (fun ls hl => ?_)
            refine lv_goto (tgt := 26) hx hb dX5_stagesOf_79 (by decide) ?_
            exact ih20 _ _ _ hf hX22 _ _ hP hD hS _ (lv_sub hl [2, 3, 4, 5, 0] rfl)
          · replace hf := ifn c30 hf
            refine lv_iload hx hb dX5_stagesOf_67 (lv_at hl 4 rfl) ?_
            refine lv_iconst (v := (1 : Int32)) hx hb dX5_stagesOf_69 (by decide) ?_
            refine lv_iload hx hb dX5_stagesOf_70 (lv_at hl 5 rfl) ?_
            refine lv_ishl hx hb dX5_stagesOf_72 ?_
            refine lv_ior hx hb dX5_stagesOf_73 ?_
            obtain ⟨x31, e32, hf⟩ := nm_some hf
            refine lv_tope e32 ?_
            refine lv_istore (lv' := [(4, .int x31), (6, .int r24), (0, .ref h_p1), (2, .int r1), (3, .int r3), (5, .int x19)]) hx hb dX5_stagesOf_74 hl (by decide) rfl (fun ls hl => ?_)
            refine lv_iinc (v := (x19 + (1 : Int32))) (lv' := [(5, .int (x19 + (1 : Int32))), (4, .int x31), (6, .int r24), (0, .ref h_p1), (2, .int r1), (3, .int r3)]) hx hb dX5_stagesOf_76 hl (k := 5) rfl rfl (by decide) rfl (fun ls hl => ?_)
            refine lv_goto (tgt := 26) hx hb dX5_stagesOf_79 (by decide) ?_
            exact ih20 _ _ _ hf hX22 _ _ hP hD hS _ (lv_sub hl [3, 4, 5, 1, 0] rfl)
  obtain ⟨x17, hg, hf⟩ := bd1_some hf
  refine L33 FU _ _ _ hg ?_ _ _ hP hD hS _ (lv_sub hl [4, 3, 2, 1, 0] rfl)
  · intro H locs hP hD hS ls hl
    refine lv_iload hx hb dX5_stagesOf_82 (lv_at hl 0 rfl) ?_
    obtain rfl := inj1 hf
    subst hQ
    exact CM_iret hx hb hr rfl hlocks hAe hP hD hS dX5_stagesOf_84
def rmX5_areAtOnePlace : Room := { frames := 2, cells := 0, slots := 0, locals := 43 }
abbrev wqX5_areAtOnePlace : List Cond := Cond.code yX5_areAtOnePlace cX5_areAtOnePlace 3 (some .boolean) :: tG
set_option maxHeartbeats 4000000 in
set_option maxRecDepth 100000 in
theorem c_X5_areAtOnePlace (l : Launch) (dC : Nat → ClassId) (dI : Nat → Nat → Nat) (cI cZ : ClassId) (te : Nat → Nat) (h_p1 : Nat) (h_p1_surfaces : Nat) (h_p1_cliffs : Nat) (h_p1_boulders : Nat) (h_p1_scratches : Nat) (h_p1_numbers : Nat) (h_p1_facts : Nat) (h_p1_signs : Nat) (h_p1_areas : Nat) (h_p1_heights : Nat) (h_p1_scratches_cells : Nat) (p1_ridges : Int32) (p1_scratches_limit : Int32) (p1_scratches_size : Int32) (n_p1_scratches_cells : Nat) (p1_scratches_cells : Nat → Int32) (p2 : Int32) (p3 : Int32) (o0 : Int32) (hf : f_X5_areAtOnePlace p1_scratches_size n_p1_scratches_cells p1_scratches_cells p2 p3 = some o0) : CM l yX5_areAtOnePlace wqX5_areAtOnePlace rmX5_areAtOnePlace (kS te) dC dI cI cZ [.ref h_p1, .int p2, .int p3] [(h_p1, .inr (1, fX1 h_p1_surfaces h_p1_cliffs h_p1_boulders h_p1_scratches h_p1_numbers h_p1_facts h_p1_signs h_p1_areas h_p1_heights p1_ridges)), (h_p1_scratches, .inr (4, fX4 p1_scratches_limit h_p1_scratches_cells p1_scratches_size)), (h_p1_scratches_cells, .inl (cI, n_p1_scratches_cells, .inl p1_scratches_cells))] [(h_p1, .inr (1, fX1 h_p1_surfaces h_p1_cliffs h_p1_boulders h_p1_scratches h_p1_numbers h_p1_facts h_p1_signs h_p1_areas h_p1_heights p1_ridges)), (h_p1_scratches, .inr (4, fX4 p1_scratches_limit h_p1_scratches_cells p1_scratches_size)), (h_p1_scratches_cells, .inl (cI, n_p1_scratches_cells, .inl p1_scratches_cells))] (some (.int o0)) := by
  refine CM_of (cc := cX5_areAtOnePlace) (maxL := 3) (ret := (some .boolean)) (by decide +kernel) rfl (Nat.le_of_ble_eq_true rfl) ?_
  intro p e s m args below meth c A Q hx hb hr hml hown hts hlocks hA hK hP hD hS hE hQ hAe ls hl
  have hown : s.vm.findClass RX5 = some m.cls := hown
  have hl : lv_has ls 3 [(0, .ref h_p1), (1, .int p2), (2, .int p3)] := hl
  unfold f_X5_areAtOnePlace at hf
  refine lv_aload_n hx hb dX5_areAtOnePlace_0 rfl (lv_at hl 0 rfl) ?_
  refine va_get (D := (dC, dI)) (ci := 1) (v := .ref h_p1_scratches) (C := RX1) (T := TX1) (N := 10) hx hb hts (in1 tw_X1) hown hK hP 0 rfl rfl 3 (by decide) (hts _ (List.mem_cons_of_mem _ kw_591)) (fun _ h9 => h9) rfl dX5_areAtOnePlace_1 ?_
  refine lv_iload_n hx hb dX5_areAtOnePlace_4 rfl (lv_at hl 1 rfl) ?_
  refine lv_iconst (v := (0 : Int32)) hx hb dX5_areAtOnePlace_5 (by decide) ?_
  obtain ⟨r1, hg2, hf⟩ := bd1_some hf
  refine CM_callV (C := RX4) (As := [.int p2, .int (0 : Int32)]) (rest := []) (wc := [(h_p1_scratches, .inr (4, fX4 p1_scratches_limit h_p1_scratches_cells p1_scratches_size)), (h_p1_scratches_cells, .inl (cI, n_p1_scratches_cells, .inl p1_scratches_cells))]) (w1 := [(h_p1_scratches, .inr (4, fX4 p1_scratches_limit h_p1_scratches_cells p1_scratches_size)), (h_p1_scratches_cells, .inl (cI, n_p1_scratches_cells, .inl p1_scratches_cells))]) (wr := [(h_p1, .inr (1, fX1 h_p1_surfaces h_p1_cliffs h_p1_boulders h_p1_scratches h_p1_numbers h_p1_facts h_p1_signs h_p1_areas h_p1_heights p1_ridges))]) (wo := [(h_p1, .inr (1, fX1 h_p1_surfaces h_p1_cliffs h_p1_boulders h_p1_scratches h_p1_numbers h_p1_facts h_p1_signs h_p1_areas h_p1_heights p1_ridges)), (h_p1_scratches, .inr (4, fX4 p1_scratches_limit h_p1_scratches_cells p1_scratches_size)), (h_p1_scratches_cells, .inl (cI, n_p1_scratches_cells, .inl p1_scratches_cells))]) (v := (some (.int r1))) ⟨hx, hb, hml, hown, hts⟩ (c_X4_cell l dC dI cI cZ te h_p1_scratches h_p1_scratches_cells p1_scratches_limit p1_scratches_size n_p1_scratches_cells p1_scratches_cells p2 (0 : Int32) r1 hg2) (cwV 2 hts (gV kw_592 kw_414 kw_415 kw_19 kw_416) rfl rfl rfl (by decide +kernel) ⟨Nat.le_of_ble_eq_true rfl, Nat.le_of_ble_eq_true rfl⟩) (kS_env te) hK hP hD hS hA hE [1, 2] [0] [0, 1, 2] rfl rfl (by decide) (by decide) (by decide) (by decide) rfl 1 4 rfl rfl rfl rfl hl.1 rfl (Nat.le_of_ble_eq_true rfl) dX5_areAtOnePlace_6 ⟨Nat.zero_le _, Nat.zero_le _⟩ (fun H locs hP hD hS => ?_)
  show W p l e rmX5_areAtOnePlace s m args below meth c H locs 0 0 Q (F0 m 9 ls [.int r1])
  refine lv_aload_n hx hb dX5_areAtOnePlace_9 rfl (lv_at hl 0 rfl) ?_
  refine va_get (D := (dC, dI)) (ci := 1) (v := .ref h_p1_scratches) (C := RX1) (T := TX1) (N := 10) hx hb hts (in1 tw_X1) hown hK hP 0 rfl rfl 3 (by decide) (hts _ (List.mem_cons_of_mem _ kw_591)) (fun _ h9 => h9) rfl dX5_areAtOnePlace_10 ?_
  refine lv_iload_n hx hb dX5_areAtOnePlace_13 rfl (lv_at hl 2 rfl) ?_
  refine lv_iconst (v := (0 : Int32)) hx hb dX5_areAtOnePlace_14 (by decide) ?_
  obtain ⟨r3, hg4, hf⟩ := bd1_some hf
  refine CM_callV (C := RX4) (As := [.int p3, .int (0 : Int32)]) (rest := [.int r1]) (wc := [(h_p1_scratches, .inr (4, fX4 p1_scratches_limit h_p1_scratches_cells p1_scratches_size)), (h_p1_scratches_cells, .inl (cI, n_p1_scratches_cells, .inl p1_scratches_cells))]) (w1 := [(h_p1_scratches, .inr (4, fX4 p1_scratches_limit h_p1_scratches_cells p1_scratches_size)), (h_p1_scratches_cells, .inl (cI, n_p1_scratches_cells, .inl p1_scratches_cells))]) (wr := [(h_p1, .inr (1, fX1 h_p1_surfaces h_p1_cliffs h_p1_boulders h_p1_scratches h_p1_numbers h_p1_facts h_p1_signs h_p1_areas h_p1_heights p1_ridges))]) (wo := [(h_p1, .inr (1, fX1 h_p1_surfaces h_p1_cliffs h_p1_boulders h_p1_scratches h_p1_numbers h_p1_facts h_p1_signs h_p1_areas h_p1_heights p1_ridges)), (h_p1_scratches, .inr (4, fX4 p1_scratches_limit h_p1_scratches_cells p1_scratches_size)), (h_p1_scratches_cells, .inl (cI, n_p1_scratches_cells, .inl p1_scratches_cells))]) (v := (some (.int r3))) ⟨hx, hb, hml, hown, hts⟩ (c_X4_cell l dC dI cI cZ te h_p1_scratches h_p1_scratches_cells p1_scratches_limit p1_scratches_size n_p1_scratches_cells p1_scratches_cells p3 (0 : Int32) r3 hg4) (cwV 2 hts (gV kw_592 kw_414 kw_415 kw_19 kw_416) rfl rfl rfl (by decide +kernel) ⟨Nat.le_of_ble_eq_true rfl, Nat.le_of_ble_eq_true rfl⟩) (kS_env te) hK hP hD hS hA hE [1, 2] [0] [0, 1, 2] rfl rfl (by decide) (by decide) (by decide) (by decide) rfl 1 4 rfl rfl rfl rfl hl.1 rfl (Nat.le_of_ble_eq_true rfl) dX5_areAtOnePlace_15 ⟨Nat.zero_le _, Nat.zero_le _⟩ (fun H locs hP hD hS => ?_)
  show W p l e rmX5_areAtOnePlace s m args below meth c H locs 0 0 Q (F0 m 18 ls [.int r3, .int r1])
  refine lv_icmp_ne (tgt := 25) hx hb dX5_areAtOnePlace_18 (by decide) (fun c5 => ?_) (fun c5 => ?_)
  · replace hf := ifn c5 hf
    refine lv_iconst (v := (0 : Int32)) hx hb dX5_areAtOnePlace_25 (by decide) ?_
    obtain rfl := inj1 hf
    subst hQ
    exact CM_iret hx hb hr rfl hlocks hAe hP hD hS dX5_areAtOnePlace_26
  · replace hf := ifp c5 hf
    refine lv_iconst (v := (1 : Int32)) hx hb dX5_areAtOnePlace_21 (by decide) ?_
    refine lv_goto (tgt := 26) hx hb dX5_areAtOnePlace_22 (by decide) ?_
    obtain rfl := inj1 hf
    subst hQ
    exact CM_iret hx hb hr rfl hlocks hAe hP hD hS dX5_areAtOnePlace_26
def rmX5_isFirstAtItsPlace : Room := { frames := 3, cells := 0, slots := 0, locals := 65 }
abbrev wqX5_isFirstAtItsPlace : List Cond := Cond.code yX5_isFirstAtItsPlace cX5_isFirstAtItsPlace 3 (some .boolean) :: tG
set_option maxHeartbeats 4000000 in
set_option maxRecDepth 100000 in
theorem c_X5_isFirstAtItsPlace (l : Launch) (dC : Nat → ClassId) (dI : Nat → Nat → Nat) (cI cZ : ClassId) (te : Nat → Nat) (h_p1 : Nat) (h_p1_surfaces : Nat) (h_p1_cliffs : Nat) (h_p1_boulders : Nat) (h_p1_scratches : Nat) (h_p1_numbers : Nat) (h_p1_facts : Nat) (h_p1_signs : Nat) (h_p1_areas : Nat) (h_p1_heights : Nat) (h_p1_scratches_cells : Nat) (p1_ridges : Int32) (p1_scratches_limit : Int32) (p1_scratches_size : Int32) (n_p1_scratches_cells : Nat) (p1_scratches_cells : Nat → Int32) (p2 : Int32) (o0 : Int32) (hf : f_X5_isFirstAtItsPlace p1_scratches_size n_p1_scratches_cells p1_scratches_cells p2 = some o0) : CM l yX5_isFirstAtItsPlace wqX5_isFirstAtItsPlace rmX5_isFirstAtItsPlace (kS te) dC dI cI cZ [.ref h_p1, .int p2] [(h_p1, .inr (1, fX1 h_p1_surfaces h_p1_cliffs h_p1_boulders h_p1_scratches h_p1_numbers h_p1_facts h_p1_signs h_p1_areas h_p1_heights p1_ridges)), (h_p1_scratches, .inr (4, fX4 p1_scratches_limit h_p1_scratches_cells p1_scratches_size)), (h_p1_scratches_cells, .inl (cI, n_p1_scratches_cells, .inl p1_scratches_cells))] [(h_p1, .inr (1, fX1 h_p1_surfaces h_p1_cliffs h_p1_boulders h_p1_scratches h_p1_numbers h_p1_facts h_p1_signs h_p1_areas h_p1_heights p1_ridges)), (h_p1_scratches, .inr (4, fX4 p1_scratches_limit h_p1_scratches_cells p1_scratches_size)), (h_p1_scratches_cells, .inl (cI, n_p1_scratches_cells, .inl p1_scratches_cells))] (some (.int o0)) := by
  refine CM_of (cc := cX5_isFirstAtItsPlace) (maxL := 3) (ret := (some .boolean)) (by decide +kernel) rfl (Nat.le_of_ble_eq_true rfl) ?_
  intro p e s m args below meth c A Q hx hb hr hml hown hts hlocks hA hK hP hD hS hE hQ hAe ls hl
  have hown : s.vm.findClass RX5 = some m.cls := hown
  have hl : lv_has ls 3 [(0, .ref h_p1), (1, .int p2)] := hl
  unfold f_X5_isFirstAtItsPlace at hf
  refine lv_iconst (v := (0 : Int32)) hx hb dX5_isFirstAtItsPlace_0 (by decide) ?_
  refine lv_istore_n (lv' := [(2, .int (0 : Int32)), (0, .ref h_p1), (1, .int p2)]) hx hb dX5_isFirstAtItsPlace_1 rfl hl (by decide) rfl (fun ls hl => ?_)
  have L16 : ∀ (fu9 : Nat) (x7 : Int32) (q6 : Nat), f_X5_isFirstAtItsPlace_L1 p2 p1_scratches_size n_p1_scratches_cells p1_scratches_cells fu9 x7 = some q6 → (q6 = 0 → ∀ (H : Heap) (locs : List Loc), va_P (dC, dI) vwCl [(h_p1, .inr (1, fX1 h_p1_surfaces h_p1_cliffs h_p1_boulders h_p1_scratches h_p1_numbers h_p1_facts h_p1_signs h_p1_areas h_p1_heights p1_ridges)), (h_p1_scratches, .inr (4, fX4 p1_scratches_limit h_p1_scratches_cells p1_scratches_size)), (h_p1_scratches_cells, .inl (cI, n_p1_scratches_cells, .inl p1_scratches_cells))] H → va_D A [(h_p1, .inr (1, fX1 h_p1_surfaces h_p1_cliffs h_p1_boulders h_p1_scratches h_p1_numbers h_p1_facts h_p1_signs h_p1_areas h_p1_heights p1_ridges)), (h_p1_scratches, .inr (4, fX4 p1_scratches_limit h_p1_scratches_cells p1_scratches_size)), (h_p1_scratches_cells, .inl (cI, n_p1_scratches_cells, .inl p1_scratches_cells))] → va_S A s.heap H locs → ∀ ls : Array Slot, lv_has ls 3 [] → W p l e rmX5_isFirstAtItsPlace s m args below meth c H locs 0 0 Q (F0 m 16 ls [])) → (q6 = 1 → ∀ (H : Heap) (locs : List Loc), va_P (dC, dI) vwCl [(h_p1, .inr (1, fX1 h_p1_surfaces h_p1_cliffs h_p1_boulders h_p1_scratches h_p1_numbers h_p1_facts h_p1_signs h_p1_areas h_p1_heights p1_ridges)), (h_p1_scratches, .inr (4, fX4 p1_scratches_limit h_p1_scratches_cells p1_scratches_size)), (h_p1_scratches_cells, .inl (cI, n_p1_scratches_cells, .inl p1_scratches_cells))] H → va_D A [(h_p1, .inr (1, fX1 h_p1_surfaces h_p1_cliffs h_p1_boulders h_p1_scratches h_p1_numbers h_p1_facts h_p1_signs h_p1_areas h_p1_heights p1_ridges)), (h_p1_scratches, .inr (4, fX4 p1_scratches_limit h_p1_scratches_cells p1_scratches_size)), (h_p1_scratches_cells, .inl (cI, n_p1_scratches_cells, .inl p1_scratches_cells))] → va_S A s.heap H locs → ∀ ls : Array Slot, lv_has ls 3 [] → W p l e rmX5_isFirstAtItsPlace s m args below meth c H locs 0 0 Q (F0 m 24 ls [])) → ∀ (H : Heap) (locs : List Loc), va_P (dC, dI) vwCl [(h_p1, .inr (1, fX1 h_p1_surfaces h_p1_cliffs h_p1_boulders h_p1_scratches h_p1_numbers h_p1_facts h_p1_signs h_p1_areas h_p1_heights p1_ridges)), (h_p1_scratches, .inr (4, fX4 p1_scratches_limit h_p1_scratches_cells p1_scratches_size)), (h_p1_scratches_cells, .inl (cI, n_p1_scratches_cells, .inl p1_scratches_cells))] H → va_D A [(h_p1, .inr (1, fX1 h_p1_surfaces h_p1_cliffs h_p1_boulders h_p1_scratches h_p1_numbers h_p1_facts h_p1_signs h_p1_areas h_p1_heights p1_ridges)), (h_p1_scratches, .inr (4, fX4 p1_scratches_limit h_p1_scratches_cells p1_scratches_size)), (h_p1_scratches_cells, .inl (cI, n_p1_scratches_cells, .inl p1_scratches_cells))] → va_S A s.heap H locs → ∀ ls : Array Slot, lv_has ls 3 [(0, .ref h_p1), (1, .int p2), (2, .int x7)] → W p l e rmX5_isFirstAtItsPlace s m args below meth c H locs 0 0 Q (F0 m 2 ls []) := by
    intro fu9
    induction fu9 with
    | zero =>
      intro x7 q6 hf
      unfold f_X5_isFirstAtItsPlace_L1 at hf
      exact none_ne hf
    | succ fu9 ih8 =>
      intro x7 q6 hf hX10 hX11 H locs hP hD hS ls hl
      unfold f_X5_isFirstAtItsPlace_L1 at hf
      refine lv_iload_n hx hb dX5_isFirstAtItsPlace_2 rfl (lv_at hl 2 rfl) ?_
      refine lv_iload_n hx hb dX5_isFirstAtItsPlace_3 rfl (lv_at hl 1 rfl) ?_
      refine lv_icmp_ge (tgt := 24) hx hb dX5_isFirstAtItsPlace_4 (by decide) (fun c12 => ?_) (fun c12 => ?_)
      · replace hf := ifp c12 hf
        obtain rfl := inj1 hf
        exact hX11 rfl _ _ hP hD hS _ (lv_sub hl [] rfl)
      · replace hf := ifn c12 hf
        refine lv_aload_n hx hb dX5_isFirstAtItsPlace_7 rfl (lv_at hl 0 rfl) ?_
        refine lv_iload_n hx hb dX5_isFirstAtItsPlace_8 rfl (lv_at hl 2 rfl) ?_
        refine lv_iload_n hx hb dX5_isFirstAtItsPlace_9 rfl (lv_at hl 1 rfl) ?_
        obtain ⟨r13, hg14, hf⟩ := bd1_some hf
        refine CM_callS (As := [.ref h_p1, .int x7, .int p2]) (rest := []) (wc := [(h_p1, .inr (1, fX1 h_p1_surfaces h_p1_cliffs h_p1_boulders h_p1_scratches h_p1_numbers h_p1_facts h_p1_signs h_p1_areas h_p1_heights p1_ridges)), (h_p1_scratches, .inr (4, fX4 p1_scratches_limit h_p1_scratches_cells p1_scratches_size)), (h_p1_scratches_cells, .inl (cI, n_p1_scratches_cells, .inl p1_scratches_cells))]) (w1 := [(h_p1, .inr (1, fX1 h_p1_surfaces h_p1_cliffs h_p1_boulders h_p1_scratches h_p1_numbers h_p1_facts h_p1_signs h_p1_areas h_p1_heights p1_ridges)), (h_p1_scratches, .inr (4, fX4 p1_scratches_limit h_p1_scratches_cells p1_scratches_size)), (h_p1_scratches_cells, .inl (cI, n_p1_scratches_cells, .inl p1_scratches_cells))]) (wr := []) (wo := [(h_p1, .inr (1, fX1 h_p1_surfaces h_p1_cliffs h_p1_boulders h_p1_scratches h_p1_numbers h_p1_facts h_p1_signs h_p1_areas h_p1_heights p1_ridges)), (h_p1_scratches, .inr (4, fX4 p1_scratches_limit h_p1_scratches_cells p1_scratches_size)), (h_p1_scratches_cells, .inl (cI, n_p1_scratches_cells, .inl p1_scratches_cells))]) (v := (some (.int r13))) ⟨hx, hb, hml, hown, hts⟩ (c_X5_areAtOnePlace l dC dI cI cZ te h_p1 h_p1_surfaces h_p1_cliffs h_p1_boulders h_p1_scratches h_p1_numbers h_p1_facts h_p1_signs h_p1_areas h_p1_heights h_p1_scratches_cells p1_ridges p1_scratches_limit p1_scratches_size n_p1_scratches_cells p1_scratches_cells x7 p2 r13 hg14) (va_cwS 3 hts (gS kw_602 kw_603 kw_599 kw_604) rfl rfl rfl (by decide +kernel) ⟨Nat.le_of_ble_eq_true rfl, Nat.le_of_ble_eq_true rfl⟩) (kS_env te) hK hP hD hS hA hE [0, 1, 2] [] [0, 1, 2] rfl rfl (by decide) (by decide) (by decide) (by decide) rfl rfl hl.1 rfl (Nat.le_of_ble_eq_true rfl) dX5_isFirstAtItsPlace_10 ⟨Nat.zero_le _, Nat.zero_le _⟩ (fun H locs hP hD hS => ?_)
        show W p l e rmX5_isFirstAtItsPlace s m args below meth c H locs 0 0 Q (F0 m 13 ls [.int r13])
        refine lv_if_eq (tgt := 18) hx hb dX5_isFirstAtItsPlace_13 (by decide) (fun c15 => ?_) (fun c15 => ?_)
        · replace hf := ifp c15 hf
          refine lv_iinc (v := (x7 + (1 : Int32))) (lv' := [(2, .int (x7 + (1 : Int32))), (0, .ref h_p1), (1, .int p2)]) hx hb dX5_isFirstAtItsPlace_18 hl (k := 2) rfl rfl (by decide) rfl (fun ls hl => ?_)
          refine lv_goto (tgt := 2) hx hb dX5_isFirstAtItsPlace_21 (by decide) ?_
          exact ih8 _ _ hf hX10 hX11 _ _ hP hD hS _ (lv_sub hl [1, 2, 0] rfl)
        · replace hf := ifn c15 hf
          obtain rfl := inj1 hf
          exact hX10 rfl _ _ hP hD hS _ (lv_sub hl [] rfl)
  obtain ⟨q6, hg, hf⟩ := bd1_some hf
  refine L16 FU _ _ hg ?_ ?_ _ _ hP hD hS _ (lv_sub hl [1, 2, 0] rfl)
  · intro hq
    subst hq
    replace hf := ifp rfl hf
    intro H locs hP hD hS ls hl
    refine lv_iconst (v := (0 : Int32)) hx hb dX5_isFirstAtItsPlace_16 (by decide) ?_
    obtain rfl := inj1 hf
    subst hQ
    exact CM_iret hx hb hr rfl hlocks hAe hP hD hS dX5_isFirstAtItsPlace_17
  · intro hq
    subst hq
    replace hf := ifn (by decide) hf
    intro H locs hP hD hS ls hl
    refine lv_iconst (v := (1 : Int32)) hx hb dX5_isFirstAtItsPlace_24 (by decide) ?_
    obtain rfl := inj1 hf
    subst hQ
    exact CM_iret hx hb hr rfl hlocks hAe hP hD hS dX5_isFirstAtItsPlace_25
def rmX5_rowsAtPlaceOf : Room := { frames := 3, cells := 0, slots := 0, locals := 76 }
abbrev wqX5_rowsAtPlaceOf : List Cond := Cond.code yX5_rowsAtPlaceOf cX5_rowsAtPlaceOf 7 (some .int) :: tG
set_option maxHeartbeats 4000000 in
set_option maxRecDepth 100000 in
theorem c_X5_rowsAtPlaceOf (l : Launch) (dC : Nat → ClassId) (dI : Nat → Nat → Nat) (cI cZ : ClassId) (te : Nat → Nat) (h_p1 : Nat) (h_p1_surfaces : Nat) (h_p1_cliffs : Nat) (h_p1_boulders : Nat) (h_p1_scratches : Nat) (h_p1_numbers : Nat) (h_p1_facts : Nat) (h_p1_signs : Nat) (h_p1_areas : Nat) (h_p1_heights : Nat) (h_p1_scratches_cells : Nat) (p1_ridges : Int32) (p1_scratches_limit : Int32) (p1_scratches_size : Int32) (n_p1_scratches_cells : Nat) (p1_scratches_cells : Nat → Int32) (p1_surfaces : Nat → Int32) (p1_numbers : Nat → Int32) (p2 : Int32) (o0 : Int32) (hf : f_X5_rowsAtPlaceOf p1_scratches_size n_p1_scratches_cells p1_scratches_cells p1_surfaces p1_numbers p2 = some o0) : CM l yX5_rowsAtPlaceOf wqX5_rowsAtPlaceOf rmX5_rowsAtPlaceOf (kS te) dC dI cI cZ [.ref h_p1, .int p2] [(h_p1, .inr (1, fX1 h_p1_surfaces h_p1_cliffs h_p1_boulders h_p1_scratches h_p1_numbers h_p1_facts h_p1_signs h_p1_areas h_p1_heights p1_ridges)), (h_p1_scratches, .inr (4, fX4 p1_scratches_limit h_p1_scratches_cells p1_scratches_size)), (h_p1_scratches_cells, .inl (cI, n_p1_scratches_cells, .inl p1_scratches_cells)), (h_p1_surfaces, .inl (cI, 192, .inl p1_surfaces)), (h_p1_numbers, .inl (cI, 6, .inl p1_numbers))] [(h_p1, .inr (1, fX1 h_p1_surfaces h_p1_cliffs h_p1_boulders h_p1_scratches h_p1_numbers h_p1_facts h_p1_signs h_p1_areas h_p1_heights p1_ridges)), (h_p1_scratches, .inr (4, fX4 p1_scratches_limit h_p1_scratches_cells p1_scratches_size)), (h_p1_scratches_cells, .inl (cI, n_p1_scratches_cells, .inl p1_scratches_cells)), (h_p1_surfaces, .inl (cI, 192, .inl p1_surfaces)), (h_p1_numbers, .inl (cI, 6, .inl p1_numbers))] (some (.int o0)) := by
  refine CM_of (cc := cX5_rowsAtPlaceOf) (maxL := 7) (ret := (some .int)) (by decide +kernel) rfl (Nat.le_of_ble_eq_true rfl) ?_
  intro p e s m args below meth c A Q hx hb hr hml hown hts hlocks hA hK hP hD hS hE hQ hAe ls hl
  have hown : s.vm.findClass RX5 = some m.cls := hown
  have hl : lv_has ls 7 [(0, .ref h_p1), (1, .int p2)] := hl
  unfold f_X5_rowsAtPlaceOf at hf
  refine lv_iconst (v := (1 : Int32)) hx hb dX5_rowsAtPlaceOf_0 (by decide) ?_
  refine lv_istore_n (lv' := [(2, .int (1 : Int32)), (0, .ref h_p1), (1, .int p2)]) hx hb dX5_rowsAtPlaceOf_1 rfl hl (by decide) rfl (fun ls hl => ?_)
  refine lv_iconst (v := (0 : Int32)) hx hb dX5_rowsAtPlaceOf_2 (by decide) ?_
  refine lv_istore_n (lv' := [(3, .int (0 : Int32)), (2, .int (1 : Int32)), (0, .ref h_p1), (1, .int p2)]) hx hb dX5_rowsAtPlaceOf_3 rfl hl (by decide) rfl (fun ls hl => ?_)
  refine lv_iconst (v := (0 : Int32)) hx hb dX5_rowsAtPlaceOf_4 (by decide) ?_
  refine lv_istore (lv' := [(4, .int (0 : Int32)), (3, .int (0 : Int32)), (2, .int (1 : Int32)), (0, .ref h_p1), (1, .int p2)]) hx hb dX5_rowsAtPlaceOf_5 hl (by decide) rfl (fun ls hl => ?_)
  refine lv_iload_n hx hb dX5_rowsAtPlaceOf_7 rfl (lv_at hl 4 rfl) ?_
  refine lv_istore (lv' := [(5, .int p2), (4, .int (0 : Int32)), (3, .int (0 : Int32)), (2, .int (1 : Int32)), (0, .ref h_p1), (1, .int p2)]) hx hb dX5_rowsAtPlaceOf_8 hl (by decide) rfl (fun ls hl => ?_)
  have L45 : ∀ (fu28 : Nat) (x23 : Int32) (x24 : Int32) (x25 : Int32) (x26 : Int32) (x20 : Int32) (x21 : Int32) (x22 : Int32), f_X5_rowsAtPlaceOf_L1 p1_scratches_size n_p1_scratches_cells p1_scratches_cells p2 p1_surfaces p1_numbers fu28 x23 x24 x25 x26 = some (x20, x21, x22) → (∀ (H : Heap) (locs : List Loc), va_P (dC, dI) vwCl [(h_p1, .inr (1, fX1 h_p1_surfaces h_p1_cliffs h_p1_boulders h_p1_scratches h_p1_numbers h_p1_facts h_p1_signs h_p1_areas h_p1_heights p1_ridges)), (h_p1_scratches, .inr (4, fX4 p1_scratches_limit h_p1_scratches_cells p1_scratches_size)), (h_p1_scratches_cells, .inl (cI, n_p1_scratches_cells, .inl p1_scratches_cells)), (h_p1_surfaces, .inl (cI, 192, .inl p1_surfaces)), (h_p1_numbers, .inl (cI, 6, .inl p1_numbers))] H → va_D A [(h_p1, .inr (1, fX1 h_p1_surfaces h_p1_cliffs h_p1_boulders h_p1_scratches h_p1_numbers h_p1_facts h_p1_signs h_p1_areas h_p1_heights p1_ridges)), (h_p1_scratches, .inr (4, fX4 p1_scratches_limit h_p1_scratches_cells p1_scratches_size)), (h_p1_scratches_cells, .inl (cI, n_p1_scratches_cells, .inl p1_scratches_cells)), (h_p1_surfaces, .inl (cI, 192, .inl p1_surfaces)), (h_p1_numbers, .inl (cI, 6, .inl p1_numbers))] → va_S A s.heap H locs → ∀ ls : Array Slot, lv_has ls 7 [(2, .int x20), (3, .int x21), (4, .int x22)] → W p l e rmX5_rowsAtPlaceOf s m args below meth c H locs 0 0 Q (F0 m 93 ls [])) → ∀ (H : Heap) (locs : List Loc), va_P (dC, dI) vwCl [(h_p1, .inr (1, fX1 h_p1_surfaces h_p1_cliffs h_p1_boulders h_p1_scratches h_p1_numbers h_p1_facts h_p1_signs h_p1_areas h_p1_heights p1_ridges)), (h_p1_scratches, .inr (4, fX4 p1_scratches_limit h_p1_scratches_cells p1_scratches_size)), (h_p1_scratches_cells, .inl (cI, n_p1_scratches_cells, .inl p1_scratches_cells)), (h_p1_surfaces, .inl (cI, 192, .inl p1_surfaces)), (h_p1_numbers, .inl (cI, 6, .inl p1_numbers))] H → va_D A [(h_p1, .inr (1, fX1 h_p1_surfaces h_p1_cliffs h_p1_boulders h_p1_scratches h_p1_numbers h_p1_facts h_p1_signs h_p1_areas h_p1_heights p1_ridges)), (h_p1_scratches, .inr (4, fX4 p1_scratches_limit h_p1_scratches_cells p1_scratches_size)), (h_p1_scratches_cells, .inl (cI, n_p1_scratches_cells, .inl p1_scratches_cells)), (h_p1_surfaces, .inl (cI, 192, .inl p1_surfaces)), (h_p1_numbers, .inl (cI, 6, .inl p1_numbers))] → va_S A s.heap H locs → ∀ ls : Array Slot, lv_has ls 7 [(0, .ref h_p1), (1, .int p2), (2, .int x23), (3, .int x24), (4, .int x25), (5, .int x26)] → W p l e rmX5_rowsAtPlaceOf s m args below meth c H locs 0 0 Q (F0 m 10 ls []) := by
    intro fu28
    induction fu28 with
    | zero =>
      intro x23 x24 x25 x26 x20 x21 x22 hf
      unfold f_X5_rowsAtPlaceOf_L1 at hf
      exact none_ne hf
    | succ fu28 ih27 =>
      intro x23 x24 x25 x26 x20 x21 x22 hf hX29 H locs hP hD hS ls hl
      unfold f_X5_rowsAtPlaceOf_L1 at hf
      refine lv_iload hx hb dX5_rowsAtPlaceOf_10 (lv_at hl 5 rfl) ?_
      refine lv_aload_n hx hb dX5_rowsAtPlaceOf_12 rfl (lv_at hl 0 rfl) ?_
      refine va_get (D := (dC, dI)) (ci := 1) (v := .ref h_p1_scratches) (C := RX1) (T := TX1) (N := 10) hx hb hts (in1 tw_X1) hown hK hP 0 rfl rfl 3 (by decide) (hts _ (List.mem_cons_of_mem _ kw_591)) (fun _ h9 => h9) rfl dX5_rowsAtPlaceOf_13 ?_
      obtain ⟨r30, hg31, hf⟩ := bd1_some hf
      refine CM_callV (C := RX4) (As := []) (rest := [.int x26]) (wc := [(h_p1_scratches, .inr (4, fX4 p1_scratches_limit h_p1_scratches_cells p1_scratches_size))]) (w1 := [(h_p1_scratches, .inr (4, fX4 p1_scratches_limit h_p1_scratches_cells p1_scratches_size))]) (wr := [(h_p1, .inr (1, fX1 h_p1_surfaces h_p1_cliffs h_p1_boulders h_p1_scratches h_p1_numbers h_p1_facts h_p1_signs h_p1_areas h_p1_heights p1_ridges)), (h_p1_scratches_cells, .inl (cI, n_p1_scratches_cells, .inl p1_scratches_cells)), (h_p1_surfaces, .inl (cI, 192, .inl p1_surfaces)), (h_p1_numbers, .inl (cI, 6, .inl p1_numbers))]) (wo := [(h_p1, .inr (1, fX1 h_p1_surfaces h_p1_cliffs h_p1_boulders h_p1_scratches h_p1_numbers h_p1_facts h_p1_signs h_p1_areas h_p1_heights p1_ridges)), (h_p1_scratches, .inr (4, fX4 p1_scratches_limit h_p1_scratches_cells p1_scratches_size)), (h_p1_scratches_cells, .inl (cI, n_p1_scratches_cells, .inl p1_scratches_cells)), (h_p1_surfaces, .inl (cI, 192, .inl p1_surfaces)), (h_p1_numbers, .inl (cI, 6, .inl p1_numbers))]) (v := (some (.int r30))) ⟨hx, hb, hml, hown, hts⟩ (c_X4_size l dC dI cI cZ te h_p1_scratches h_p1_scratches_cells p1_scratches_limit p1_scratches_size r30 hg31) (cwV 0 hts (gV kw_605 kw_404 kw_405 kw_19 kw_406) rfl rfl rfl (by decide +kernel) ⟨Nat.le_of_ble_eq_true rfl, Nat.le_of_ble_eq_true rfl⟩) (kS_env te) hK hP hD hS hA hE [1] [0, 2, 3, 4] [0, 4, 1, 2, 3] rfl rfl (by decide) (by decide) (by decide) (by decide) rfl 1 4 rfl rfl rfl rfl hl.1 rfl (Nat.le_of_ble_eq_true rfl) dX5_rowsAtPlaceOf_16 ⟨Nat.zero_le _, Nat.zero_le _⟩ (fun H locs hP hD hS => ?_)
      show W p l e rmX5_rowsAtPlaceOf s m args below meth c H locs 0 0 Q (F0 m 19 ls [.int r30, .int x26])
      refine lv_icmp_ge (tgt := 93) hx hb dX5_rowsAtPlaceOf_19 (by decide) (fun c32 => ?_) (fun c32 => ?_)
      · replace hf := ifp c32 hf
        obtain ⟨rfl, rfl, rfl⟩ := inj3 hf
        exact hX29 _ _ hP hD hS _ (lv_sub hl [2, 3, 4] rfl)
      · replace hf := ifn c32 hf
        refine lv_aload_n hx hb dX5_rowsAtPlaceOf_22 rfl (lv_at hl 0 rfl) ?_
        refine lv_iload_n hx hb dX5_rowsAtPlaceOf_23 rfl (lv_at hl 1 rfl) ?_
        refine lv_iload hx hb dX5_rowsAtPlaceOf_24 (lv_at hl 5 rfl) ?_
        obtain ⟨r33, hg34, hf⟩ := bd1_some hf
        refine CM_callS (As := [.ref h_p1, .int p2, .int x26]) (rest := []) (wc := [(h_p1, .inr (1, fX1 h_p1_surfaces h_p1_cliffs h_p1_boulders h_p1_scratches h_p1_numbers h_p1_facts h_p1_signs h_p1_areas h_p1_heights p1_ridges)), (h_p1_scratches, .inr (4, fX4 p1_scratches_limit h_p1_scratches_cells p1_scratches_size)), (h_p1_scratches_cells, .inl (cI, n_p1_scratches_cells, .inl p1_scratches_cells))]) (w1 := [(h_p1, .inr (1, fX1 h_p1_surfaces h_p1_cliffs h_p1_boulders h_p1_scratches h_p1_numbers h_p1_facts h_p1_signs h_p1_areas h_p1_heights p1_ridges)), (h_p1_scratches, .inr (4, fX4 p1_scratches_limit h_p1_scratches_cells p1_scratches_size)), (h_p1_scratches_cells, .inl (cI, n_p1_scratches_cells, .inl p1_scratches_cells))]) (wr := [(h_p1_surfaces, .inl (cI, 192, .inl p1_surfaces)), (h_p1_numbers, .inl (cI, 6, .inl p1_numbers))]) (wo := [(h_p1, .inr (1, fX1 h_p1_surfaces h_p1_cliffs h_p1_boulders h_p1_scratches h_p1_numbers h_p1_facts h_p1_signs h_p1_areas h_p1_heights p1_ridges)), (h_p1_scratches, .inr (4, fX4 p1_scratches_limit h_p1_scratches_cells p1_scratches_size)), (h_p1_scratches_cells, .inl (cI, n_p1_scratches_cells, .inl p1_scratches_cells)), (h_p1_surfaces, .inl (cI, 192, .inl p1_surfaces)), (h_p1_numbers, .inl (cI, 6, .inl p1_numbers))]) (v := (some (.int r33))) ⟨hx, hb, hml, hown, hts⟩ (c_X5_areAtOnePlace l dC dI cI cZ te h_p1 h_p1_surfaces h_p1_cliffs h_p1_boulders h_p1_scratches h_p1_numbers h_p1_facts h_p1_signs h_p1_areas h_p1_heights h_p1_scratches_cells p1_ridges p1_scratches_limit p1_scratches_size n_p1_scratches_cells p1_scratches_cells p2 x26 r33 hg34) (va_cwS 3 hts (gS kw_602 kw_603 kw_599 kw_604) rfl rfl rfl (by decide +kernel) ⟨Nat.le_of_ble_eq_true rfl, Nat.le_of_ble_eq_true rfl⟩) (kS_env te) hK hP hD hS hA hE [0, 1, 2] [3, 4] [2, 3, 4, 0, 1] rfl rfl (by decide) (by decide) (by decide) (by decide) rfl rfl hl.1 rfl (Nat.le_of_ble_eq_true rfl) dX5_rowsAtPlaceOf_26 ⟨Nat.zero_le _, Nat.zero_le _⟩ (fun H locs hP hD hS => ?_)
        show W p l e rmX5_rowsAtPlaceOf s m args below meth c H locs 0 0 Q (F0 m 29 ls [.int r33])
        refine lv_if_eq (tgt := 87) hx hb dX5_rowsAtPlaceOf_29 (by decide) (fun c35 => ?_) (fun c35 => ?_)
        · replace hf := ifp c35 hf
          refine lv_iinc (v := (x26 + (1 : Int32))) (lv' := [(5, .int (x26 + (1 : Int32))), (0, .ref h_p1), (1, .int p2), (2, .int x23), (3, .int x24), (4, .int x25)]) hx hb dX5_rowsAtPlaceOf_87 hl (k := 5) rfl rfl (by decide) rfl (fun ls hl => ?_)
          refine lv_goto (tgt := 10) hx hb dX5_rowsAtPlaceOf_90 (by decide) ?_
          exact ih27 _ _ _ _ _ _ _ hf hX29 _ _ hP hD hS _ (lv_sub hl [1, 2, 3, 4, 5, 0] rfl)
        · replace hf := ifn c35 hf
          refine lv_aload_n hx hb dX5_rowsAtPlaceOf_32 rfl (lv_at hl 0 rfl) ?_
          refine lv_iload hx hb dX5_rowsAtPlaceOf_33 (lv_at hl 5 rfl) ?_
          obtain ⟨r36, hg37, hf⟩ := bd1_some hf
          refine CM_callS (As := [.ref h_p1, .int x26]) (rest := []) (wc := [(h_p1, .inr (1, fX1 h_p1_surfaces h_p1_cliffs h_p1_boulders h_p1_scratches h_p1_numbers h_p1_facts h_p1_signs h_p1_areas h_p1_heights p1_ridges)), (h_p1_scratches, .inr (4, fX4 p1_scratches_limit h_p1_scratches_cells p1_scratches_size)), (h_p1_scratches_cells, .inl (cI, n_p1_scratches_cells, .inl p1_scratches_cells)), (h_p1_surfaces, .inl (cI, 192, .inl p1_surfaces)), (h_p1_numbers, .inl (cI, 6, .inl p1_numbers))]) (w1 := [(h_p1, .inr (1, fX1 h_p1_surfaces h_p1_cliffs h_p1_boulders h_p1_scratches h_p1_numbers h_p1_facts h_p1_signs h_p1_areas h_p1_heights p1_ridges)), (h_p1_scratches, .inr (4, fX4 p1_scratches_limit h_p1_scratches_cells p1_scratches_size)), (h_p1_scratches_cells, .inl (cI, n_p1_scratches_cells, .inl p1_scratches_cells)), (h_p1_surfaces, .inl (cI, 192, .inl p1_surfaces)), (h_p1_numbers, .inl (cI, 6, .inl p1_numbers))]) (wr := []) (wo := [(h_p1, .inr (1, fX1 h_p1_surfaces h_p1_cliffs h_p1_boulders h_p1_scratches h_p1_numbers h_p1_facts h_p1_signs h_p1_areas h_p1_heights p1_ridges)), (h_p1_scratches, .inr (4, fX4 p1_scratches_limit h_p1_scratches_cells p1_scratches_size)), (h_p1_scratches_cells, .inl (cI, n_p1_scratches_cells, .inl p1_scratches_cells)), (h_p1_surfaces, .inl (cI, 192, .inl p1_surfaces)), (h_p1_numbers, .inl (cI, 6, .inl p1_numbers))]) (v := (some (.int r36))) ⟨hx, hb, hml, hown, hts⟩ (c_X5_stagesOf l dC dI cI cZ te h_p1 h_p1_surfaces h_p1_cliffs h_p1_boulders h_p1_scratches h_p1_numbers h_p1_facts h_p1_signs h_p1_areas h_p1_heights h_p1_scratches_cells p1_ridges p1_scratches_limit p1_scratches_size n_p1_scratches_cells p1_scratches_cells p1_surfaces p1_numbers x26 r36 hg37) (va_cwS 2 hts (gS kw_606 kw_607 kw_599 kw_608) rfl rfl rfl (by decide +kernel) ⟨Nat.le_of_ble_eq_true rfl, Nat.le_of_ble_eq_true rfl⟩) (kS_env te) hK hP hD hS hA hE [0, 1, 2, 3, 4] [] [0, 1, 2, 3, 4] rfl rfl (by decide) (by decide) (by decide) (by decide) rfl rfl hl.1 rfl (Nat.le_of_ble_eq_true rfl) dX5_rowsAtPlaceOf_35 ⟨Nat.zero_le _, Nat.zero_le _⟩ (fun H locs hP hD hS => ?_)
          show W p l e rmX5_rowsAtPlaceOf s m args below meth c H locs 0 0 Q (F0 m 38 ls [.int r36])
          refine lv_istore (lv' := [(6, .int r36), (0, .ref h_p1), (1, .int p2), (2, .int x23), (3, .int x24), (4, .int x25), (5, .int x26)]) hx hb dX5_rowsAtPlaceOf_38 hl (by decide) rfl (fun ls hl => ?_)
          refine lv_iload hx hb dX5_rowsAtPlaceOf_40 (lv_at hl 0 rfl) ?_
          refine lv_iconst (v := (4 : Int32)) hx hb dX5_rowsAtPlaceOf_42 (by decide) ?_
          refine lv_iand hx hb dX5_rowsAtPlaceOf_43 ?_
          obtain ⟨x38, hg, hf⟩ := bd1_some hf
          have J39 : ∀ (H : Heap) (locs : List Loc), va_P (dC, dI) vwCl [(h_p1, .inr (1, fX1 h_p1_surfaces h_p1_cliffs h_p1_boulders h_p1_scratches h_p1_numbers h_p1_facts h_p1_signs h_p1_areas h_p1_heights p1_ridges)), (h_p1_scratches, .inr (4, fX4 p1_scratches_limit h_p1_scratches_cells p1_scratches_size)), (h_p1_scratches_cells, .inl (cI, n_p1_scratches_cells, .inl p1_scratches_cells)), (h_p1_surfaces, .inl (cI, 192, .inl p1_surfaces)), (h_p1_numbers, .inl (cI, 6, .inl p1_numbers))] H → va_D A [(h_p1, .inr (1, fX1 h_p1_surfaces h_p1_cliffs h_p1_boulders h_p1_scratches h_p1_numbers h_p1_facts h_p1_signs h_p1_areas h_p1_heights p1_ridges)), (h_p1_scratches, .inr (4, fX4 p1_scratches_limit h_p1_scratches_cells p1_scratches_size)), (h_p1_scratches_cells, .inl (cI, n_p1_scratches_cells, .inl p1_scratches_cells)), (h_p1_surfaces, .inl (cI, 192, .inl p1_surfaces)), (h_p1_numbers, .inl (cI, 6, .inl p1_numbers))] → va_S A s.heap H locs → ∀ ls : Array Slot, lv_has ls 7 [(0, .ref h_p1), (1, .int p2), (2, .int x23), (3, .int x24), (5, .int x26), (6, .int r36)] → W p l e rmX5_rowsAtPlaceOf s m args below meth c H locs 0 0 Q (F0 m 57 ls [.int x38]) := by
            intro H locs hP hD hS ls hl
            refine lv_istore (lv' := [(4, .int x38), (0, .ref h_p1), (1, .int p2), (2, .int x23), (3, .int x24), (5, .int x26), (6, .int r36)]) hx hb dX5_rowsAtPlaceOf_57 hl (by decide) rfl (fun ls hl => ?_)
            refine lv_iload hx hb dX5_rowsAtPlaceOf_59 (lv_at hl 6 rfl) ?_
            refine lv_iconst (v := (2 : Int32)) hx hb dX5_rowsAtPlaceOf_61 (by decide) ?_
            refine lv_iand hx hb dX5_rowsAtPlaceOf_62 ?_
            obtain ⟨x40, hg, hf⟩ := bd1_some hf
            have J41 : ∀ (H : Heap) (locs : List Loc), va_P (dC, dI) vwCl [(h_p1, .inr (1, fX1 h_p1_surfaces h_p1_cliffs h_p1_boulders h_p1_scratches h_p1_numbers h_p1_facts h_p1_signs h_p1_areas h_p1_heights p1_ridges)), (h_p1_scratches, .inr (4, fX4 p1_scratches_limit h_p1_scratches_cells p1_scratches_size)), (h_p1_scratches_cells, .inl (cI, n_p1_scratches_cells, .inl p1_scratches_cells)), (h_p1_surfaces, .inl (cI, 192, .inl p1_surfaces)), (h_p1_numbers, .inl (cI, 6, .inl p1_numbers))] H → va_D A [(h_p1, .inr (1, fX1 h_p1_surfaces h_p1_cliffs h_p1_boulders h_p1_scratches h_p1_numbers h_p1_facts h_p1_signs h_p1_areas h_p1_heights p1_ridges)), (h_p1_scratches, .inr (4, fX4 p1_scratches_limit h_p1_scratches_cells p1_scratches_size)), (h_p1_scratches_cells, .inl (cI, n_p1_scratches_cells, .inl p1_scratches_cells)), (h_p1_surfaces, .inl (cI, 192, .inl p1_surfaces)), (h_p1_numbers, .inl (cI, 6, .inl p1_numbers))] → va_S A s.heap H locs → ∀ ls : Array Slot, lv_has ls 7 [(0, .ref h_p1), (1, .int p2), (2, .int x23), (4, .int x38), (5, .int x26), (6, .int r36)] → W p l e rmX5_rowsAtPlaceOf s m args below meth c H locs 0 0 Q (F0 m 73 ls [.int x40]) := by
              intro H locs hP hD hS ls hl
              refine lv_istore_n (lv' := [(3, .int x40), (0, .ref h_p1), (1, .int p2), (2, .int x23), (4, .int x38), (5, .int x26), (6, .int r36)]) hx hb dX5_rowsAtPlaceOf_73 rfl hl (by decide) rfl (fun ls hl => ?_)
              refine lv_iload hx hb dX5_rowsAtPlaceOf_74 (lv_at hl 6 rfl) ?_
              refine lv_iconst (v := (1 : Int32)) hx hb dX5_rowsAtPlaceOf_76 (by decide) ?_
              refine lv_iand hx hb dX5_rowsAtPlaceOf_77 ?_
              refine lv_if_ne (tgt := 85) hx hb dX5_rowsAtPlaceOf_78 (by decide) (fun c42 => ?_) (fun c42 => ?_)
              · replace hf := ifn c42 hf
                refine lv_iload_n hx hb dX5_rowsAtPlaceOf_85 rfl (lv_at hl 3 rfl) ?_
                refine lv_istore_n (lv' := [(2, .int x23), (3, .int x40), (0, .ref h_p1), (1, .int p2), (4, .int x38), (5, .int x26), (6, .int r36)]) hx hb dX5_rowsAtPlaceOf_86 rfl hl (by decide) rfl (fun ls hl => ?_)
                refine lv_iinc (v := (x26 + (1 : Int32))) (lv' := [(5, .int (x26 + (1 : Int32))), (2, .int x23), (3, .int x40), (0, .ref h_p1), (1, .int p2), (4, .int x38), (6, .int r36)]) hx hb dX5_rowsAtPlaceOf_87 hl (k := 5) rfl rfl (by decide) rfl (fun ls hl => ?_)
                refine lv_goto (tgt := 10) hx hb dX5_rowsAtPlaceOf_90 (by decide) ?_
                exact ih27 _ _ _ _ _ _ _ hf hX29 _ _ hP hD hS _ (lv_sub hl [3, 4, 1, 2, 5, 0] rfl)
              · replace hf := ifp c42 hf
                refine lv_iconst (v := (0 : Int32)) hx hb dX5_rowsAtPlaceOf_81 (by decide) ?_
                refine lv_goto (tgt := 86) hx hb dX5_rowsAtPlaceOf_82 (by decide) ?_
                refine lv_istore_n (lv' := [(2, .int (0 : Int32)), (3, .int x40), (0, .ref h_p1), (1, .int p2), (4, .int x38), (5, .int x26), (6, .int r36)]) hx hb dX5_rowsAtPlaceOf_86 rfl hl (by decide) rfl (fun ls hl => ?_)
                refine lv_iinc (v := (x26 + (1 : Int32))) (lv' := [(5, .int (x26 + (1 : Int32))), (2, .int (0 : Int32)), (3, .int x40), (0, .ref h_p1), (1, .int p2), (4, .int x38), (6, .int r36)]) hx hb dX5_rowsAtPlaceOf_87 hl (k := 5) rfl rfl (by decide) rfl (fun ls hl => ?_)
                refine lv_goto (tgt := 10) hx hb dX5_rowsAtPlaceOf_90 (by decide) ?_
                exact ih27 _ _ _ _ _ _ _ hf hX29 _ _ hP hD hS _ (lv_sub hl [3, 4, 1, 2, 5, 0] rfl)
            clear hf
            have hf := hg
            refine lv_if_ne (tgt := 70) hx hb dX5_rowsAtPlaceOf_63 (by decide) (fun c43 => ?_) (fun c43 => ?_)
            · replace hf := ifn c43 hf
              refine lv_iload_n hx hb dX5_rowsAtPlaceOf_70 rfl (lv_at hl 3 rfl) ?_
              refine lv_iload_n hx hb dX5_rowsAtPlaceOf_71 rfl (lv_at hl 4 rfl) ?_
              refine lv_iadd hx hb dX5_rowsAtPlaceOf_72 ?_
              obtain rfl := inj1 hf
              exact J41 _ _ hP hD hS _ (lv_sub hl [1, 2, 3, 0, 5, 6] rfl)
            · replace hf := ifp c43 hf
              refine lv_iconst (v := (0 : Int32)) hx hb dX5_rowsAtPlaceOf_66 (by decide) ?_
              refine lv_goto (tgt := 73) hx hb dX5_rowsAtPlaceOf_67 (by decide) ?_
              obtain rfl := inj1 hf
              exact J41 _ _ hP hD hS _ (lv_sub hl [1, 2, 3, 0, 5, 6] rfl)
          clear hf
          have hf := hg
          refine lv_if_ne (tgt := 51) hx hb dX5_rowsAtPlaceOf_44 (by decide) (fun c44 => ?_) (fun c44 => ?_)
          · replace hf := ifn c44 hf
            refine lv_iload_n hx hb dX5_rowsAtPlaceOf_51 rfl (lv_at hl 3 rfl) ?_
            refine lv_iload_n hx hb dX5_rowsAtPlaceOf_52 rfl (lv_at hl 4 rfl) ?_
            refine lv_iadd hx hb dX5_rowsAtPlaceOf_53 ?_
            refine lv_iload hx hb dX5_rowsAtPlaceOf_54 (lv_at hl 5 rfl) ?_
            refine lv_iadd hx hb dX5_rowsAtPlaceOf_56 ?_
            obtain rfl := inj1 hf
            exact J39 _ _ hP hD hS _ (lv_sub hl [1, 2, 3, 4, 6, 0] rfl)
          · replace hf := ifp c44 hf
            refine lv_iconst (v := (0 : Int32)) hx hb dX5_rowsAtPlaceOf_47 (by decide) ?_
            refine lv_goto (tgt := 57) hx hb dX5_rowsAtPlaceOf_48 (by decide) ?_
            obtain rfl := inj1 hf
            exact J39 _ _ hP hD hS _ (lv_sub hl [1, 2, 3, 4, 6, 0] rfl)
  obtain ⟨x20, x21, x22, hg, hf⟩ := bd3_some hf
  refine L45 FU _ _ _ _ _ _ _ hg ?_ _ _ hP hD hS _ (lv_sub hl [4, 5, 3, 2, 1, 0] rfl)
  · intro H locs hP hD hS ls hl
    refine lv_iload_n hx hb dX5_rowsAtPlaceOf_93 rfl (lv_at hl 0 rfl) ?_
    refine lv_iload_n hx hb dX5_rowsAtPlaceOf_94 rfl (lv_at hl 1 rfl) ?_
    refine lv_iadd hx hb dX5_rowsAtPlaceOf_95 ?_
    refine lv_iload hx hb dX5_rowsAtPlaceOf_96 (lv_at hl 2 rfl) ?_
    refine lv_iadd hx hb dX5_rowsAtPlaceOf_98 ?_
    obtain rfl := inj1 hf
    subst hQ
    exact CM_iret hx hb hr rfl hlocks hAe hP hD hS dX5_rowsAtPlaceOf_99
def rmX5_rows : Room := { frames := 4, cells := 0, slots := 0, locals := 102 }
abbrev wqX5_rows : List Cond := Cond.code yX5_rows cX5_rows 3 (some .int) :: tG
set_option maxHeartbeats 4000000 in
set_option maxRecDepth 100000 in
theorem c_X5_rows (l : Launch) (dC : Nat → ClassId) (dI : Nat → Nat → Nat) (cI cZ : ClassId) (te : Nat → Nat) (h_p1 : Nat) (h_p1_surfaces : Nat) (h_p1_cliffs : Nat) (h_p1_boulders : Nat) (h_p1_scratches : Nat) (h_p1_numbers : Nat) (h_p1_facts : Nat) (h_p1_signs : Nat) (h_p1_areas : Nat) (h_p1_heights : Nat) (h_p1_scratches_cells : Nat) (p1_ridges : Int32) (p1_scratches_limit : Int32) (p1_scratches_size : Int32) (n_p1_scratches_cells : Nat) (p1_scratches_cells : Nat → Int32) (p1_surfaces : Nat → Int32) (p1_numbers : Nat → Int32) (o0 : Int32) (hf : f_X5_rows p1_scratches_size n_p1_scratches_cells p1_scratches_cells p1_surfaces p1_numbers = some o0) : CM l yX5_rows wqX5_rows rmX5_rows (kS te) dC dI cI cZ [.ref h_p1] [(h_p1, .inr (1, fX1 h_p1_surfaces h_p1_cliffs h_p1_boulders h_p1_scratches h_p1_numbers h_p1_facts h_p1_signs h_p1_areas h_p1_heights p1_ridges)), (h_p1_scratches, .inr (4, fX4 p1_scratches_limit h_p1_scratches_cells p1_scratches_size)), (h_p1_scratches_cells, .inl (cI, n_p1_scratches_cells, .inl p1_scratches_cells)), (h_p1_surfaces, .inl (cI, 192, .inl p1_surfaces)), (h_p1_numbers, .inl (cI, 6, .inl p1_numbers))] [(h_p1, .inr (1, fX1 h_p1_surfaces h_p1_cliffs h_p1_boulders h_p1_scratches h_p1_numbers h_p1_facts h_p1_signs h_p1_areas h_p1_heights p1_ridges)), (h_p1_scratches, .inr (4, fX4 p1_scratches_limit h_p1_scratches_cells p1_scratches_size)), (h_p1_scratches_cells, .inl (cI, n_p1_scratches_cells, .inl p1_scratches_cells)), (h_p1_surfaces, .inl (cI, 192, .inl p1_surfaces)), (h_p1_numbers, .inl (cI, 6, .inl p1_numbers))] (some (.int o0)) := by
  refine CM_of (cc := cX5_rows) (maxL := 3) (ret := (some .int)) (by decide +kernel) rfl (Nat.le_of_ble_eq_true rfl) ?_
  intro p e s m args below meth c A Q hx hb hr hml hown hts hlocks hA hK hP hD hS hE hQ hAe ls hl
  have hown : s.vm.findClass RX5 = some m.cls := hown
  have hl : lv_has ls 3 [(0, .ref h_p1)] := hl
  unfold f_X5_rows at hf
  refine lv_iconst (v := (1 : Int32)) hx hb dX5_rows_0 (by decide) ?_
  refine lv_istore_n (lv' := [(1, .int (1 : Int32)), (0, .ref h_p1)]) hx hb dX5_rows_1 rfl hl (by decide) rfl (fun ls hl => ?_)
  refine lv_iconst (v := (0 : Int32)) hx hb dX5_rows_2 (by decide) ?_
  refine lv_istore_n (lv' := [(2, .int (0 : Int32)), (1, .int (1 : Int32)), (0, .ref h_p1)]) hx hb dX5_rows_3 rfl hl (by decide) rfl (fun ls hl => ?_)
  have L29 : ∀ (fu17 : Nat) (x14 : Int32) (x15 : Int32) (x13 : Int32), f_X5_rows_L1 p1_scratches_size n_p1_scratches_cells p1_scratches_cells p1_surfaces p1_numbers fu17 x14 x15 = some x13 → (∀ (H : Heap) (locs : List Loc), va_P (dC, dI) vwCl [(h_p1, .inr (1, fX1 h_p1_surfaces h_p1_cliffs h_p1_boulders h_p1_scratches h_p1_numbers h_p1_facts h_p1_signs h_p1_areas h_p1_heights p1_ridges)), (h_p1_scratches, .inr (4, fX4 p1_scratches_limit h_p1_scratches_cells p1_scratches_size)), (h_p1_scratches_cells, .inl (cI, n_p1_scratches_cells, .inl p1_scratches_cells)), (h_p1_surfaces, .inl (cI, 192, .inl p1_surfaces)), (h_p1_numbers, .inl (cI, 6, .inl p1_numbers))] H → va_D A [(h_p1, .inr (1, fX1 h_p1_surfaces h_p1_cliffs h_p1_boulders h_p1_scratches h_p1_numbers h_p1_facts h_p1_signs h_p1_areas h_p1_heights p1_ridges)), (h_p1_scratches, .inr (4, fX4 p1_scratches_limit h_p1_scratches_cells p1_scratches_size)), (h_p1_scratches_cells, .inl (cI, n_p1_scratches_cells, .inl p1_scratches_cells)), (h_p1_surfaces, .inl (cI, 192, .inl p1_surfaces)), (h_p1_numbers, .inl (cI, 6, .inl p1_numbers))] → va_S A s.heap H locs → ∀ ls : Array Slot, lv_has ls 3 [(1, .int x13)] → W p l e rmX5_rows s m args below meth c H locs 0 0 Q (F0 m 37 ls [])) → ∀ (H : Heap) (locs : List Loc), va_P (dC, dI) vwCl [(h_p1, .inr (1, fX1 h_p1_surfaces h_p1_cliffs h_p1_boulders h_p1_scratches h_p1_numbers h_p1_facts h_p1_signs h_p1_areas h_p1_heights p1_ridges)), (h_p1_scratches, .inr (4, fX4 p1_scratches_limit h_p1_scratches_cells p1_scratches_size)), (h_p1_scratches_cells, .inl (cI, n_p1_scratches_cells, .inl p1_scratches_cells)), (h_p1_surfaces, .inl (cI, 192, .inl p1_surfaces)), (h_p1_numbers, .inl (cI, 6, .inl p1_numbers))] H → va_D A [(h_p1, .inr (1, fX1 h_p1_surfaces h_p1_cliffs h_p1_boulders h_p1_scratches h_p1_numbers h_p1_facts h_p1_signs h_p1_areas h_p1_heights p1_ridges)), (h_p1_scratches, .inr (4, fX4 p1_scratches_limit h_p1_scratches_cells p1_scratches_size)), (h_p1_scratches_cells, .inl (cI, n_p1_scratches_cells, .inl p1_scratches_cells)), (h_p1_surfaces, .inl (cI, 192, .inl p1_surfaces)), (h_p1_numbers, .inl (cI, 6, .inl p1_numbers))] → va_S A s.heap H locs → ∀ ls : Array Slot, lv_has ls 3 [(0, .ref h_p1), (1, .int x14), (2, .int x15)] → W p l e rmX5_rows s m args below meth c H locs 0 0 Q (F0 m 4 ls []) := by
    intro fu17
    induction fu17 with
    | zero =>
      intro x14 x15 x13 hf
      unfold f_X5_rows_L1 at hf
      exact none_ne hf
    | succ fu17 ih16 =>
      intro x14 x15 x13 hf hX18 H locs hP hD hS ls hl
      unfold f_X5_rows_L1 at hf
      refine lv_iload_n hx hb dX5_rows_4 rfl (lv_at hl 2 rfl) ?_
      refine lv_aload_n hx hb dX5_rows_5 rfl (lv_at hl 0 rfl) ?_
      refine va_get (D := (dC, dI)) (ci := 1) (v := .ref h_p1_scratches) (C := RX1) (T := TX1) (N := 10) hx hb hts (in1 tw_X1) hown hK hP 0 rfl rfl 3 (by decide) (hts _ (List.mem_cons_of_mem _ kw_591)) (fun _ h9 => h9) rfl dX5_rows_6 ?_
      obtain ⟨r19, hg20, hf⟩ := bd1_some hf
      refine CM_callV (C := RX4) (As := []) (rest := [.int x15]) (wc := [(h_p1_scratches, .inr (4, fX4 p1_scratches_limit h_p1_scratches_cells p1_scratches_size))]) (w1 := [(h_p1_scratches, .inr (4, fX4 p1_scratches_limit h_p1_scratches_cells p1_scratches_size))]) (wr := [(h_p1, .inr (1, fX1 h_p1_surfaces h_p1_cliffs h_p1_boulders h_p1_scratches h_p1_numbers h_p1_facts h_p1_signs h_p1_areas h_p1_heights p1_ridges)), (h_p1_scratches_cells, .inl (cI, n_p1_scratches_cells, .inl p1_scratches_cells)), (h_p1_surfaces, .inl (cI, 192, .inl p1_surfaces)), (h_p1_numbers, .inl (cI, 6, .inl p1_numbers))]) (wo := [(h_p1, .inr (1, fX1 h_p1_surfaces h_p1_cliffs h_p1_boulders h_p1_scratches h_p1_numbers h_p1_facts h_p1_signs h_p1_areas h_p1_heights p1_ridges)), (h_p1_scratches, .inr (4, fX4 p1_scratches_limit h_p1_scratches_cells p1_scratches_size)), (h_p1_scratches_cells, .inl (cI, n_p1_scratches_cells, .inl p1_scratches_cells)), (h_p1_surfaces, .inl (cI, 192, .inl p1_surfaces)), (h_p1_numbers, .inl (cI, 6, .inl p1_numbers))]) (v := (some (.int r19))) ⟨hx, hb, hml, hown, hts⟩ (c_X4_size l dC dI cI cZ te h_p1_scratches h_p1_scratches_cells p1_scratches_limit p1_scratches_size r19 hg20) (cwV 0 hts (gV kw_605 kw_404 kw_405 kw_19 kw_406) rfl rfl rfl (by decide +kernel) ⟨Nat.le_of_ble_eq_true rfl, Nat.le_of_ble_eq_true rfl⟩) (kS_env te) hK hP hD hS hA hE [1] [0, 2, 3, 4] [0, 4, 1, 2, 3] rfl rfl (by decide) (by decide) (by decide) (by decide) rfl 1 4 rfl rfl rfl rfl hl.1 rfl (Nat.le_of_ble_eq_true rfl) dX5_rows_9 ⟨Nat.zero_le _, Nat.zero_le _⟩ (fun H locs hP hD hS => ?_)
      show W p l e rmX5_rows s m args below meth c H locs 0 0 Q (F0 m 12 ls [.int r19, .int x15])
      refine lv_icmp_ge (tgt := 37) hx hb dX5_rows_12 (by decide) (fun c21 => ?_) (fun c21 => ?_)
      · replace hf := ifp c21 hf
        obtain rfl := inj1 hf
        exact hX18 _ _ hP hD hS _ (lv_sub hl [1] rfl)
      · replace hf := ifn c21 hf
        refine lv_aload_n hx hb dX5_rows_15 rfl (lv_at hl 0 rfl) ?_
        refine lv_iload_n hx hb dX5_rows_16 rfl (lv_at hl 2 rfl) ?_
        obtain ⟨r22, hg23, hf⟩ := bd1_some hf
        refine CM_callS (As := [.ref h_p1, .int x15]) (rest := []) (wc := [(h_p1, .inr (1, fX1 h_p1_surfaces h_p1_cliffs h_p1_boulders h_p1_scratches h_p1_numbers h_p1_facts h_p1_signs h_p1_areas h_p1_heights p1_ridges)), (h_p1_scratches, .inr (4, fX4 p1_scratches_limit h_p1_scratches_cells p1_scratches_size)), (h_p1_scratches_cells, .inl (cI, n_p1_scratches_cells, .inl p1_scratches_cells))]) (w1 := [(h_p1, .inr (1, fX1 h_p1_surfaces h_p1_cliffs h_p1_boulders h_p1_scratches h_p1_numbers h_p1_facts h_p1_signs h_p1_areas h_p1_heights p1_ridges)), (h_p1_scratches, .inr (4, fX4 p1_scratches_limit h_p1_scratches_cells p1_scratches_size)), (h_p1_scratches_cells, .inl (cI, n_p1_scratches_cells, .inl p1_scratches_cells))]) (wr := [(h_p1_surfaces, .inl (cI, 192, .inl p1_surfaces)), (h_p1_numbers, .inl (cI, 6, .inl p1_numbers))]) (wo := [(h_p1, .inr (1, fX1 h_p1_surfaces h_p1_cliffs h_p1_boulders h_p1_scratches h_p1_numbers h_p1_facts h_p1_signs h_p1_areas h_p1_heights p1_ridges)), (h_p1_scratches, .inr (4, fX4 p1_scratches_limit h_p1_scratches_cells p1_scratches_size)), (h_p1_scratches_cells, .inl (cI, n_p1_scratches_cells, .inl p1_scratches_cells)), (h_p1_surfaces, .inl (cI, 192, .inl p1_surfaces)), (h_p1_numbers, .inl (cI, 6, .inl p1_numbers))]) (v := (some (.int r22))) ⟨hx, hb, hml, hown, hts⟩ (c_X5_isFirstAtItsPlace l dC dI cI cZ te h_p1 h_p1_surfaces h_p1_cliffs h_p1_boulders h_p1_scratches h_p1_numbers h_p1_facts h_p1_signs h_p1_areas h_p1_heights h_p1_scratches_cells p1_ridges p1_scratches_limit p1_scratches_size n_p1_scratches_cells p1_scratches_cells x15 r22 hg23) (va_cwS 2 hts (gS kw_609 kw_610 kw_599 kw_611) rfl rfl rfl (by decide +kernel) ⟨Nat.le_of_ble_eq_true rfl, Nat.le_of_ble_eq_true rfl⟩) (kS_env te) hK hP hD hS hA hE [0, 1, 2] [3, 4] [2, 3, 4, 0, 1] rfl rfl (by decide) (by decide) (by decide) (by decide) rfl rfl hl.1 rfl (Nat.le_of_ble_eq_true rfl) dX5_rows_17 ⟨Nat.zero_le _, Nat.zero_le _⟩ (fun H locs hP hD hS => ?_)
        show W p l e rmX5_rows s m args below meth c H locs 0 0 Q (F0 m 20 ls [.int r22])
        refine lv_if_eq (tgt := 31) hx hb dX5_rows_20 (by decide) (fun c24 => ?_) (fun c24 => ?_)
        · replace hf := ifp c24 hf
          refine lv_iinc (v := (x15 + (1 : Int32))) (lv' := [(2, .int (x15 + (1 : Int32))), (0, .ref h_p1), (1, .int x14)]) hx hb dX5_rows_31 hl (k := 2) rfl rfl (by decide) rfl (fun ls hl => ?_)
          refine lv_goto (tgt := 4) hx hb dX5_rows_34 (by decide) ?_
          exact ih16 _ _ _ hf hX18 _ _ hP hD hS _ (lv_sub hl [1, 2, 0] rfl)
        · replace hf := ifn c24 hf
          refine lv_iload_n hx hb dX5_rows_23 rfl (lv_at hl 1 rfl) ?_
          refine lv_aload_n hx hb dX5_rows_24 rfl (lv_at hl 0 rfl) ?_
          refine lv_iload_n hx hb dX5_rows_25 rfl (lv_at hl 2 rfl) ?_
          obtain ⟨r25, hg26, hf⟩ := bd1_some hf
          refine CM_callS (As := [.ref h_p1, .int x15]) (rest := [.int x14]) (wc := [(h_p1, .inr (1, fX1 h_p1_surfaces h_p1_cliffs h_p1_boulders h_p1_scratches h_p1_numbers h_p1_facts h_p1_signs h_p1_areas h_p1_heights p1_ridges)), (h_p1_scratches, .inr (4, fX4 p1_scratches_limit h_p1_scratches_cells p1_scratches_size)), (h_p1_scratches_cells, .inl (cI, n_p1_scratches_cells, .inl p1_scratches_cells)), (h_p1_surfaces, .inl (cI, 192, .inl p1_surfaces)), (h_p1_numbers, .inl (cI, 6, .inl p1_numbers))]) (w1 := [(h_p1, .inr (1, fX1 h_p1_surfaces h_p1_cliffs h_p1_boulders h_p1_scratches h_p1_numbers h_p1_facts h_p1_signs h_p1_areas h_p1_heights p1_ridges)), (h_p1_scratches, .inr (4, fX4 p1_scratches_limit h_p1_scratches_cells p1_scratches_size)), (h_p1_scratches_cells, .inl (cI, n_p1_scratches_cells, .inl p1_scratches_cells)), (h_p1_surfaces, .inl (cI, 192, .inl p1_surfaces)), (h_p1_numbers, .inl (cI, 6, .inl p1_numbers))]) (wr := []) (wo := [(h_p1, .inr (1, fX1 h_p1_surfaces h_p1_cliffs h_p1_boulders h_p1_scratches h_p1_numbers h_p1_facts h_p1_signs h_p1_areas h_p1_heights p1_ridges)), (h_p1_scratches, .inr (4, fX4 p1_scratches_limit h_p1_scratches_cells p1_scratches_size)), (h_p1_scratches_cells, .inl (cI, n_p1_scratches_cells, .inl p1_scratches_cells)), (h_p1_surfaces, .inl (cI, 192, .inl p1_surfaces)), (h_p1_numbers, .inl (cI, 6, .inl p1_numbers))]) (v := (some (.int r25))) ⟨hx, hb, hml, hown, hts⟩ (c_X5_rowsAtPlaceOf l dC dI cI cZ te h_p1 h_p1_surfaces h_p1_cliffs h_p1_boulders h_p1_scratches h_p1_numbers h_p1_facts h_p1_signs h_p1_areas h_p1_heights h_p1_scratches_cells p1_ridges p1_scratches_limit p1_scratches_size n_p1_scratches_cells p1_scratches_cells p1_surfaces p1_numbers x15 r25 hg26) (va_cwS 2 hts (gS kw_612 kw_613 kw_599 kw_614) rfl rfl rfl (by decide +kernel) ⟨Nat.le_of_ble_eq_true rfl, Nat.le_of_ble_eq_true rfl⟩) (kS_env te) hK hP hD hS hA hE [0, 1, 2, 3, 4] [] [0, 1, 2, 3, 4] rfl rfl (by decide) (by decide) (by decide) (by decide) rfl rfl hl.1 rfl (Nat.le_of_ble_eq_true rfl) dX5_rows_26 ⟨Nat.zero_le _, Nat.zero_le _⟩ (fun H locs hP hD hS => ?_)
          show W p l e rmX5_rows s m args below meth c H locs 0 0 Q (F0 m 29 ls [.int r25, .int x14])
          refine lv_imul hx hb dX5_rows_29 ?_
          obtain ⟨x27, e28, hf⟩ := nm_some hf
          refine lv_tope e28 ?_
          refine lv_istore_n (lv' := [(1, .int x27), (0, .ref h_p1), (2, .int x15)]) hx hb dX5_rows_30 rfl hl (by decide) rfl (fun ls hl => ?_)
          refine lv_iinc (v := (x15 + (1 : Int32))) (lv' := [(2, .int (x15 + (1 : Int32))), (1, .int x27), (0, .ref h_p1)]) hx hb dX5_rows_31 hl (k := 2) rfl rfl (by decide) rfl (fun ls hl => ?_)
          refine lv_goto (tgt := 4) hx hb dX5_rows_34 (by decide) ?_
          exact ih16 _ _ _ hf hX18 _ _ hP hD hS _ (lv_sub hl [2, 1, 0] rfl)
  obtain ⟨x13, hg, hf⟩ := bd1_some hf
  refine L29 FU _ _ _ hg ?_ _ _ hP hD hS _ (lv_sub hl [2, 1, 0] rfl)
  · intro H locs hP hD hS ls hl
    refine lv_iload_n hx hb dX5_rows_37 rfl (lv_at hl 0 rfl) ?_
    obtain rfl := inj1 hf
    subst hQ
    exact CM_iret hx hb hr rfl hlocks hAe hP hD hS dX5_rows_38
def rmX5_stageInFirstRow : Room := { frames := 5, cells := 0, slots := 0, locals := 124 }
abbrev wqX5_stageInFirstRow : List Cond := Cond.code yX5_stageInFirstRow cX5_stageInFirstRow 5 (some .int) :: tG
set_option maxHeartbeats 4000000 in
set_option maxRecDepth 100000 in
theorem c_X5_stageInFirstRow (l : Launch) (dC : Nat → ClassId) (dI : Nat → Nat → Nat) (cI cZ : ClassId) (te : Nat → Nat) (h_p1 : Nat) (h_p1_surfaces : Nat) (h_p1_cliffs : Nat) (h_p1_boulders : Nat) (h_p1_scratches : Nat) (h_p1_numbers : Nat) (h_p1_facts : Nat) (h_p1_signs : Nat) (h_p1_areas : Nat) (h_p1_heights : Nat) (h_p1_scratches_cells : Nat) (p1_ridges : Int32) (p1_scratches_limit : Int32) (p1_scratches_size : Int32) (n_p1_scratches_cells : Nat) (p1_scratches_cells : Nat → Int32) (p1_surfaces : Nat → Int32) (p1_numbers : Nat → Int32) (p2 : Int32) (o0 : Int32) (hf : f_X5_stageInFirstRow p1_scratches_size n_p1_scratches_cells p1_scratches_cells p1_surfaces p1_numbers p2 = some o0) : CM l yX5_stageInFirstRow wqX5_stageInFirstRow rmX5_stageInFirstRow (kS te) dC dI cI cZ [.ref h_p1, .int p2] [(h_p1, .inr (1, fX1 h_p1_surfaces h_p1_cliffs h_p1_boulders h_p1_scratches h_p1_numbers h_p1_facts h_p1_signs h_p1_areas h_p1_heights p1_ridges)), (h_p1_scratches, .inr (4, fX4 p1_scratches_limit h_p1_scratches_cells p1_scratches_size)), (h_p1_scratches_cells, .inl (cI, n_p1_scratches_cells, .inl p1_scratches_cells)), (h_p1_surfaces, .inl (cI, 192, .inl p1_surfaces)), (h_p1_numbers, .inl (cI, 6, .inl p1_numbers))] [(h_p1, .inr (1, fX1 h_p1_surfaces h_p1_cliffs h_p1_boulders h_p1_scratches h_p1_numbers h_p1_facts h_p1_signs h_p1_areas h_p1_heights p1_ridges)), (h_p1_scratches, .inr (4, fX4 p1_scratches_limit h_p1_scratches_cells p1_scratches_size)), (h_p1_scratches_cells, .inl (cI, n_p1_scratches_cells, .inl p1_scratches_cells)), (h_p1_surfaces, .inl (cI, 192, .inl p1_surfaces)), (h_p1_numbers, .inl (cI, 6, .inl p1_numbers))] (some (.int o0)) := by
  refine CM_of (cc := cX5_stageInFirstRow) (maxL := 5) (ret := (some .int)) (by decide +kernel) rfl (Nat.le_of_ble_eq_true rfl) ?_
  intro p e s m args below meth c A Q hx hb hr hml hown hts hlocks hA hK hP hD hS hE hQ hAe ls hl
  have hown : s.vm.findClass RX5 = some m.cls := hown
  have hl : lv_has ls 5 [(0, .ref h_p1), (1, .int p2)] := hl
  unfold f_X5_stageInFirstRow at hf
  refine lv_aload_n hx hb dX5_stageInFirstRow_0 rfl (lv_at hl 0 rfl) ?_
  obtain ⟨r1, hg2, hf⟩ := bd1_some hf
  refine CM_callS (As := [.ref h_p1]) (rest := []) (wc := [(h_p1, .inr (1, fX1 h_p1_surfaces h_p1_cliffs h_p1_boulders h_p1_scratches h_p1_numbers h_p1_facts h_p1_signs h_p1_areas h_p1_heights p1_ridges)), (h_p1_scratches, .inr (4, fX4 p1_scratches_limit h_p1_scratches_cells p1_scratches_size)), (h_p1_scratches_cells, .inl (cI, n_p1_scratches_cells, .inl p1_scratches_cells)), (h_p1_surfaces, .inl (cI, 192, .inl p1_surfaces)), (h_p1_numbers, .inl (cI, 6, .inl p1_numbers))]) (w1 := [(h_p1, .inr (1, fX1 h_p1_surfaces h_p1_cliffs h_p1_boulders h_p1_scratches h_p1_numbers h_p1_facts h_p1_signs h_p1_areas h_p1_heights p1_ridges)), (h_p1_scratches, .inr (4, fX4 p1_scratches_limit h_p1_scratches_cells p1_scratches_size)), (h_p1_scratches_cells, .inl (cI, n_p1_scratches_cells, .inl p1_scratches_cells)), (h_p1_surfaces, .inl (cI, 192, .inl p1_surfaces)), (h_p1_numbers, .inl (cI, 6, .inl p1_numbers))]) (wr := []) (wo := [(h_p1, .inr (1, fX1 h_p1_surfaces h_p1_cliffs h_p1_boulders h_p1_scratches h_p1_numbers h_p1_facts h_p1_signs h_p1_areas h_p1_heights p1_ridges)), (h_p1_scratches, .inr (4, fX4 p1_scratches_limit h_p1_scratches_cells p1_scratches_size)), (h_p1_scratches_cells, .inl (cI, n_p1_scratches_cells, .inl p1_scratches_cells)), (h_p1_surfaces, .inl (cI, 192, .inl p1_surfaces)), (h_p1_numbers, .inl (cI, 6, .inl p1_numbers))]) (v := (some (.int r1))) ⟨hx, hb, hml, hown, hts⟩ (c_X5_rows l dC dI cI cZ te h_p1 h_p1_surfaces h_p1_cliffs h_p1_boulders h_p1_scratches h_p1_numbers h_p1_facts h_p1_signs h_p1_areas h_p1_heights h_p1_scratches_cells p1_ridges p1_scratches_limit p1_scratches_size n_p1_scratches_cells p1_scratches_cells p1_surfaces p1_numbers r1 hg2) (va_cwS 1 hts (gS kw_615 kw_616 kw_599 kw_617) rfl rfl rfl (by decide +kernel) ⟨Nat.le_of_ble_eq_true rfl, Nat.le_of_ble_eq_true rfl⟩) (kS_env te) hK hP hD hS hA hE [0, 1, 2, 3, 4] [] [0, 1, 2, 3, 4] rfl rfl (by decide) (by decide) (by decide) (by decide) rfl rfl hl.1 rfl (Nat.le_of_ble_eq_true rfl) dX5_stageInFirstRow_1 ⟨Nat.zero_le _, Nat.zero_le _⟩ (fun H locs hP hD hS => ?_)
  show W p l e rmX5_stageInFirstRow s m args below meth c H locs 0 0 Q (F0 m 4 ls [.int r1])
  refine lv_if_ne (tgt := 9) hx hb dX5_stageInFirstRow_4 (by decide) (fun c3 => ?_) (fun c3 => ?_)
  · replace hf := ifn c3 hf
    refine lv_iconst (v := (0 : Int32)) hx hb dX5_stageInFirstRow_9 (by decide) ?_
    refine lv_istore_n (lv' := [(2, .int (0 : Int32)), (0, .ref h_p1), (1, .int p2)]) hx hb dX5_stageInFirstRow_10 rfl hl (by decide) rfl (fun ls hl => ?_)
    refine lv_iconst (v := (0 : Int32)) hx hb dX5_stageInFirstRow_11 (by decide) ?_
    refine lv_istore_n (lv' := [(3, .int (0 : Int32)), (2, .int (0 : Int32)), (0, .ref h_p1), (1, .int p2)]) hx hb dX5_stageInFirstRow_12 rfl hl (by decide) rfl (fun ls hl => ?_)
    have L36 : ∀ (fu22 : Nat) (x19 : Int32) (x20 : Int32) (x18 : Int32), f_X5_stageInFirstRow_L1 p2 p1_scratches_size n_p1_scratches_cells p1_scratches_cells p1_surfaces p1_numbers fu22 x19 x20 = some x18 → (∀ (H : Heap) (locs : List Loc), va_P (dC, dI) vwCl [(h_p1, .inr (1, fX1 h_p1_surfaces h_p1_cliffs h_p1_boulders h_p1_scratches h_p1_numbers h_p1_facts h_p1_signs h_p1_areas h_p1_heights p1_ridges)), (h_p1_scratches, .inr (4, fX4 p1_scratches_limit h_p1_scratches_cells p1_scratches_size)), (h_p1_scratches_cells, .inl (cI, n_p1_scratches_cells, .inl p1_scratches_cells)), (h_p1_surfaces, .inl (cI, 192, .inl p1_surfaces)), (h_p1_numbers, .inl (cI, 6, .inl p1_numbers))] H → va_D A [(h_p1, .inr (1, fX1 h_p1_surfaces h_p1_cliffs h_p1_boulders h_p1_scratches h_p1_numbers h_p1_facts h_p1_signs h_p1_areas h_p1_heights p1_ridges)), (h_p1_scratches, .inr (4, fX4 p1_scratches_limit h_p1_scratches_cells p1_scratches_size)), (h_p1_scratches_cells, .inl (cI, n_p1_scratches_cells, .inl p1_scratches_cells)), (h_p1_surfaces, .inl (cI, 192, .inl p1_surfaces)), (h_p1_numbers, .inl (cI, 6, .inl p1_numbers))] → va_S A s.heap H locs → ∀ ls : Array Slot, lv_has ls 5 [(2, .int x18)] → W p l e rmX5_stageInFirstRow s m args below meth c H locs 0 0 Q (F0 m 54 ls [])) → ∀ (H : Heap) (locs : List Loc), va_P (dC, dI) vwCl [(h_p1, .inr (1, fX1 h_p1_surfaces h_p1_cliffs h_p1_boulders h_p1_scratches h_p1_numbers h_p1_facts h_p1_signs h_p1_areas h_p1_heights p1_ridges)), (h_p1_scratches, .inr (4, fX4 p1_scratches_limit h_p1_scratches_cells p1_scratches_size)), (h_p1_scratches_cells, .inl (cI, n_p1_scratches_cells, .inl p1_scratches_cells)), (h_p1_surfaces, .inl (cI, 192, .inl p1_surfaces)), (h_p1_numbers, .inl (cI, 6, .inl p1_numbers))] H → va_D A [(h_p1, .inr (1, fX1 h_p1_surfaces h_p1_cliffs h_p1_boulders h_p1_scratches h_p1_numbers h_p1_facts h_p1_signs h_p1_areas h_p1_heights p1_ridges)), (h_p1_scratches, .inr (4, fX4 p1_scratches_limit h_p1_scratches_cells p1_scratches_size)), (h_p1_scratches_cells, .inl (cI, n_p1_scratches_cells, .inl p1_scratches_cells)), (h_p1_surfaces, .inl (cI, 192, .inl p1_surfaces)), (h_p1_numbers, .inl (cI, 6, .inl p1_numbers))] → va_S A s.heap H locs → ∀ ls : Array Slot, lv_has ls 5 [(0, .ref h_p1), (1, .int p2), (2, .int x19), (3, .int x20)] → W p l e rmX5_stageInFirstRow s m args below meth c H locs 0 0 Q (F0 m 13 ls []) := by
      intro fu22
      induction fu22 with
      | zero =>
        intro x19 x20 x18 hf
        unfold f_X5_stageInFirstRow_L1 at hf
        exact none_ne hf
      | succ fu22 ih21 =>
        intro x19 x20 x18 hf hX23 H locs hP hD hS ls hl
        unfold f_X5_stageInFirstRow_L1 at hf
        refine lv_iload_n hx hb dX5_stageInFirstRow_13 rfl (lv_at hl 3 rfl) ?_
        refine lv_iload_n hx hb dX5_stageInFirstRow_14 rfl (lv_at hl 1 rfl) ?_
        refine lv_icmp_gt (tgt := 54) hx hb dX5_stageInFirstRow_15 (by decide) (fun c24 => ?_) (fun c24 => ?_)
        · replace hf := ifp c24 hf
          obtain rfl := inj1 hf
          exact hX23 _ _ hP hD hS _ (lv_sub hl [2] rfl)
        · replace hf := ifn c24 hf
          refine lv_aload_n hx hb dX5_stageInFirstRow_18 rfl (lv_at hl 0 rfl) ?_
          refine lv_iload_n hx hb dX5_stageInFirstRow_19 rfl (lv_at hl 3 rfl) ?_
          refine lv_iload_n hx hb dX5_stageInFirstRow_20 rfl (lv_at hl 1 rfl) ?_
          obtain ⟨r25, hg26, hf⟩ := bd1_some hf
          refine CM_callS (As := [.ref h_p1, .int x20, .int p2]) (rest := []) (wc := [(h_p1, .inr (1, fX1 h_p1_surfaces h_p1_cliffs h_p1_boulders h_p1_scratches h_p1_numbers h_p1_facts h_p1_signs h_p1_areas h_p1_heights p1_ridges)), (h_p1_scratches, .inr (4, fX4 p1_scratches_limit h_p1_scratches_cells p1_scratches_size)), (h_p1_scratches_cells, .inl (cI, n_p1_scratches_cells, .inl p1_scratches_cells))]) (w1 := [(h_p1, .inr (1, fX1 h_p1_surfaces h_p1_cliffs h_p1_boulders h_p1_scratches h_p1_numbers h_p1_facts h_p1_signs h_p1_areas h_p1_heights p1_ridges)), (h_p1_scratches, .inr (4, fX4 p1_scratches_limit h_p1_scratches_cells p1_scratches_size)), (h_p1_scratches_cells, .inl (cI, n_p1_scratches_cells, .inl p1_scratches_cells))]) (wr := [(h_p1_surfaces, .inl (cI, 192, .inl p1_surfaces)), (h_p1_numbers, .inl (cI, 6, .inl p1_numbers))]) (wo := [(h_p1, .inr (1, fX1 h_p1_surfaces h_p1_cliffs h_p1_boulders h_p1_scratches h_p1_numbers h_p1_facts h_p1_signs h_p1_areas h_p1_heights p1_ridges)), (h_p1_scratches, .inr (4, fX4 p1_scratches_limit h_p1_scratches_cells p1_scratches_size)), (h_p1_scratches_cells, .inl (cI, n_p1_scratches_cells, .inl p1_scratches_cells)), (h_p1_surfaces, .inl (cI, 192, .inl p1_surfaces)), (h_p1_numbers, .inl (cI, 6, .inl p1_numbers))]) (v := (some (.int r25))) ⟨hx, hb, hml, hown, hts⟩ (c_X5_areAtOnePlace l dC dI cI cZ te h_p1 h_p1_surfaces h_p1_cliffs h_p1_boulders h_p1_scratches h_p1_numbers h_p1_facts h_p1_signs h_p1_areas h_p1_heights h_p1_scratches_cells p1_ridges p1_scratches_limit p1_scratches_size n_p1_scratches_cells p1_scratches_cells x20 p2 r25 hg26) (va_cwS 3 hts (gS kw_602 kw_603 kw_599 kw_604) rfl rfl rfl (by decide +kernel) ⟨Nat.le_of_ble_eq_true rfl, Nat.le_of_ble_eq_true rfl⟩) (kS_env te) hK hP hD hS hA hE [0, 1, 2] [3, 4] [2, 3, 4, 0, 1] rfl rfl (by decide) (by decide) (by decide) (by decide) rfl rfl hl.1 rfl (Nat.le_of_ble_eq_true rfl) dX5_stageInFirstRow_21 ⟨Nat.zero_le _, Nat.zero_le _⟩ (fun H locs hP hD hS => ?_)
          show W p l e rmX5_stageInFirstRow s m args below meth c H locs 0 0 Q (F0 m 24 ls [.int r25])
          refine lv_if_eq (tgt := 48) hx hb dX5_stageInFirstRow_24 (by decide) (fun c27 => ?_) (fun c27 => ?_)
          · replace hf := ifp c27 hf
            refine lv_iinc (v := (x20 + (1 : Int32))) (lv' := [(3, .int (x20 + (1 : Int32))), (0, .ref h_p1), (1, .int p2), (2, .int x19)]) hx hb dX5_stageInFirstRow_48 hl (k := 3) rfl rfl (by decide) rfl (fun ls hl => ?_)
            refine lv_goto (tgt := 13) hx hb dX5_stageInFirstRow_51 (by decide) ?_
            exact ih21 _ _ _ hf hX23 _ _ hP hD hS _ (lv_sub hl [1, 2, 3, 0] rfl)
          · replace hf := ifn c27 hf
            refine lv_aload_n hx hb dX5_stageInFirstRow_27 rfl (lv_at hl 0 rfl) ?_
            refine lv_iload_n hx hb dX5_stageInFirstRow_28 rfl (lv_at hl 3 rfl) ?_
            obtain ⟨r28, hg29, hf⟩ := bd1_some hf
            refine CM_callS (As := [.ref h_p1, .int x20]) (rest := []) (wc := [(h_p1, .inr (1, fX1 h_p1_surfaces h_p1_cliffs h_p1_boulders h_p1_scratches h_p1_numbers h_p1_facts h_p1_signs h_p1_areas h_p1_heights p1_ridges)), (h_p1_scratches, .inr (4, fX4 p1_scratches_limit h_p1_scratches_cells p1_scratches_size)), (h_p1_scratches_cells, .inl (cI, n_p1_scratches_cells, .inl p1_scratches_cells)), (h_p1_surfaces, .inl (cI, 192, .inl p1_surfaces)), (h_p1_numbers, .inl (cI, 6, .inl p1_numbers))]) (w1 := [(h_p1, .inr (1, fX1 h_p1_surfaces h_p1_cliffs h_p1_boulders h_p1_scratches h_p1_numbers h_p1_facts h_p1_signs h_p1_areas h_p1_heights p1_ridges)), (h_p1_scratches, .inr (4, fX4 p1_scratches_limit h_p1_scratches_cells p1_scratches_size)), (h_p1_scratches_cells, .inl (cI, n_p1_scratches_cells, .inl p1_scratches_cells)), (h_p1_surfaces, .inl (cI, 192, .inl p1_surfaces)), (h_p1_numbers, .inl (cI, 6, .inl p1_numbers))]) (wr := []) (wo := [(h_p1, .inr (1, fX1 h_p1_surfaces h_p1_cliffs h_p1_boulders h_p1_scratches h_p1_numbers h_p1_facts h_p1_signs h_p1_areas h_p1_heights p1_ridges)), (h_p1_scratches, .inr (4, fX4 p1_scratches_limit h_p1_scratches_cells p1_scratches_size)), (h_p1_scratches_cells, .inl (cI, n_p1_scratches_cells, .inl p1_scratches_cells)), (h_p1_surfaces, .inl (cI, 192, .inl p1_surfaces)), (h_p1_numbers, .inl (cI, 6, .inl p1_numbers))]) (v := (some (.int r28))) ⟨hx, hb, hml, hown, hts⟩ (c_X5_stagesOf l dC dI cI cZ te h_p1 h_p1_surfaces h_p1_cliffs h_p1_boulders h_p1_scratches h_p1_numbers h_p1_facts h_p1_signs h_p1_areas h_p1_heights h_p1_scratches_cells p1_ridges p1_scratches_limit p1_scratches_size n_p1_scratches_cells p1_scratches_cells p1_surfaces p1_numbers x20 r28 hg29) (va_cwS 2 hts (gS kw_606 kw_607 kw_599 kw_608) rfl rfl rfl (by decide +kernel) ⟨Nat.le_of_ble_eq_true rfl, Nat.le_of_ble_eq_true rfl⟩) (kS_env te) hK hP hD hS hA hE [0, 1, 2, 3, 4] [] [0, 1, 2, 3, 4] rfl rfl (by decide) (by decide) (by decide) (by decide) rfl rfl hl.1 rfl (Nat.le_of_ble_eq_true rfl) dX5_stageInFirstRow_29 ⟨Nat.zero_le _, Nat.zero_le _⟩ (fun H locs hP hD hS => ?_)
            show W p l e rmX5_stageInFirstRow s m args below meth c H locs 0 0 Q (F0 m 32 ls [.int r28])
            refine lv_iload_n hx hb dX5_stageInFirstRow_32 rfl (lv_at hl 2 rfl) ?_
            refine lv_ishr hx hb dX5_stageInFirstRow_33 ?_
            refine lv_iload_n hx hb dX5_stageInFirstRow_34 rfl (lv_at hl 2 rfl) ?_
            refine lv_ishl hx hb dX5_stageInFirstRow_35 ?_
            obtain ⟨x30, e31, hf⟩ := nm_some hf
            refine lv_tope e31 ?_
            refine lv_istore (lv' := [(4, .int x30), (0, .ref h_p1), (1, .int p2), (2, .int x19), (3, .int x20)]) hx hb dX5_stageInFirstRow_36 hl (by decide) rfl (fun ls hl => ?_)
            refine lv_iconst (v := (2 : Int32)) hx hb dX5_stageInFirstRow_38 (by decide) ?_
            refine lv_iload hx hb dX5_stageInFirstRow_39 (lv_at hl 0 rfl) ?_
            obtain ⟨r32, hg33, hf⟩ := bd1_some hf
            refine CM_callS (As := [.int x30]) (rest := [.int (2 : Int32)]) (wc := []) (w1 := []) (wr := [(h_p1, .inr (1, fX1 h_p1_surfaces h_p1_cliffs h_p1_boulders h_p1_scratches h_p1_numbers h_p1_facts h_p1_signs h_p1_areas h_p1_heights p1_ridges)), (h_p1_scratches, .inr (4, fX4 p1_scratches_limit h_p1_scratches_cells p1_scratches_size)), (h_p1_scratches_cells, .inl (cI, n_p1_scratches_cells, .inl p1_scratches_cells)), (h_p1_surfaces, .inl (cI, 192, .inl p1_surfaces)), (h_p1_numbers, .inl (cI, 6, .inl p1_numbers))]) (wo := [(h_p1, .inr (1, fX1 h_p1_surfaces h_p1_cliffs h_p1_boulders h_p1_scratches h_p1_numbers h_p1_facts h_p1_signs h_p1_areas h_p1_heights p1_ridges)), (h_p1_scratches, .inr (4, fX4 p1_scratches_limit h_p1_scratches_cells p1_scratches_size)), (h_p1_scratches_cells, .inl (cI, n_p1_scratches_cells, .inl p1_scratches_cells)), (h_p1_surfaces, .inl (cI, 192, .inl p1_surfaces)), (h_p1_numbers, .inl (cI, 6, .inl p1_numbers))]) (v := (some (.int r32))) ⟨hx, hb, hml, hown, hts⟩ (c_J6_numberOfTrailingZeros_0f7a4 l dC dI cI cZ te x30 r32 hg33) (va_cwS 1 hts (gS kw_618 kw_441 kw_442 kw_443) rfl rfl rfl (by decide +kernel) ⟨Nat.le_of_ble_eq_true rfl, Nat.le_of_ble_eq_true rfl⟩) (kS_env te) hK hP hD hS hA hE [] [0, 1, 2, 3, 4] [0, 1, 2, 3, 4] rfl rfl (by decide) (by decide) (by decide) (by decide) rfl rfl hl.1 rfl (Nat.le_of_ble_eq_true rfl) dX5_stageInFirstRow_41 ⟨Nat.zero_le _, Nat.zero_le _⟩ (fun H locs hP hD hS => ?_)
            show W p l e rmX5_stageInFirstRow s m args below meth c H locs 0 0 Q (F0 m 44 ls [.int r32, .int (2 : Int32)])
            refine va_mmin hx hb (hml.trans hl.1.symm) hown (hts _ (List.mem_cons_of_mem _ kw_590)) (hts _ (List.mem_cons_of_mem _ kw_4)) (hts _ (List.mem_cons_of_mem _ kw_5)) (hts _ (List.mem_cons_of_mem _ kw_6)) (Nat.le_of_ble_eq_true rfl) (Nat.le_of_ble_eq_true rfl) (Nat.zero_le _) (Nat.zero_le _) dX5_stageInFirstRow_44 ?_
            obtain ⟨x34, e35, hf⟩ := nm_some hf
            refine lv_tope e35 ?_
            refine lv_istore_n (lv' := [(2, .int x34), (4, .int x30), (0, .ref h_p1), (1, .int p2), (3, .int x20)]) hx hb dX5_stageInFirstRow_47 rfl hl (by decide) rfl (fun ls hl => ?_)
            refine lv_iinc (v := (x20 + (1 : Int32))) (lv' := [(3, .int (x20 + (1 : Int32))), (2, .int x34), (4, .int x30), (0, .ref h_p1), (1, .int p2)]) hx hb dX5_stageInFirstRow_48 hl (k := 4) rfl rfl (by decide) rfl (fun ls hl => ?_)
            refine lv_goto (tgt := 13) hx hb dX5_stageInFirstRow_51 (by decide) ?_
            exact ih21 _ _ _ hf hX23 _ _ hP hD hS _ (lv_sub hl [3, 4, 1, 0] rfl)
    obtain ⟨x18, hg, hf⟩ := bd1_some hf
    refine L36 FU _ _ _ hg ?_ _ _ hP hD hS _ (lv_sub hl [2, 3, 1, 0] rfl)
    · intro H locs hP hD hS ls hl
      refine lv_iload_n hx hb dX5_stageInFirstRow_54 rfl (lv_at hl 0 rfl) ?_
      obtain rfl := inj1 hf
      subst hQ
      exact CM_iret hx hb hr rfl hlocks hAe hP hD hS dX5_stageInFirstRow_55
  · replace hf := ifp c3 hf
    refine lv_iconst (v := (-1 : Int32)) hx hb dX5_stageInFirstRow_7 (by decide) ?_
    obtain rfl := inj1 hf
    subst hQ
    exact CM_iret hx hb hr rfl hlocks hAe hP hD hS dX5_stageInFirstRow_8
def rmX6_size : Room := { frames := 0, cells := 0, slots := 0, locals := 0 }
abbrev wqX6_size : List Cond := Cond.code yX6_size cX6_size 1 (some .int) :: tG
set_option maxHeartbeats 4000000 in
set_option maxRecDepth 100000 in
theorem c_X6_size (l : Launch) (dC : Nat → ClassId) (dI : Nat → Nat → Nat) (cI cZ : ClassId) (te : Nat → Nat) (h_t : Nat) (h_t_bytes : Nat) (h_t_numbers : Nat) (t_size : Int32) (t_start : Int32) (t_value : Int32) (t_next : Int32) (t_word : Int32) (o0 : Int32) (hf : f_X6_size t_size = some o0) : CM l yX6_size wqX6_size rmX6_size (kS te) dC dI cI cZ [.ref h_t] [(h_t, .inr (5, fX6 h_t_bytes t_size t_start t_value t_next t_word h_t_numbers))] [(h_t, .inr (5, fX6 h_t_bytes t_size t_start t_value t_next t_word h_t_numbers))] (some (.int o0)) := by
  refine CM_of (cc := cX6_size) (maxL := 1) (ret := (some .int)) (by decide +kernel) rfl (Nat.le_of_ble_eq_true rfl) ?_
  intro p e s m args below meth c A Q hx hb hr hml hown hts hlocks hA hK hP hD hS hE hQ hAe ls hl
  have hown : s.vm.findClass RX6 = some m.cls := hown
  have hl : lv_has ls 1 [(0, .ref h_t)] := hl
  unfold f_X6_size at hf
  refine lv_aload_n hx hb dX6_size_0 rfl (lv_at hl 0 rfl) ?_
  refine va_get (D := (dC, dI)) (ci := 5) (v := .int t_size) (C := RX6) (T := TX6) (N := 7) hx hb hts (in1 tw_X6) hown hK hP 0 rfl rfl 1 (by decide) (hts _ (List.mem_cons_of_mem _ kw_619)) (fun _ h9 => h9) rfl dX6_size_1 ?_
  obtain rfl := inj1 hf
  subst hQ
  exact CM_iret hx hb hr rfl hlocks hAe hP hD hS dX6_size_4
def rmX6_empty : Room := { frames := 0, cells := 0, slots := 0, locals := 0 }
abbrev wqX6_empty : List Cond := Cond.code yX6_empty cX6_empty 1 none :: tG
set_option maxHeartbeats 4000000 in
set_option maxRecDepth 100000 in
theorem c_X6_empty (l : Launch) (dC : Nat → ClassId) (dI : Nat → Nat → Nat) (cI cZ : ClassId) (te : Nat → Nat) (h_t : Nat) (h_t_bytes : Nat) (h_t_numbers : Nat) (t_size : Int32) (t_start : Int32) (t_value : Int32) (t_next : Int32) (t_word : Int32) (o0 : Int32) (hf : f_X6_empty = some o0) : CM l yX6_empty wqX6_empty rmX6_empty (kS te) dC dI cI cZ [.ref h_t] [(h_t, .inr (5, fX6 h_t_bytes t_size t_start t_value t_next t_word h_t_numbers))] [(h_t, .inr (5, fX6 h_t_bytes o0 t_start t_value t_next t_word h_t_numbers))] none := by
  refine CM_of (cc := cX6_empty) (maxL := 1) (ret := none) (by decide +kernel) rfl (Nat.le_of_ble_eq_true rfl) ?_
  intro p e s m args below meth c A Q hx hb hr hml hown hts hlocks hA hK hP hD hS hE hQ hAe ls hl
  have hown : s.vm.findClass RX6 = some m.cls := hown
  have hl : lv_has ls 1 [(0, .ref h_t)] := hl
  unfold f_X6_empty at hf
  refine lv_aload_n hx hb dX6_empty_0 rfl (lv_at hl 0 rfl) ?_
  refine lv_iconst (v := (0 : Int32)) hx hb dX6_empty_1 (by decide) ?_
  refine va_put (D := (dC, dI)) (ci := 5) (v := .int (0 : Int32)) (ty := tyX6 1) (C := RX6) (T := TX6) (N := 7) hx hb hts (in1 tw_X6) tyX6 tyX6_ok nmX6 hown hK hP hD hS 0 rfl rfl 1 (by decide) (hts _ (List.mem_cons_of_mem _ kw_619)) (fun _ h9 => h9) rfl (tyX6_ok 1 (by decide)) rfl rfl (Nat.le_of_ble_eq_true rfl) dX6_empty_2 (fun H locs hP hD hS => ?_)
  have hP : va_P (dC, dI) vwCl [(h_t, .inr (5, fX6 h_t_bytes (0 : Int32) t_start t_value t_next t_word h_t_numbers))] H := hP
  have hD : va_D A [(h_t, .inr (5, fX6 h_t_bytes (0 : Int32) t_start t_value t_next t_word h_t_numbers))] := hD
  obtain rfl := inj1 hf
  subst hQ
  exact CM_vret hx hb hr hlocks hAe hP hD hS dX6_empty_5
def rmX6_append : Room := { frames := 0, cells := 0, slots := 0, locals := 0 }
abbrev wqX6_append : List Cond := Cond.code yX6_append cX6_append 5 (some .int) :: tG
set_option maxHeartbeats 4000000 in
set_option maxRecDepth 100000 in
theorem c_X6_append (l : Launch) (dC : Nat → ClassId) (dI : Nat → Nat → Nat) (cI cZ : ClassId) (te : Nat → Nat) (h_t : Nat) (h_t_bytes : Nat) (h_t_numbers : Nat) (t_size : Int32) (t_start : Int32) (t_value : Int32) (t_next : Int32) (t_word : Int32) (t_bytes : Nat → Int32) (p1 : Int64) (p2 : Int32) (o0 : Int32) (o1 : Int32) (o2 : Nat → Int32) (hf : f_X6_append t_size t_bytes p1 p2 = some (o0, o1, o2)) : CM l yX6_append wqX6_append rmX6_append (kS te) dC dI cI cZ [.ref h_t, .long p1, .int p2] [(h_t, .inr (5, fX6 h_t_bytes t_size t_start t_value t_next t_word h_t_numbers)), (h_t_bytes, .inl (cI, 240, .inl t_bytes))] [(h_t, .inr (5, fX6 h_t_bytes o1 t_start t_value t_next t_word h_t_numbers)), (h_t_bytes, .inl (cI, 240, .inl o2))] (some (.int o0)) := by
  refine CM_of (cc := cX6_append) (maxL := 5) (ret := (some .int)) (by decide +kernel) rfl (Nat.le_of_ble_eq_true rfl) ?_
  intro p e s m args below meth c A Q hx hb hr hml hown hts hlocks hA hK hP hD hS hE hQ hAe ls hl
  have hown : s.vm.findClass RX6 = some m.cls := hown
  have hl : lv_has ls 5 [(0, .ref h_t), (1, .long p1), (3, .int p2)] := hl
  unfold f_X6_append at hf
  refine lv_iload_n hx hb dX6_append_0 rfl (lv_at hl 2 rfl) ?_
  refine lv_sipush (v := (240 : Int32)) hx hb dX6_append_1 (by decide) ?_
  refine lv_aload_n hx hb dX6_append_4 rfl (lv_at hl 0 rfl) ?_
  refine va_get (D := (dC, dI)) (ci := 5) (v := .int t_size) (C := RX6) (T := TX6) (N := 7) hx hb hts (in1 tw_X6) hown hK hP 0 rfl rfl 1 (by decide) (hts _ (List.mem_cons_of_mem _ kw_619)) (fun _ h9 => h9) rfl dX6_append_5 ?_
  refine lv_isub hx hb dX6_append_8 ?_
  refine lv_icmp_le (tgt := 15) hx hb dX6_append_9 (by decide) (fun c1 => ?_) (fun c1 => ?_)
  · replace hf := ifp c1 hf
    refine lv_bipush (v := (8 : Int32)) hx hb dX6_append_15 (by decide) ?_
    refine lv_iload_n hx hb dX6_append_17 rfl (lv_at hl 2 rfl) ?_
    refine lv_iconst (v := (1 : Int32)) hx hb dX6_append_18 (by decide) ?_
    refine lv_isub hx hb dX6_append_19 ?_
    refine lv_imul hx hb dX6_append_20 ?_
    obtain ⟨x2, e3, hf⟩ := nm_some hf
    refine lv_tope e3 ?_
    refine lv_istore (lv' := [(4, .int x2), (0, .ref h_t), (1, .long p1), (3, .int p2)]) hx hb dX6_append_21 hl (by decide) rfl (fun ls hl => ?_)
    have L31 : ∀ (fu21 : Nat) (y17 : Nat → Int32) (x18 : Int32) (x19 : Int32) (y15 : Nat → Int32) (x16 : Int32), f_X6_append_L1 p1 fu21 y17 x18 x19 = some (y15, x16) → (∀ (H : Heap) (locs : List Loc), va_P (dC, dI) vwCl [(h_t, .inr (5, fX6 h_t_bytes x16 t_start t_value t_next t_word h_t_numbers)), (h_t_bytes, .inl (cI, 240, .inl y15))] H → va_D A [(h_t, .inr (5, fX6 h_t_bytes x16 t_start t_value t_next t_word h_t_numbers)), (h_t_bytes, .inl (cI, 240, .inl y15))] → va_S A s.heap H locs → ∀ ls : Array Slot, lv_has ls 5 [(0, .ref h_t)] → W p l e rmX6_append s m args below meth c H locs 0 0 Q (F0 m 62 ls [])) → ∀ (H : Heap) (locs : List Loc), va_P (dC, dI) vwCl [(h_t, .inr (5, fX6 h_t_bytes x18 t_start t_value t_next t_word h_t_numbers)), (h_t_bytes, .inl (cI, 240, .inl y17))] H → va_D A [(h_t, .inr (5, fX6 h_t_bytes x18 t_start t_value t_next t_word h_t_numbers)), (h_t_bytes, .inl (cI, 240, .inl y17))] → va_S A s.heap H locs → ∀ ls : Array Slot, lv_has ls 5 [(0, .ref h_t), (1, .long p1), (4, .int x19)] → W p l e rmX6_append s m args below meth c H locs 0 0 Q (F0 m 23 ls []) := by
      intro fu21
      induction fu21 with
      | zero =>
        intro y17 x18 x19 y15 x16 hf
        unfold f_X6_append_L1 at hf
        exact none_ne hf
      | succ fu21 ih20 =>
        intro y17 x18 x19 y15 x16 hf hX22 H locs hP hD hS ls hl
        unfold f_X6_append_L1 at hf
        refine lv_iload hx hb dX6_append_23 (lv_at hl 2 rfl) ?_
        refine lv_if_lt (tgt := 62) hx hb dX6_append_25 (by decide) (fun c23 => ?_) (fun c23 => ?_)
        · replace hf := ifp c23 hf
          obtain ⟨rfl, rfl⟩ := inj2 hf
          exact hX22 _ _ hP hD hS _ (lv_sub hl [0] rfl)
        · replace hf := ifn c23 hf
          refine lv_aload_n hx hb dX6_append_28 rfl (lv_at hl 0 rfl) ?_
          refine va_get (D := (dC, dI)) (ci := 5) (v := .ref h_t_bytes) (C := RX6) (T := TX6) (N := 7) hx hb hts (in1 tw_X6) hown hK hP 0 rfl rfl 0 (by decide) (hts _ (List.mem_cons_of_mem _ kw_65)) (fun _ h9 => h9) rfl dX6_append_29 ?_
          refine lv_aload_n hx hb dX6_append_32 rfl (lv_at hl 0 rfl) ?_
          refine va_get (D := (dC, dI)) (ci := 5) (v := .int x18) (C := RX6) (T := TX6) (N := 7) hx hb hts (in1 tw_X6) hown hK hP 0 rfl rfl 1 (by decide) (hts _ (List.mem_cons_of_mem _ kw_619)) (fun _ h9 => h9) rfl dX6_append_33 ?_
          refine lv_lload_n hx hb dX6_append_36 rfl (lv_at hl 1 rfl) ?_
          refine lv_iload hx hb dX6_append_37 (lv_at hl 2 rfl) ?_
          refine lv_lshr hx hb dX6_append_39 rfl ?_
          refine lv_ldc2 (v := (255 : Int64)) hx hb hown (hts _ (List.mem_cons_of_mem _ kw_620)) dX6_append_40 ?_
          refine lv_land hx hb dX6_append_43 ?_
          refine lv_l2i hx hb dX6_append_44 rfl ?_
          obtain ⟨x24, e25, hf⟩ := nm_some hf
          refine lv_tope e25 ?_
          obtain ⟨g26, hf⟩ := chk_some hf
          obtain ⟨y27, e28, hf⟩ := nm_some hf
          refine va_iast hx hb hK hP hD hS 1 0 rfl rfl (gin_in g26) dX6_append_45 (fun H locs hP hD hS => ?_)
          have hP : va_P (dC, dI) vwCl [(h_t, .inr (5, fX6 h_t_bytes x18 t_start t_value t_next t_word h_t_numbers)), (h_t_bytes, .inl (cI, 240, .inl y27))] H := by rw [e28]; exact hP
          have hD : va_D A [(h_t, .inr (5, fX6 h_t_bytes x18 t_start t_value t_next t_word h_t_numbers)), (h_t_bytes, .inl (cI, 240, .inl y27))] := by rw [e28]; exact hD
          refine lv_aload_n hx hb dX6_append_46 rfl (lv_at hl 0 rfl) ?_
          refine lv_dup hx hb dX6_append_47 rfl ?_
          refine va_get (D := (dC, dI)) (ci := 5) (v := .int x18) (C := RX6) (T := TX6) (N := 7) hx hb hts (in1 tw_X6) hown hK hP 0 rfl rfl 1 (by decide) (hts _ (List.mem_cons_of_mem _ kw_619)) (fun _ h9 => h9) rfl dX6_append_48 ?_
          refine lv_iconst (v := (1 : Int32)) hx hb dX6_append_51 (by decide) ?_
          refine lv_iadd hx hb dX6_append_52 ?_
          obtain ⟨x29, e30, hf⟩ := nm_some hf
          refine lv_tope e30 ?_
          refine va_put (D := (dC, dI)) (ci := 5) (v := .int x29) (ty := tyX6 1) (C := RX6) (T := TX6) (N := 7) hx hb hts (in1 tw_X6) tyX6 tyX6_ok nmX6 hown hK hP hD hS 0 rfl rfl 1 (by decide) (hts _ (List.mem_cons_of_mem _ kw_619)) (fun _ h9 => h9) rfl (tyX6_ok 1 (by decide)) rfl rfl (Nat.le_of_ble_eq_true rfl) dX6_append_53 (fun H locs hP hD hS => ?_)
          have hP : va_P (dC, dI) vwCl [(h_t, .inr (5, fX6 h_t_bytes x29 t_start t_value t_next t_word h_t_numbers)), (h_t_bytes, .inl (cI, 240, .inl y27))] H := hP
          have hD : va_D A [(h_t, .inr (5, fX6 h_t_bytes x29 t_start t_value t_next t_word h_t_numbers)), (h_t_bytes, .inl (cI, 240, .inl y27))] := hD
          refine lv_iinc (v := (x19 + (-8 : Int32))) (lv' := [(4, .int (x19 + (-8 : Int32))), (0, .ref h_t), (1, .long p1)]) hx hb dX6_append_56 hl (k := 2) rfl rfl (by decide) rfl (fun ls hl => ?_)
          refine lv_goto (tgt := 23) hx hb dX6_append_59 (by decide) ?_
          exact ih20 _ _ _ _ _ hf hX22 _ _ hP hD hS _ (lv_sub hl [1, 2, 0] rfl)
    obtain ⟨y15, x16, hg, hf⟩ := bd2_some hf
    refine L31 FU _ _ _ _ _ hg ?_ _ _ hP hD hS _ (lv_sub hl [1, 2, 0] rfl)
    · intro H locs hP hD hS ls hl
      refine lv_aload_n hx hb dX6_append_62 rfl (lv_at hl 0 rfl) ?_
      refine va_get (D := (dC, dI)) (ci := 5) (v := .int x16) (C := RX6) (T := TX6) (N := 7) hx hb hts (in1 tw_X6) hown hK hP 0 rfl rfl 1 (by decide) (hts _ (List.mem_cons_of_mem _ kw_619)) (fun _ h9 => h9) rfl dX6_append_63 ?_
      obtain ⟨rfl, rfl, rfl⟩ := inj3 hf
      subst hQ
      exact CM_iret hx hb hr rfl hlocks hAe hP hD hS dX6_append_66
  · replace hf := ifn c1 hf
    refine lv_bipush (v := (-4 : Int32)) hx hb dX6_append_12 (by decide) ?_
    obtain ⟨rfl, rfl, rfl⟩ := inj3 hf
    subst hQ
    exact CM_iret hx hb hr rfl hlocks hAe hP hD hS dX6_append_14
def rmX6_goToStart : Room := { frames := 0, cells := 0, slots := 0, locals := 0 }
abbrev wqX6_goToStart : List Cond := Cond.code yX6_goToStart cX6_goToStart 1 none :: tG
set_option maxHeartbeats 4000000 in
set_option maxRecDepth 100000 in
theorem c_X6_goToStart (l : Launch) (dC : Nat → ClassId) (dI : Nat → Nat → Nat) (cI cZ : ClassId) (te : Nat → Nat) (h_t : Nat) (h_t_bytes : Nat) (h_t_numbers : Nat) (t_size : Int32) (t_start : Int32) (t_value : Int32) (t_next : Int32) (t_word : Int32) (o0 : Int32) (hf : f_X6_goToStart = some o0) : CM l yX6_goToStart wqX6_goToStart rmX6_goToStart (kS te) dC dI cI cZ [.ref h_t] [(h_t, .inr (5, fX6 h_t_bytes t_size t_start t_value t_next t_word h_t_numbers))] [(h_t, .inr (5, fX6 h_t_bytes t_size t_start t_value o0 t_word h_t_numbers))] none := by
  refine CM_of (cc := cX6_goToStart) (maxL := 1) (ret := none) (by decide +kernel) rfl (Nat.le_of_ble_eq_true rfl) ?_
  intro p e s m args below meth c A Q hx hb hr hml hown hts hlocks hA hK hP hD hS hE hQ hAe ls hl
  have hown : s.vm.findClass RX6 = some m.cls := hown
  have hl : lv_has ls 1 [(0, .ref h_t)] := hl
  unfold f_X6_goToStart at hf
  refine lv_aload_n hx hb dX6_goToStart_0 rfl (lv_at hl 0 rfl) ?_
  refine lv_iconst (v := (0 : Int32)) hx hb dX6_goToStart_1 (by decide) ?_
  refine va_put (D := (dC, dI)) (ci := 5) (v := .int (0 : Int32)) (ty := tyX6 4) (C := RX6) (T := TX6) (N := 7) hx hb hts (in1 tw_X6) tyX6 tyX6_ok nmX6 hown hK hP hD hS 0 rfl rfl 4 (by decide) (hts _ (List.mem_cons_of_mem _ kw_621)) (fun _ h9 => h9) rfl (tyX6_ok 4 (by decide)) rfl rfl (Nat.le_of_ble_eq_true rfl) dX6_goToStart_2 (fun H locs hP hD hS => ?_)
  have hP : va_P (dC, dI) vwCl [(h_t, .inr (5, fX6 h_t_bytes t_size t_start t_value (0 : Int32) t_word h_t_numbers))] H := hP
  have hD : va_D A [(h_t, .inr (5, fX6 h_t_bytes t_size t_start t_value (0 : Int32) t_word h_t_numbers))] := hD
  obtain rfl := inj1 hf
  subst hQ
  exact CM_vret hx hb hr hlocks hAe hP hD hS dX6_goToStart_5
def rmX6_isLetter : Room := { frames := 0, cells := 0, slots := 0, locals := 0 }
abbrev wqX6_isLetter : List Cond := Cond.code yX6_isLetter cX6_isLetter 1 (some .boolean) :: tG
set_option maxHeartbeats 4000000 in
set_option maxRecDepth 100000 in
theorem c_X6_isLetter (l : Launch) (dC : Nat → ClassId) (dI : Nat → Nat → Nat) (cI cZ : ClassId) (te : Nat → Nat) (p1 : Int32) (o0 : Int32) (hf : f_X6_isLetter p1 = some o0) : CM l yX6_isLetter wqX6_isLetter rmX6_isLetter (kS te) dC dI cI cZ [.int p1] [] [] (some (.int o0)) := by
  refine CM_of (cc := cX6_isLetter) (maxL := 1) (ret := (some .boolean)) (by decide +kernel) rfl (Nat.le_of_ble_eq_true rfl) ?_
  intro p e s m args below meth c A Q hx hb hr hml hown hts hlocks hA hK hP hD hS hE hQ hAe ls hl
  have hown : s.vm.findClass RX6 = some m.cls := hown
  have hl : lv_has ls 1 [(0, .int p1)] := hl
  unfold f_X6_isLetter at hf
  refine lv_iload_n hx hb dX6_isLetter_0 rfl (lv_at hl 0 rfl) ?_
  refine lv_bipush (v := (97 : Int32)) hx hb dX6_isLetter_1 (by decide) ?_
  refine lv_icmp_lt (tgt := 16) hx hb dX6_isLetter_3 (by decide) (fun c1 => ?_) (fun c1 => ?_)
  · replace hf := ifp c1 hf
    refine lv_iconst (v := (0 : Int32)) hx hb dX6_isLetter_16 (by decide) ?_
    obtain rfl := inj1 hf
    subst hQ
    exact CM_iret hx hb hr rfl hlocks hAe hP hD hS dX6_isLetter_17
  · replace hf := ifn c1 hf
    refine lv_iload_n hx hb dX6_isLetter_6 rfl (lv_at hl 0 rfl) ?_
    refine lv_bipush (v := (122 : Int32)) hx hb dX6_isLetter_7 (by decide) ?_
    refine lv_icmp_gt (tgt := 16) hx hb dX6_isLetter_9 (by decide) (fun c2 => ?_) (fun c2 => ?_)
    · replace hf := ifp c2 hf
      refine lv_iconst (v := (0 : Int32)) hx hb dX6_isLetter_16 (by decide) ?_
      obtain rfl := inj1 hf
      subst hQ
      exact CM_iret hx hb hr rfl hlocks hAe hP hD hS dX6_isLetter_17
    · replace hf := ifn c2 hf
      refine lv_iconst (v := (1 : Int32)) hx hb dX6_isLetter_12 (by decide) ?_
      refine lv_goto (tgt := 17) hx hb dX6_isLetter_13 (by decide) ?_
      obtain rfl := inj1 hf
      subst hQ
      exact CM_iret hx hb hr rfl hlocks hAe hP hD hS dX6_isLetter_17
