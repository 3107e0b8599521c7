def rmX8_greatestFor : Room := { frames := 2, cells := 0, slots := 0, locals := 46 }
set_option maxHeartbeats 4000000 in
set_option maxRecDepth 100000 in
theorem c_X8_greatestFor (l : Launch) (dC : Nat → ClassId) (dI : Nat → Nat → Nat) (cI cZ : ClassId) (te : Nat → Nat) (h_p1 : Nat) (h_p1_surfaces : Nat) (h_p1_cliffs : Nat) (h_p1_boulders : Nat) (h_p1_scratches : Nat) (h_p1_numbers : Nat) (h_p1_facts : Nat) (h_p1_signs : Nat) (h_p1_areas : Nat) (h_p1_heights : Nat) (p1_ridges : Int32) (p1_numbers : Nat → Int32) (p1_heights : Nat → Int32) (p2 : Int32) (p3 : Int32) (o0 : Int32) (hf : f_X8_greatestFor p1_numbers p1_heights p2 p3 = some o0) : CM l yX8_greatestFor wsX8_greatestFor rmX8_greatestFor (kS te) dC dI cI cZ [.ref h_p1, .int p2, .int p3] [(h_p1, .inr (1, fX1 h_p1_surfaces h_p1_cliffs h_p1_boulders h_p1_scratches h_p1_numbers h_p1_facts h_p1_signs h_p1_areas h_p1_heights p1_ridges)), (h_p1_numbers, .inl (cI, 6, .inl p1_numbers)), (h_p1_heights, .inl (cI, 21, .inl p1_heights))] [(h_p1, .inr (1, fX1 h_p1_surfaces h_p1_cliffs h_p1_boulders h_p1_scratches h_p1_numbers h_p1_facts h_p1_signs h_p1_areas h_p1_heights p1_ridges)), (h_p1_numbers, .inl (cI, 6, .inl p1_numbers)), (h_p1_heights, .inl (cI, 21, .inl p1_heights))] (some (.int o0)) := by
  refine CM_of (cc := cX8_greatestFor) (maxL := 4) (ret := (some .int)) (by decide +kernel) rfl (Nat.le_of_ble_eq_true rfl) ?_
  intro p e s m args below meth c A Q hx hb hr hml hown hts hlocks hA hK hP hD hS hE hQ hAe ls hl
  have hown : s.vm.findClass RX8 = some m.cls := hown
  have hl : lv_has ls 4 [(0, .ref h_p1), (1, .int p2), (2, .int p3)] := hl
  unfold f_X8_greatestFor at hf
  refine lv_bipush (v := (60 : Int32)) hx hb dX8_greatestFor_0 (by decide) ?_
  refine lv_istore_n (lv' := [(3, .int (60 : Int32)), (0, .ref h_p1), (1, .int p2), (2, .int p3)]) hx hb dX8_greatestFor_2 rfl hl (by decide) rfl (fun ls hl => ?_)
  have L17 : ∀ (fu10 : Nat) (x8 : Int32) (q7 : Nat) (x6 : Int32), f_X8_greatestFor_L1 p1_numbers p1_heights p3 p2 fu10 x8 = some (q7, x6) → (q7 = 0 → ∀ (H : Heap) (locs : List Loc), va_P (dC, dI) vwCl [(h_p1, .inr (1, fX1 h_p1_surfaces h_p1_cliffs h_p1_boulders h_p1_scratches h_p1_numbers h_p1_facts h_p1_signs h_p1_areas h_p1_heights p1_ridges)), (h_p1_numbers, .inl (cI, 6, .inl p1_numbers)), (h_p1_heights, .inl (cI, 21, .inl p1_heights))] H → va_D A [(h_p1, .inr (1, fX1 h_p1_surfaces h_p1_cliffs h_p1_boulders h_p1_scratches h_p1_numbers h_p1_facts h_p1_signs h_p1_areas h_p1_heights p1_ridges)), (h_p1_numbers, .inl (cI, 6, .inl p1_numbers)), (h_p1_heights, .inl (cI, 21, .inl p1_heights))] → va_S A s.heap H locs → ∀ ls : Array Slot, lv_has ls 4 [(3, .int x6)] → W p l e rmX8_greatestFor s m args below meth c H locs 0 0 Q (F0 m 17 ls [])) → (q7 = 1 → ∀ (H : Heap) (locs : List Loc), va_P (dC, dI) vwCl [(h_p1, .inr (1, fX1 h_p1_surfaces h_p1_cliffs h_p1_boulders h_p1_scratches h_p1_numbers h_p1_facts h_p1_signs h_p1_areas h_p1_heights p1_ridges)), (h_p1_numbers, .inl (cI, 6, .inl p1_numbers)), (h_p1_heights, .inl (cI, 21, .inl p1_heights))] H → va_D A [(h_p1, .inr (1, fX1 h_p1_surfaces h_p1_cliffs h_p1_boulders h_p1_scratches h_p1_numbers h_p1_facts h_p1_signs h_p1_areas h_p1_heights p1_ridges)), (h_p1_numbers, .inl (cI, 6, .inl p1_numbers)), (h_p1_heights, .inl (cI, 21, .inl p1_heights))] → va_S A s.heap H locs → ∀ ls : Array Slot, lv_has ls 4 [] → W p l e rmX8_greatestFor s m args below meth c H locs 0 0 Q (F0 m 25 ls [])) → ∀ (H : Heap) (locs : List Loc), va_P (dC, dI) vwCl [(h_p1, .inr (1, fX1 h_p1_surfaces h_p1_cliffs h_p1_boulders h_p1_scratches h_p1_numbers h_p1_facts h_p1_signs h_p1_areas h_p1_heights p1_ridges)), (h_p1_numbers, .inl (cI, 6, .inl p1_numbers)), (h_p1_heights, .inl (cI, 21, .inl p1_heights))] H → va_D A [(h_p1, .inr (1, fX1 h_p1_surfaces h_p1_cliffs h_p1_boulders h_p1_scratches h_p1_numbers h_p1_facts h_p1_signs h_p1_areas h_p1_heights p1_ridges)), (h_p1_numbers, .inl (cI, 6, .inl p1_numbers)), (h_p1_heights, .inl (cI, 21, .inl p1_heights))] → va_S A s.heap H locs → ∀ ls : Array Slot, lv_has ls 4 [(0, .ref h_p1), (1, .int p2), (2, .int p3), (3, .int x8)] → W p l e rmX8_greatestFor s m args below meth c H locs 0 0 Q (F0 m 3 ls []) := by
    intro fu10
    induction fu10 with
    | zero =>
      intro x8 q7 x6 hf
      unfold f_X8_greatestFor_L1 at hf
      exact none_ne hf
    | succ fu10 ih9 =>
      intro x8 q7 x6 hf hX11 hX12 H locs hP hD hS ls hl
      unfold f_X8_greatestFor_L1 at hf
      refine lv_iload_n hx hb dX8_greatestFor_3 rfl (lv_at hl 3 rfl) ?_
      refine lv_if_lt (tgt := 25) hx hb dX8_greatestFor_4 (by decide) (fun c13 => ?_) (fun c13 => ?_)
      · replace hf := ifp c13 hf
        obtain ⟨rfl, rfl⟩ := inj2 hf
        exact hX12 rfl _ _ hP hD hS _ (lv_sub hl [] rfl)
      · replace hf := ifn c13 hf
        refine lv_aload_n hx hb dX8_greatestFor_7 rfl (lv_at hl 0 rfl) ?_
        refine lv_iload_n hx hb dX8_greatestFor_8 rfl (lv_at hl 3 rfl) ?_
        refine lv_iload_n hx hb dX8_greatestFor_9 rfl (lv_at hl 2 rfl) ?_
        obtain ⟨r14, hg15, hf⟩ := bd1_some hf
        refine CM_callS (As := [.ref h_p1, .int x8, .int p3]) (rest := []) (wc := [(h_p1, .inr (1, fX1 h_p1_surfaces h_p1_cliffs h_p1_boulders h_p1_scratches h_p1_numbers h_p1_facts h_p1_signs h_p1_areas h_p1_heights p1_ridges)), (h_p1_numbers, .inl (cI, 6, .inl p1_numbers)), (h_p1_heights, .inl (cI, 21, .inl p1_heights))]) (w1 := [(h_p1, .inr (1, fX1 h_p1_surfaces h_p1_cliffs h_p1_boulders h_p1_scratches h_p1_numbers h_p1_facts h_p1_signs h_p1_areas h_p1_heights p1_ridges)), (h_p1_numbers, .inl (cI, 6, .inl p1_numbers)), (h_p1_heights, .inl (cI, 21, .inl p1_heights))]) (wr := []) (wo := [(h_p1, .inr (1, fX1 h_p1_surfaces h_p1_cliffs h_p1_boulders h_p1_scratches h_p1_numbers h_p1_facts h_p1_signs h_p1_areas h_p1_heights p1_ridges)), (h_p1_numbers, .inl (cI, 6, .inl p1_numbers)), (h_p1_heights, .inl (cI, 21, .inl p1_heights))]) (v := (some (.int r14))) ⟨hx, hb, hml, hown, hts⟩ (c_X8_standsAt l dC dI cI cZ te h_p1 h_p1_surfaces h_p1_cliffs h_p1_boulders h_p1_scratches h_p1_numbers h_p1_facts h_p1_signs h_p1_areas h_p1_heights p1_ridges p1_numbers p1_heights x8 p3 r14 hg15) (va_cwS 3 hts gX8_greatestFor_X8_standsAt rfl rfl rfl (by decide +kernel) ⟨Nat.le_of_ble_eq_true rfl, Nat.le_of_ble_eq_true rfl⟩) (kS_env te) hK hP hD hS hA hE [0, 1, 2] [] [0, 1, 2] rfl rfl (by decide) (by decide) (by decide) (by decide) rfl rfl hl.1 rfl (Nat.le_of_ble_eq_true rfl) dX8_greatestFor_10 ⟨Nat.zero_le _, Nat.zero_le _⟩ (fun H locs hP hD hS => ?_)
        show W p l e rmX8_greatestFor s m args below meth c H locs 0 0 Q (F0 m 13 ls [.int r14])
        refine lv_iload_n hx hb dX8_greatestFor_13 rfl (lv_at hl 1 rfl) ?_
        refine lv_icmp_ne (tgt := 19) hx hb dX8_greatestFor_14 (by decide) (fun c16 => ?_) (fun c16 => ?_)
        · replace hf := ifn c16 hf
          refine lv_iinc (v := (x8 + (-1 : Int32))) (lv' := [(3, .int (x8 + (-1 : Int32))), (0, .ref h_p1), (1, .int p2), (2, .int p3)]) hx hb dX8_greatestFor_19 hl (k := 3) rfl rfl (by decide) rfl (fun ls hl => ?_)
          refine lv_goto (tgt := 3) hx hb dX8_greatestFor_22 (by decide) ?_
          exact ih9 _ _ _ hf hX11 hX12 _ _ hP hD hS _ (lv_sub hl [1, 2, 3, 0] rfl)
        · replace hf := ifp c16 hf
          obtain ⟨rfl, rfl⟩ := inj2 hf
          exact hX11 rfl _ _ hP hD hS _ (lv_sub hl [3] rfl)
  obtain ⟨q7, x6, hg, hf⟩ := bd2_some hf
  refine L17 FU _ _ _ hg ?_ ?_ _ _ hP hD hS _ (lv_sub hl [1, 2, 3, 0] rfl)
  · intro hq
    subst hq
    replace hf := ifp rfl hf
    intro H locs hP hD hS ls hl
    refine lv_iload_n hx hb dX8_greatestFor_17 rfl (lv_at hl 0 rfl) ?_
    obtain rfl := inj1 hf
    subst hQ
    exact CM_iret hx hb hr rfl hlocks hAe hP hD hS dX8_greatestFor_18
  · intro hq
    subst hq
    replace hf := ifn (by decide) hf
    intro H locs hP hD hS ls hl
    refine lv_iconst (v := (-1 : Int32)) hx hb dX8_greatestFor_25 (by decide) ?_
    obtain rfl := inj1 hf
    subst hQ
    exact CM_iret hx hb hr rfl hlocks hAe hP hD hS dX8_greatestFor_26
def rmX9_within : Room := { frames := 0, cells := 0, slots := 0, locals := 0 }
set_option maxHeartbeats 4000000 in
set_option maxRecDepth 100000 in
theorem c_X9_within (l : Launch) (dC : Nat → ClassId) (dI : Nat → Nat → Nat) (cI cZ : ClassId) (te : Nat → Nat) (p1 : Int32) (p2 : Int32) (p3 : Int32) (o0 : Int32) (hf : f_X9_within p1 p2 p3 = some o0) : CM l yX9_within wsX9_within rmX9_within (kS te) dC dI cI cZ [.int p1, .int p2, .int p3] [] [] (some (.int o0)) := by
  refine CM_of (cc := cX9_within) (maxL := 3) (ret := (some .boolean)) (by decide +kernel) rfl (Nat.le_of_ble_eq_true rfl) ?_
  intro p e s m args below meth c A Q hx hb hr hml hown hts hlocks hA hK hP hD hS hE hQ hAe ls hl
  have hown : s.vm.findClass RX9 = some m.cls := hown
  have hl : lv_has ls 3 [(0, .int p1), (1, .int p2), (2, .int p3)] := hl
  unfold f_X9_within at hf
  refine lv_iload_n hx hb dX9_within_0 rfl (lv_at hl 0 rfl) ?_
  refine lv_iload_n hx hb dX9_within_1 rfl (lv_at hl 1 rfl) ?_
  refine lv_icmp_lt (tgt := 14) hx hb dX9_within_2 (by decide) (fun c1 => ?_) (fun c1 => ?_)
  · replace hf := ifp c1 hf
    refine lv_iconst (v := (0 : Int32)) hx hb dX9_within_14 (by decide) ?_
    obtain rfl := inj1 hf
    subst hQ
    exact CM_iret hx hb hr rfl hlocks hAe hP hD hS dX9_within_15
  · replace hf := ifn c1 hf
    refine lv_iload_n hx hb dX9_within_5 rfl (lv_at hl 0 rfl) ?_
    refine lv_iload_n hx hb dX9_within_6 rfl (lv_at hl 2 rfl) ?_
    refine lv_icmp_gt (tgt := 14) hx hb dX9_within_7 (by decide) (fun c2 => ?_) (fun c2 => ?_)
    · replace hf := ifp c2 hf
      refine lv_iconst (v := (0 : Int32)) hx hb dX9_within_14 (by decide) ?_
      obtain rfl := inj1 hf
      subst hQ
      exact CM_iret hx hb hr rfl hlocks hAe hP hD hS dX9_within_15
    · replace hf := ifn c2 hf
      refine lv_iconst (v := (1 : Int32)) hx hb dX9_within_10 (by decide) ?_
      refine lv_goto (tgt := 15) hx hb dX9_within_11 (by decide) ?_
      obtain rfl := inj1 hf
      subst hQ
      exact CM_iret hx hb hr rfl hlocks hAe hP hD hS dX9_within_15
def rmX9_isStage : Room := { frames := 1, cells := 0, slots := 0, locals := 22 }
set_option maxHeartbeats 4000000 in
set_option maxRecDepth 100000 in
theorem c_X9_isStage (l : Launch) (dC : Nat → ClassId) (dI : Nat → Nat → Nat) (cI cZ : ClassId) (te : Nat → Nat) (p1 : Int32) (o0 : Int32) (hf : f_X9_isStage p1 = some o0) : CM l yX9_isStage wsX9_isStage rmX9_isStage (kS te) dC dI cI cZ [.int p1] [] [] (some (.int o0)) := by
  refine CM_of (cc := cX9_isStage) (maxL := 1) (ret := (some .boolean)) (by decide +kernel) rfl (Nat.le_of_ble_eq_true rfl) ?_
  intro p e s m args below meth c A Q hx hb hr hml hown hts hlocks hA hK hP hD hS hE hQ hAe ls hl
  have hown : s.vm.findClass RX9 = some m.cls := hown
  have hl : lv_has ls 1 [(0, .int p1)] := hl
  unfold f_X9_isStage at hf
  refine lv_iload_n hx hb dX9_isStage_0 rfl (lv_at hl 0 rfl) ?_
  refine lv_iconst (v := (0 : Int32)) hx hb dX9_isStage_1 (by decide) ?_
  refine lv_iconst (v := (2 : Int32)) hx hb dX9_isStage_2 (by decide) ?_
  obtain ⟨r1, hg2, hf⟩ := bd1_some hf
  refine CM_callS (As := [.int p1, .int (0 : Int32), .int (2 : Int32)]) (rest := []) (wc := []) (w1 := []) (wr := []) (wo := []) (v := (some (.int r1))) ⟨hx, hb, hml, hown, hts⟩ (c_X9_within l dC dI cI cZ te p1 (0 : Int32) (2 : Int32) r1 hg2) (va_cwS 3 hts gX9_isStage_X9_within rfl rfl rfl (by decide +kernel) ⟨Nat.le_of_ble_eq_true rfl, Nat.le_of_ble_eq_true rfl⟩) (kS_env te) hK hP hD hS hA hE [] [] [] rfl rfl (by decide) (by decide) (by decide) (by decide) rfl rfl hl.1 rfl (Nat.le_of_ble_eq_true rfl) dX9_isStage_3 ⟨Nat.zero_le _, Nat.zero_le _⟩ (fun H locs hP hD hS => ?_)
  show W p l e rmX9_isStage s m args below meth c H locs 0 0 Q (F0 m 6 ls [.int r1])
  obtain ⟨g3, hf⟩ := chk_some hf
  obtain rfl := inj1 hf
  subst hQ
  exact CM_iret hx hb hr (gz_n g3) hlocks hAe hP hD hS dX9_isStage_6
def rmX9_isPlace : Room := { frames := 1, cells := 0, slots := 0, locals := 22 }
set_option maxHeartbeats 4000000 in
set_option maxRecDepth 100000 in
theorem c_X9_isPlace (l : Launch) (dC : Nat → ClassId) (dI : Nat → Nat → Nat) (cI cZ : ClassId) (te : Nat → Nat) (p1 : Int32) (o0 : Int32) (hf : f_X9_isPlace p1 = some o0) : CM l yX9_isPlace wsX9_isPlace rmX9_isPlace (kS te) dC dI cI cZ [.int p1] [] [] (some (.int o0)) := by
  refine CM_of (cc := cX9_isPlace) (maxL := 1) (ret := (some .boolean)) (by decide +kernel) rfl (Nat.le_of_ble_eq_true rfl) ?_
  intro p e s m args below meth c A Q hx hb hr hml hown hts hlocks hA hK hP hD hS hE hQ hAe ls hl
  have hown : s.vm.findClass RX9 = some m.cls := hown
  have hl : lv_has ls 1 [(0, .int p1)] := hl
  unfold f_X9_isPlace at hf
  refine lv_iload_n hx hb dX9_isPlace_0 rfl (lv_at hl 0 rfl) ?_
  refine lv_iconst (v := (0 : Int32)) hx hb dX9_isPlace_1 (by decide) ?_
  refine lv_bipush (v := (63 : Int32)) hx hb dX9_isPlace_2 (by decide) ?_
  obtain ⟨r1, hg2, hf⟩ := bd1_some hf
  refine CM_callS (As := [.int p1, .int (0 : Int32), .int (63 : Int32)]) (rest := []) (wc := []) (w1 := []) (wr := []) (wo := []) (v := (some (.int r1))) ⟨hx, hb, hml, hown, hts⟩ (c_X9_within l dC dI cI cZ te p1 (0 : Int32) (63 : Int32) r1 hg2) (va_cwS 3 hts gX9_isPlace_X9_within rfl rfl rfl (by decide +kernel) ⟨Nat.le_of_ble_eq_true rfl, Nat.le_of_ble_eq_true rfl⟩) (kS_env te) hK hP hD hS hA hE [] [] [] rfl rfl (by decide) (by decide) (by decide) (by decide) rfl rfl hl.1 rfl (Nat.le_of_ble_eq_true rfl) dX9_isPlace_4 ⟨Nat.zero_le _, Nat.zero_le _⟩ (fun H locs hP hD hS => ?_)
  show W p l e rmX9_isPlace s m args below meth c H locs 0 0 Q (F0 m 7 ls [.int r1])
  obtain ⟨g3, hf⟩ := chk_some hf
  obtain rfl := inj1 hf
  subst hQ
  exact CM_iret hx hb hr (gz_n g3) hlocks hAe hP hD hS dX9_isPlace_7
def rmX9_exchange : Room := { frames := 0, cells := 0, slots := 0, locals := 0 }
set_option maxHeartbeats 4000000 in
set_option maxRecDepth 100000 in
theorem c_X9_exchange (l : Launch) (dC : Nat → ClassId) (dI : Nat → Nat → Nat) (cI cZ : ClassId) (te : Nat → Nat) (h_p1 : Nat) (n_p1 : Nat) (p1 : Nat → Int32) (p2 : Int32) (p3 : Int32) (o0 : Int32) (o1 : Nat → Int32) (hf : f_X9_exchange n_p1 p1 p2 p3 = some (o0, o1)) : CM l yX9_exchange wsX9_exchange rmX9_exchange (kS te) dC dI cI cZ [.ref h_p1, .int p2, .int p3] [(h_p1, .inl (cI, n_p1, .inl p1))] [(h_p1, .inl (cI, n_p1, .inl o1))] (some (.int o0)) := by
  refine CM_of (cc := cX9_exchange) (maxL := 4) (ret := (some .int)) (by decide +kernel) rfl (Nat.le_of_ble_eq_true rfl) ?_
  intro p e s m args below meth c A Q hx hb hr hml hown hts hlocks hA hK hP hD hS hE hQ hAe ls hl
  have hown : s.vm.findClass RX9 = some m.cls := hown
  have hl : lv_has ls 4 [(0, .ref h_p1), (1, .int p2), (2, .int p3)] := hl
  unfold f_X9_exchange at hf
  refine lv_iload_n hx hb dX9_exchange_0 rfl (lv_at hl 1 rfl) ?_
  refine lv_if_lt (tgt := 10) hx hb dX9_exchange_1 (by decide) (fun c1 => ?_) (fun c1 => ?_)
  · replace hf := ifp c1 hf
    refine lv_bipush (v := (-2 : Int32)) hx hb dX9_exchange_10 (by decide) ?_
    obtain ⟨rfl, rfl⟩ := inj2 hf
    subst hQ
    exact CM_iret hx hb hr rfl hlocks hAe hP hD hS dX9_exchange_12
  · replace hf := ifn c1 hf
    refine lv_iload_n hx hb dX9_exchange_4 rfl (lv_at hl 1 rfl) ?_
    refine lv_aload_n hx hb dX9_exchange_5 rfl (lv_at hl 0 rfl) ?_
    refine va_alen hx hb hK hP 0 0 rfl rfl (v := (Int32.ofNat n_p1)) rfl dX9_exchange_6 ?_
    refine lv_icmp_lt (tgt := 13) hx hb dX9_exchange_7 (by decide) (fun c2 => ?_) (fun c2 => ?_)
    · replace hf := ifp c2 hf
      refine lv_aload_n hx hb dX9_exchange_13 rfl (lv_at hl 0 rfl) ?_
      refine lv_iload_n hx hb dX9_exchange_14 rfl (lv_at hl 1 rfl) ?_
      obtain ⟨g3, hf⟩ := chk_some hf
      refine va_iald hx hb hK hP 0 0 rfl rfl (gin_in g3) dX9_exchange_15 ?_
      obtain ⟨x4, e5, hf⟩ := nm_some hf
      refine lv_tope e5 ?_
      refine lv_istore_n (lv' := [(3, .int x4), (0, .ref h_p1), (1, .int p2), (2, .int p3)]) hx hb dX9_exchange_16 rfl hl (by decide) rfl (fun ls hl => ?_)
      refine lv_aload_n hx hb dX9_exchange_17 rfl (lv_at hl 1 rfl) ?_
      refine lv_iload_n hx hb dX9_exchange_18 rfl (lv_at hl 2 rfl) ?_
      refine lv_iload_n hx hb dX9_exchange_19 rfl (lv_at hl 3 rfl) ?_
      obtain ⟨g6, hf⟩ := chk_some hf
      obtain ⟨y7, e8, hf⟩ := nm_some hf
      refine va_iast hx hb hK hP hD hS 0 0 rfl rfl (gin_in g6) dX9_exchange_20 (fun H locs hP hD hS => ?_)
      have hP : va_P (dC, dI) vwCl [(h_p1, .inl (cI, n_p1, .inl y7))] H := by rw [e8]; exact hP
      have hD : va_D A [(h_p1, .inl (cI, n_p1, .inl y7))] := by rw [e8]; exact hD
      refine lv_iload_n hx hb dX9_exchange_21 rfl (lv_at hl 0 rfl) ?_
      obtain ⟨rfl, rfl⟩ := inj2 hf
      subst hQ
      exact CM_iret hx hb hr rfl hlocks hAe hP hD hS dX9_exchange_22
    · replace hf := ifn c2 hf
      refine lv_bipush (v := (-2 : Int32)) hx hb dX9_exchange_10 (by decide) ?_
      obtain ⟨rfl, rfl⟩ := inj2 hf
      subst hQ
      exact CM_iret hx hb hr rfl hlocks hAe hP hD hS dX9_exchange_12
def rmX9_surface : Room := { frames := 2, cells := 0, slots := 0, locals := 42 }
set_option maxRecDepth 20000 in
theorem kX9_surface_0 : ∀ w ∈ u_ws RX9 TX9 11, w ∈ wsX9_surface := by decide +kernel
set_option maxRecDepth 20000 in
theorem kX9_surface_1 : Cond.fieldLink RX9 10 "StoneRiver" "now" "LStoneRiver$Found;" ∈ wsX9_surface := by decide +kernel
set_option maxRecDepth 20000 in
theorem kX9_surface_2 : ∀ w ∈ u_ws RX1 TX1 10, w ∈ wsX9_surface := by decide +kernel
set_option maxRecDepth 20000 in
theorem kX9_surface_3 : Cond.fieldLink RX9 71 "StoneRiver$Found" "surfaces" "[I" ∈ wsX9_surface := by decide +kernel
set_option maxHeartbeats 4000000 in
set_option maxRecDepth 100000 in
theorem c_X9_surface (l : Launch) (dC : Nat → ClassId) (dI : Nat → Nat → Nat) (cI cZ : ClassId) (te : Nat → Nat) (h_t : Nat) (h_t_now : Nat) (h_t_beforeRead : Nat) (h_t_firstImage : Nat) (h_t_secondImage : Nat) (h_t_valley : Nat) (h_t_ages : Nat) (h_t_fronts : Nat) (h_t_outburst : Nat) (h_t_text : Nat) (h_t_now_surfaces : Nat) (h_t_now_cliffs : Nat) (h_t_now_boulders : Nat) (h_t_now_scratches : Nat) (h_t_now_numbers : Nat) (h_t_now_facts : Nat) (h_t_now_signs : Nat) (h_t_now_areas : Nat) (h_t_now_heights : Nat) (t_firstKept : Int32) (t_secondKept : Int32) (t_now_ridges : Int32) (t_now_surfaces : Nat → Int32) (p1 : Int32) (p2 : Int32) (p3 : Int32) (o0 : Int32) (o1 : Nat → Int32) (hf : f_X9_surface t_now_surfaces p1 p2 p3 = some (o0, o1)) : CM l yX9_surface wsX9_surface rmX9_surface (kS te) dC dI cI cZ [.ref h_t, .int p1, .int p2, .int p3] [(h_t, .inr (7, fX9 h_t_now h_t_beforeRead h_t_firstImage h_t_secondImage h_t_valley h_t_ages h_t_fronts h_t_outburst h_t_text t_firstKept t_secondKept)), (h_t_now, .inr (1, fX1 h_t_now_surfaces h_t_now_cliffs h_t_now_boulders h_t_now_scratches h_t_now_numbers h_t_now_facts h_t_now_signs h_t_now_areas h_t_now_heights t_now_ridges)), (h_t_now_surfaces, .inl (cI, 192, .inl t_now_surfaces))] [(h_t, .inr (7, fX9 h_t_now h_t_beforeRead h_t_firstImage h_t_secondImage h_t_valley h_t_ages h_t_fronts h_t_outburst h_t_text t_firstKept t_secondKept)), (h_t_now, .inr (1, fX1 h_t_now_surfaces h_t_now_cliffs h_t_now_boulders h_t_now_scratches h_t_now_numbers h_t_now_facts h_t_now_signs h_t_now_areas h_t_now_heights t_now_ridges)), (h_t_now_surfaces, .inl (cI, 192, .inl o1))] (some (.int o0)) := by
  refine CM_of (cc := cX9_surface) (maxL := 4) (ret := (some .int)) (by decide +kernel) rfl (Nat.le_of_ble_eq_true rfl) ?_
  intro p e s m args below meth c A Q hx hb hr hml hown hts hlocks hA hK hP hD hS hE hQ hAe ls hl
  have hown : s.vm.findClass RX9 = some m.cls := hown
  have hl : lv_has ls 4 [(0, .ref h_t), (1, .int p1), (2, .int p2), (3, .int p3)] := hl
  unfold f_X9_surface at hf
  refine lv_iload_n hx hb dX9_surface_0 rfl (lv_at hl 1 rfl) ?_
  obtain ⟨r1, hg2, hf⟩ := bd1_some hf
  refine CM_callS (As := [.int p1]) (rest := []) (wc := []) (w1 := []) (wr := [(h_t, .inr (7, fX9 h_t_now h_t_beforeRead h_t_firstImage h_t_secondImage h_t_valley h_t_ages h_t_fronts h_t_outburst h_t_text t_firstKept t_secondKept)), (h_t_now, .inr (1, fX1 h_t_now_surfaces h_t_now_cliffs h_t_now_boulders h_t_now_scratches h_t_now_numbers h_t_now_facts h_t_now_signs h_t_now_areas h_t_now_heights t_now_ridges)), (h_t_now_surfaces, .inl (cI, 192, .inl t_now_surfaces))]) (wo := [(h_t, .inr (7, fX9 h_t_now h_t_beforeRead h_t_firstImage h_t_secondImage h_t_valley h_t_ages h_t_fronts h_t_outburst h_t_text t_firstKept t_secondKept)), (h_t_now, .inr (1, fX1 h_t_now_surfaces h_t_now_cliffs h_t_now_boulders h_t_now_scratches h_t_now_numbers h_t_now_facts h_t_now_signs h_t_now_areas h_t_now_heights t_now_ridges)), (h_t_now_surfaces, .inl (cI, 192, .inl t_now_surfaces))]) (v := (some (.int r1))) ⟨hx, hb, hml, hown, hts⟩ (c_X9_isStage l dC dI cI cZ te p1 r1 hg2) (va_cwS 1 hts gX9_surface_X9_isStage rfl rfl rfl (by decide +kernel) ⟨Nat.le_of_ble_eq_true rfl, Nat.le_of_ble_eq_true rfl⟩) (kS_env te) hK hP hD hS hA hE [] [0, 1, 2] [0, 1, 2] rfl rfl (by decide) (by decide) (by decide) (by decide) rfl rfl hl.1 rfl (Nat.le_of_ble_eq_true rfl) dX9_surface_1 ⟨Nat.zero_le _, Nat.zero_le _⟩ (fun H locs hP hD hS => ?_)
  show W p l e rmX9_surface s m args below meth c H locs 0 0 Q (F0 m 4 ls [.int r1])
  refine lv_if_eq (tgt := 24) hx hb dX9_surface_4 (by decide) (fun c3 => ?_) (fun c3 => ?_)
  · replace hf := ifp c3 hf
    refine lv_bipush (v := (-2 : Int32)) hx hb dX9_surface_24 (by decide) ?_
    obtain ⟨rfl, rfl⟩ := inj2 hf
    subst hQ
    exact CM_iret hx hb hr rfl hlocks hAe hP hD hS dX9_surface_26
  · replace hf := ifn c3 hf
    refine lv_iload_n hx hb dX9_surface_7 rfl (lv_at hl 2 rfl) ?_
    obtain ⟨r4, hg5, hf⟩ := bd1_some hf
    refine CM_callS (As := [.int p2]) (rest := []) (wc := []) (w1 := []) (wr := [(h_t, .inr (7, fX9 h_t_now h_t_beforeRead h_t_firstImage h_t_secondImage h_t_valley h_t_ages h_t_fronts h_t_outburst h_t_text t_firstKept t_secondKept)), (h_t_now, .inr (1, fX1 h_t_now_surfaces h_t_now_cliffs h_t_now_boulders h_t_now_scratches h_t_now_numbers h_t_now_facts h_t_now_signs h_t_now_areas h_t_now_heights t_now_ridges)), (h_t_now_surfaces, .inl (cI, 192, .inl t_now_surfaces))]) (wo := [(h_t, .inr (7, fX9 h_t_now h_t_beforeRead h_t_firstImage h_t_secondImage h_t_valley h_t_ages h_t_fronts h_t_outburst h_t_text t_firstKept t_secondKept)), (h_t_now, .inr (1, fX1 h_t_now_surfaces h_t_now_cliffs h_t_now_boulders h_t_now_scratches h_t_now_numbers h_t_now_facts h_t_now_signs h_t_now_areas h_t_now_heights t_now_ridges)), (h_t_now_surfaces, .inl (cI, 192, .inl t_now_surfaces))]) (v := (some (.int r4))) ⟨hx, hb, hml, hown, hts⟩ (c_X9_isPlace l dC dI cI cZ te p2 r4 hg5) (va_cwS 1 hts gX9_surface_X9_isPlace rfl rfl rfl (by decide +kernel) ⟨Nat.le_of_ble_eq_true rfl, Nat.le_of_ble_eq_true rfl⟩) (kS_env te) hK hP hD hS hA hE [] [0, 1, 2] [0, 1, 2] rfl rfl (by decide) (by decide) (by decide) (by decide) rfl rfl hl.1 rfl (Nat.le_of_ble_eq_true rfl) dX9_surface_8 ⟨Nat.zero_le _, Nat.zero_le _⟩ (fun H locs hP hD hS => ?_)
    show W p l e rmX9_surface s m args below meth c H locs 0 0 Q (F0 m 11 ls [.int r4])
    refine lv_if_eq (tgt := 24) hx hb dX9_surface_11 (by decide) (fun c6 => ?_) (fun c6 => ?_)
    · replace hf := ifp c6 hf
      refine lv_bipush (v := (-2 : Int32)) hx hb dX9_surface_24 (by decide) ?_
      obtain ⟨rfl, rfl⟩ := inj2 hf
      subst hQ
      exact CM_iret hx hb hr rfl hlocks hAe hP hD hS dX9_surface_26
    · replace hf := ifn c6 hf
      refine lv_iload_n hx hb dX9_surface_14 rfl (lv_at hl 3 rfl) ?_
      refine lv_iconst (v := (0 : Int32)) hx hb dX9_surface_15 (by decide) ?_
      refine lv_bipush (v := (99 : Int32)) hx hb dX9_surface_16 (by decide) ?_
      obtain ⟨r7, hg8, hf⟩ := bd1_some hf
      refine CM_callS (As := [.int p3, .int (0 : Int32), .int (99 : Int32)]) (rest := []) (wc := []) (w1 := []) (wr := [(h_t, .inr (7, fX9 h_t_now h_t_beforeRead h_t_firstImage h_t_secondImage h_t_valley h_t_ages h_t_fronts h_t_outburst h_t_text t_firstKept t_secondKept)), (h_t_now, .inr (1, fX1 h_t_now_surfaces h_t_now_cliffs h_t_now_boulders h_t_now_scratches h_t_now_numbers h_t_now_facts h_t_now_signs h_t_now_areas h_t_now_heights t_now_ridges)), (h_t_now_surfaces, .inl (cI, 192, .inl t_now_surfaces))]) (wo := [(h_t, .inr (7, fX9 h_t_now h_t_beforeRead h_t_firstImage h_t_secondImage h_t_valley h_t_ages h_t_fronts h_t_outburst h_t_text t_firstKept t_secondKept)), (h_t_now, .inr (1, fX1 h_t_now_surfaces h_t_now_cliffs h_t_now_boulders h_t_now_scratches h_t_now_numbers h_t_now_facts h_t_now_signs h_t_now_areas h_t_now_heights t_now_ridges)), (h_t_now_surfaces, .inl (cI, 192, .inl t_now_surfaces))]) (v := (some (.int r7))) ⟨hx, hb, hml, hown, hts⟩ (c_X9_within l dC dI cI cZ te p3 (0 : Int32) (99 : Int32) r7 hg8) (va_cwS 3 hts gX9_surface_X9_within rfl rfl rfl (by decide +kernel) ⟨Nat.le_of_ble_eq_true rfl, Nat.le_of_ble_eq_true rfl⟩) (kS_env te) hK hP hD hS hA hE [] [0, 1, 2] [0, 1, 2] rfl rfl (by decide) (by decide) (by decide) (by decide) rfl rfl hl.1 rfl (Nat.le_of_ble_eq_true rfl) dX9_surface_18 ⟨Nat.zero_le _, Nat.zero_le _⟩ (fun H locs hP hD hS => ?_)
      show W p l e rmX9_surface s m args below meth c H locs 0 0 Q (F0 m 21 ls [.int r7])
      refine lv_if_ne (tgt := 27) hx hb dX9_surface_21 (by decide) (fun c9 => ?_) (fun c9 => ?_)
      · replace hf := ifn c9 hf
        refine lv_aload_n hx hb dX9_surface_27 rfl (lv_at hl 0 rfl) ?_
        refine va_get (D := (dC, dI)) (ci := 7) (v := .ref h_t_now) (C := RX9) (T := TX9) (N := 11) hx hb hts kX9_surface_0 hown hK hP 0 rfl rfl 0 (by decide) (hts _ kX9_surface_1) (fun _ h9 => h9) rfl dX9_surface_28 ?_
        refine va_get (D := (dC, dI)) (ci := 1) (v := .ref h_t_now_surfaces) (C := RX1) (T := TX1) (N := 10) hx hb hts kX9_surface_2 hown hK hP 1 rfl rfl 0 (by decide) (hts _ kX9_surface_3) (fun _ h9 => h9) rfl dX9_surface_31 ?_
        refine lv_bipush (v := (64 : Int32)) hx hb dX9_surface_34 (by decide) ?_
        refine lv_iload_n hx hb dX9_surface_36 rfl (lv_at hl 1 rfl) ?_
        refine lv_imul hx hb dX9_surface_37 ?_
        refine lv_iload_n hx hb dX9_surface_38 rfl (lv_at hl 2 rfl) ?_
        refine lv_iadd hx hb dX9_surface_39 ?_
        refine lv_iload_n hx hb dX9_surface_40 rfl (lv_at hl 3 rfl) ?_
        obtain ⟨r10, y11, hg12, hf⟩ := bd2_some hf
        refine CM_callS (As := [.ref h_t_now_surfaces, .int (((64 : Int32) * p1) + p2), .int p3]) (rest := []) (wc := [(h_t_now_surfaces, .inl (cI, 192, .inl t_now_surfaces))]) (w1 := [(h_t_now_surfaces, .inl (cI, 192, .inl y11))]) (wr := [(h_t, .inr (7, fX9 h_t_now h_t_beforeRead h_t_firstImage h_t_secondImage h_t_valley h_t_ages h_t_fronts h_t_outburst h_t_text t_firstKept t_secondKept)), (h_t_now, .inr (1, fX1 h_t_now_surfaces h_t_now_cliffs h_t_now_boulders h_t_now_scratches h_t_now_numbers h_t_now_facts h_t_now_signs h_t_now_areas h_t_now_heights t_now_ridges))]) (wo := [(h_t, .inr (7, fX9 h_t_now h_t_beforeRead h_t_firstImage h_t_secondImage h_t_valley h_t_ages h_t_fronts h_t_outburst h_t_text t_firstKept t_secondKept)), (h_t_now, .inr (1, fX1 h_t_now_surfaces h_t_now_cliffs h_t_now_boulders h_t_now_scratches h_t_now_numbers h_t_now_facts h_t_now_signs h_t_now_areas h_t_now_heights t_now_ridges)), (h_t_now_surfaces, .inl (cI, 192, .inl y11))]) (v := (some (.int r10))) ⟨hx, hb, hml, hown, hts⟩ (c_X9_exchange l dC dI cI cZ te h_t_now_surfaces (192) t_now_surfaces (((64 : Int32) * p1) + p2) p3 r10 y11 hg12) (va_cwS 3 hts gX9_surface_X9_exchange rfl rfl rfl (by decide +kernel) ⟨Nat.le_of_ble_eq_true rfl, Nat.le_of_ble_eq_true rfl⟩) (kS_env te) hK hP hD hS hA hE [2] [0, 1] [0, 1, 2] rfl rfl (by decide) (by decide) (by decide) (by decide) rfl rfl hl.1 rfl (Nat.le_of_ble_eq_true rfl) dX9_surface_41 ⟨Nat.zero_le _, Nat.zero_le _⟩ (fun H locs hP hD hS => ?_)
        show W p l e rmX9_surface s m args below meth c H locs 0 0 Q (F0 m 44 ls [.int r10])
        obtain ⟨rfl, rfl⟩ := inj2 hf
        subst hQ
        exact CM_iret hx hb hr rfl hlocks hAe hP hD hS dX9_surface_44
      · replace hf := ifp c9 hf
        refine lv_bipush (v := (-2 : Int32)) hx hb dX9_surface_24 (by decide) ?_
        obtain ⟨rfl, rfl⟩ := inj2 hf
        subst hQ
        exact CM_iret hx hb hr rfl hlocks hAe hP hD hS dX9_surface_26
def rmX9_slope : Room := { frames := 2, cells := 0, slots := 0, locals := 42 }
set_option maxRecDepth 20000 in
theorem kX9_slope_0 : ∀ w ∈ u_ws RX9 TX9 11, w ∈ wsX9_slope := by decide +kernel
set_option maxRecDepth 20000 in
theorem kX9_slope_1 : Cond.fieldLink RX9 10 "StoneRiver" "now" "LStoneRiver$Found;" ∈ wsX9_slope := by decide +kernel
set_option maxRecDepth 20000 in
theorem kX9_slope_2 : ∀ w ∈ u_ws RX1 TX1 10, w ∈ wsX9_slope := by decide +kernel
set_option maxRecDepth 20000 in
theorem kX9_slope_3 : Cond.fieldLink RX9 71 "StoneRiver$Found" "surfaces" "[I" ∈ wsX9_slope := by decide +kernel
set_option maxRecDepth 20000 in
theorem kX9_slope_4 : Cond.methodLink RX9 79 Lib.Math.min.name ∈ wsX9_slope := by decide +kernel
set_option maxRecDepth 20000 in
theorem kX9_slope_5 : Cond.static Lib.Math.min.name ∈ wsX9_slope := by decide +kernel
set_option maxRecDepth 20000 in
theorem kX9_slope_6 : Cond.initialized "java/lang/Math" ∈ wsX9_slope := by decide +kernel
set_option maxRecDepth 20000 in
theorem kX9_slope_7 : Cond.code Lib.Math.min.name Lib.Math.min.code 2 (some .int) ∈ wsX9_slope := by decide +kernel
set_option maxRecDepth 20000 in
theorem kX9_slope_8 : Cond.methodLink RX9 85 Lib.Math.max.name ∈ wsX9_slope := by decide +kernel
set_option maxRecDepth 20000 in
theorem kX9_slope_9 : Cond.static Lib.Math.max.name ∈ wsX9_slope := by decide +kernel
set_option maxRecDepth 20000 in
theorem kX9_slope_10 : Cond.code Lib.Math.max.name Lib.Math.max.code 2 (some .int) ∈ wsX9_slope := by decide +kernel
set_option maxHeartbeats 4000000 in
set_option maxRecDepth 100000 in
theorem c_X9_slope (l : Launch) (dC : Nat → ClassId) (dI : Nat → Nat → Nat) (cI cZ : ClassId) (te : Nat → Nat) (h_t : Nat) (h_t_now : Nat) (h_t_beforeRead : Nat) (h_t_firstImage : Nat) (h_t_secondImage : Nat) (h_t_valley : Nat) (h_t_ages : Nat) (h_t_fronts : Nat) (h_t_outburst : Nat) (h_t_text : Nat) (h_t_now_surfaces : Nat) (h_t_now_cliffs : Nat) (h_t_now_boulders : Nat) (h_t_now_scratches : Nat) (h_t_now_numbers : Nat) (h_t_now_facts : Nat) (h_t_now_signs : Nat) (h_t_now_areas : Nat) (h_t_now_heights : Nat) (t_firstKept : Int32) (t_secondKept : Int32) (t_now_ridges : Int32) (t_now_surfaces : Nat → Int32) (p1 : Int32) (p2 : Int32) (p3 : Int32) (p4 : Int32) (o0 : Int32) (o1 : Nat → Int32) (hf : f_X9_slope t_now_surfaces p1 p2 p3 p4 = some (o0, o1)) : CM l yX9_slope wsX9_slope rmX9_slope (kS te) dC dI cI cZ [.ref h_t, .int p1, .int p2, .int p3, .int p4] [(h_t, .inr (7, fX9 h_t_now h_t_beforeRead h_t_firstImage h_t_secondImage h_t_valley h_t_ages h_t_fronts h_t_outburst h_t_text t_firstKept t_secondKept)), (h_t_now, .inr (1, fX1 h_t_now_surfaces h_t_now_cliffs h_t_now_boulders h_t_now_scratches h_t_now_numbers h_t_now_facts h_t_now_signs h_t_now_areas h_t_now_heights t_now_ridges)), (h_t_now_surfaces, .inl (cI, 192, .inl t_now_surfaces))] [(h_t, .inr (7, fX9 h_t_now h_t_beforeRead h_t_firstImage h_t_secondImage h_t_valley h_t_ages h_t_fronts h_t_outburst h_t_text t_firstKept t_secondKept)), (h_t_now, .inr (1, fX1 h_t_now_surfaces h_t_now_cliffs h_t_now_boulders h_t_now_scratches h_t_now_numbers h_t_now_facts h_t_now_signs h_t_now_areas h_t_now_heights t_now_ridges)), (h_t_now_surfaces, .inl (cI, 192, .inl o1))] (some (.int o0)) := by
  refine CM_of (cc := cX9_slope) (maxL := 7) (ret := (some .int)) (by decide +kernel) rfl (Nat.le_of_ble_eq_true rfl) ?_
  intro p e s m args below meth c A Q hx hb hr hml hown hts hlocks hA hK hP hD hS hE hQ hAe ls hl
  have hown : s.vm.findClass RX9 = some m.cls := hown
  have hl : lv_has ls 7 [(0, .ref h_t), (1, .int p1), (2, .int p2), (3, .int p3), (4, .int p4)] := hl
  unfold f_X9_slope at hf
  refine lv_iload_n hx hb dX9_slope_0 rfl (lv_at hl 1 rfl) ?_
  obtain ⟨r1, hg2, hf⟩ := bd1_some hf
  refine CM_callS (As := [.int p1]) (rest := []) (wc := []) (w1 := []) (wr := [(h_t, .inr (7, fX9 h_t_now h_t_beforeRead h_t_firstImage h_t_secondImage h_t_valley h_t_ages h_t_fronts h_t_outburst h_t_text t_firstKept t_secondKept)), (h_t_now, .inr (1, fX1 h_t_now_surfaces h_t_now_cliffs h_t_now_boulders h_t_now_scratches h_t_now_numbers h_t_now_facts h_t_now_signs h_t_now_areas h_t_now_heights t_now_ridges)), (h_t_now_surfaces, .inl (cI, 192, .inl t_now_surfaces))]) (wo := [(h_t, .inr (7, fX9 h_t_now h_t_beforeRead h_t_firstImage h_t_secondImage h_t_valley h_t_ages h_t_fronts h_t_outburst h_t_text t_firstKept t_secondKept)), (h_t_now, .inr (1, fX1 h_t_now_surfaces h_t_now_cliffs h_t_now_boulders h_t_now_scratches h_t_now_numbers h_t_now_facts h_t_now_signs h_t_now_areas h_t_now_heights t_now_ridges)), (h_t_now_surfaces, .inl (cI, 192, .inl t_now_surfaces))]) (v := (some (.int r1))) ⟨hx, hb, hml, hown, hts⟩ (c_X9_isStage l dC dI cI cZ te p1 r1 hg2) (va_cwS 1 hts gX9_slope_X9_isStage rfl rfl rfl (by decide +kernel) ⟨Nat.le_of_ble_eq_true rfl, Nat.le_of_ble_eq_true rfl⟩) (kS_env te) hK hP hD hS hA hE [] [0, 1, 2] [0, 1, 2] rfl rfl (by decide) (by decide) (by decide) (by decide) rfl rfl hl.1 rfl (Nat.le_of_ble_eq_true rfl) dX9_slope_1 ⟨Nat.zero_le _, Nat.zero_le _⟩ (fun H locs hP hD hS => ?_)
  show W p l e rmX9_slope s m args below meth c H locs 0 0 Q (F0 m 4 ls [.int r1])
  refine lv_if_eq (tgt := 39) hx hb dX9_slope_4 (by decide) (fun c3 => ?_) (fun c3 => ?_)
  · replace hf := ifp c3 hf
    refine lv_bipush (v := (-2 : Int32)) hx hb dX9_slope_39 (by decide) ?_
    obtain ⟨rfl, rfl⟩ := inj2 hf
    subst hQ
    exact CM_iret hx hb hr rfl hlocks hAe hP hD hS dX9_slope_41
  · replace hf := ifn c3 hf
    refine lv_iload_n hx hb dX9_slope_7 rfl (lv_at hl 2 rfl) ?_
    refine lv_iconst (v := (0 : Int32)) hx hb dX9_slope_8 (by decide) ?_
    refine lv_bipush (v := (7 : Int32)) hx hb dX9_slope_9 (by decide) ?_
    obtain ⟨r4, hg5, hf⟩ := bd1_some hf
    refine CM_callS (As := [.int p2, .int (0 : Int32), .int (7 : Int32)]) (rest := []) (wc := []) (w1 := []) (wr := [(h_t, .inr (7, fX9 h_t_now h_t_beforeRead h_t_firstImage h_t_secondImage h_t_valley h_t_ages h_t_fronts h_t_outburst h_t_text t_firstKept t_secondKept)), (h_t_now, .inr (1, fX1 h_t_now_surfaces h_t_now_cliffs h_t_now_boulders h_t_now_scratches h_t_now_numbers h_t_now_facts h_t_now_signs h_t_now_areas h_t_now_heights t_now_ridges)), (h_t_now_surfaces, .inl (cI, 192, .inl t_now_surfaces))]) (wo := [(h_t, .inr (7, fX9 h_t_now h_t_beforeRead h_t_firstImage h_t_secondImage h_t_valley h_t_ages h_t_fronts h_t_outburst h_t_text t_firstKept t_secondKept)), (h_t_now, .inr (1, fX1 h_t_now_surfaces h_t_now_cliffs h_t_now_boulders h_t_now_scratches h_t_now_numbers h_t_now_facts h_t_now_signs h_t_now_areas h_t_now_heights t_now_ridges)), (h_t_now_surfaces, .inl (cI, 192, .inl t_now_surfaces))]) (v := (some (.int r4))) ⟨hx, hb, hml, hown, hts⟩ (c_X9_within l dC dI cI cZ te p2 (0 : Int32) (7 : Int32) r4 hg5) (va_cwS 3 hts gX9_slope_X9_within rfl rfl rfl (by decide +kernel) ⟨Nat.le_of_ble_eq_true rfl, Nat.le_of_ble_eq_true rfl⟩) (kS_env te) hK hP hD hS hA hE [] [0, 1, 2] [0, 1, 2] rfl rfl (by decide) (by decide) (by decide) (by decide) rfl rfl hl.1 rfl (Nat.le_of_ble_eq_true rfl) dX9_slope_11 ⟨Nat.zero_le _, Nat.zero_le _⟩ (fun H locs hP hD hS => ?_)
    show W p l e rmX9_slope s m args below meth c H locs 0 0 Q (F0 m 14 ls [.int r4])
    refine lv_if_eq (tgt := 39) hx hb dX9_slope_14 (by decide) (fun c6 => ?_) (fun c6 => ?_)
    · replace hf := ifp c6 hf
      refine lv_bipush (v := (-2 : Int32)) hx hb dX9_slope_39 (by decide) ?_
      obtain ⟨rfl, rfl⟩ := inj2 hf
      subst hQ
      exact CM_iret hx hb hr rfl hlocks hAe hP hD hS dX9_slope_41
    · replace hf := ifn c6 hf
      refine lv_iload_n hx hb dX9_slope_17 rfl (lv_at hl 3 rfl) ?_
      refine lv_iconst (v := (0 : Int32)) hx hb dX9_slope_18 (by decide) ?_
      refine lv_bipush (v := (99 : Int32)) hx hb dX9_slope_19 (by decide) ?_
      obtain ⟨r7, hg8, hf⟩ := bd1_some hf
      refine CM_callS (As := [.int p3, .int (0 : Int32), .int (99 : Int32)]) (rest := []) (wc := []) (w1 := []) (wr := [(h_t, .inr (7, fX9 h_t_now h_t_beforeRead h_t_firstImage h_t_secondImage h_t_valley h_t_ages h_t_fronts h_t_outburst h_t_text t_firstKept t_secondKept)), (h_t_now, .inr (1, fX1 h_t_now_surfaces h_t_now_cliffs h_t_now_boulders h_t_now_scratches h_t_now_numbers h_t_now_facts h_t_now_signs h_t_now_areas h_t_now_heights t_now_ridges)), (h_t_now_surfaces, .inl (cI, 192, .inl t_now_surfaces))]) (wo := [(h_t, .inr (7, fX9 h_t_now h_t_beforeRead h_t_firstImage h_t_secondImage h_t_valley h_t_ages h_t_fronts h_t_outburst h_t_text t_firstKept t_secondKept)), (h_t_now, .inr (1, fX1 h_t_now_surfaces h_t_now_cliffs h_t_now_boulders h_t_now_scratches h_t_now_numbers h_t_now_facts h_t_now_signs h_t_now_areas h_t_now_heights t_now_ridges)), (h_t_now_surfaces, .inl (cI, 192, .inl t_now_surfaces))]) (v := (some (.int r7))) ⟨hx, hb, hml, hown, hts⟩ (c_X9_within l dC dI cI cZ te p3 (0 : Int32) (99 : Int32) r7 hg8) (va_cwS 3 hts gX9_slope_X9_within rfl rfl rfl (by decide +kernel) ⟨Nat.le_of_ble_eq_true rfl, Nat.le_of_ble_eq_true rfl⟩) (kS_env te) hK hP hD hS hA hE [] [0, 1, 2] [0, 1, 2] rfl rfl (by decide) (by decide) (by decide) (by decide) rfl rfl hl.1 rfl (Nat.le_of_ble_eq_true rfl) dX9_slope_21 ⟨Nat.zero_le _, Nat.zero_le _⟩ (fun H locs hP hD hS => ?_)
      show W p l e rmX9_slope s m args below meth c H locs 0 0 Q (F0 m 24 ls [.int r7])
      refine lv_if_eq (tgt := 39) hx hb dX9_slope_24 (by decide) (fun c9 => ?_) (fun c9 => ?_)
      · replace hf := ifp c9 hf
        refine lv_bipush (v := (-2 : Int32)) hx hb dX9_slope_39 (by decide) ?_
        obtain ⟨rfl, rfl⟩ := inj2 hf
        subst hQ
        exact CM_iret hx hb hr rfl hlocks hAe hP hD hS dX9_slope_41
      · replace hf := ifn c9 hf
        refine lv_iload hx hb dX9_slope_27 (lv_at hl 4 rfl) ?_
        refine lv_bipush (v := (-50 : Int32)) hx hb dX9_slope_29 (by decide) ?_
        refine lv_bipush (v := (50 : Int32)) hx hb dX9_slope_31 (by decide) ?_
        obtain ⟨r10, hg11, hf⟩ := bd1_some hf
        refine CM_callS (As := [.int p4, .int (-50 : Int32), .int (50 : Int32)]) (rest := []) (wc := []) (w1 := []) (wr := [(h_t, .inr (7, fX9 h_t_now h_t_beforeRead h_t_firstImage h_t_secondImage h_t_valley h_t_ages h_t_fronts h_t_outburst h_t_text t_firstKept t_secondKept)), (h_t_now, .inr (1, fX1 h_t_now_surfaces h_t_now_cliffs h_t_now_boulders h_t_now_scratches h_t_now_numbers h_t_now_facts h_t_now_signs h_t_now_areas h_t_now_heights t_now_ridges)), (h_t_now_surfaces, .inl (cI, 192, .inl t_now_surfaces))]) (wo := [(h_t, .inr (7, fX9 h_t_now h_t_beforeRead h_t_firstImage h_t_secondImage h_t_valley h_t_ages h_t_fronts h_t_outburst h_t_text t_firstKept t_secondKept)), (h_t_now, .inr (1, fX1 h_t_now_surfaces h_t_now_cliffs h_t_now_boulders h_t_now_scratches h_t_now_numbers h_t_now_facts h_t_now_signs h_t_now_areas h_t_now_heights t_now_ridges)), (h_t_now_surfaces, .inl (cI, 192, .inl t_now_surfaces))]) (v := (some (.int r10))) ⟨hx, hb, hml, hown, hts⟩ (c_X9_within l dC dI cI cZ te p4 (-50 : Int32) (50 : Int32) r10 hg11) (va_cwS 3 hts gX9_slope_X9_within rfl rfl rfl (by decide +kernel) ⟨Nat.le_of_ble_eq_true rfl, Nat.le_of_ble_eq_true rfl⟩) (kS_env te) hK hP hD hS hA hE [] [0, 1, 2] [0, 1, 2] rfl rfl (by decide) (by decide) (by decide) (by decide) rfl rfl hl.1 rfl (Nat.le_of_ble_eq_true rfl) dX9_slope_33 ⟨Nat.zero_le _, Nat.zero_le _⟩ (fun H locs hP hD hS => ?_)
        show W p l e rmX9_slope s m args below meth c H locs 0 0 Q (F0 m 36 ls [.int r10])
        refine lv_if_ne (tgt := 42) hx hb dX9_slope_36 (by decide) (fun c12 => ?_) (fun c12 => ?_)
        · replace hf := ifn c12 hf
          refine lv_bipush (v := (64 : Int32)) hx hb dX9_slope_42 (by decide) ?_
          refine lv_iload_n hx hb dX9_slope_44 rfl (lv_at hl 1 rfl) ?_
          refine lv_imul hx hb dX9_slope_45 ?_
          refine lv_bipush (v := (8 : Int32)) hx hb dX9_slope_46 (by decide) ?_
          refine lv_iload_n hx hb dX9_slope_48 rfl (lv_at hl 2 rfl) ?_
          refine lv_imul hx hb dX9_slope_49 ?_
          refine lv_iadd hx hb dX9_slope_50 ?_
          obtain ⟨x13, e14, hf⟩ := nm_some hf
          refine lv_tope e14 ?_
          refine lv_istore (lv' := [(5, .int x13), (0, .ref h_t), (1, .int p1), (2, .int p2), (3, .int p3), (4, .int p4)]) hx hb dX9_slope_51 hl (by decide) rfl (fun ls hl => ?_)
          refine lv_iconst (v := (0 : Int32)) hx hb dX9_slope_53 (by decide) ?_
          refine lv_istore (lv' := [(6, .int (0 : Int32)), (5, .int x13), (0, .ref h_t), (1, .int p1), (2, .int p2), (3, .int p3), (4, .int p4)]) hx hb dX9_slope_54 hl (by decide) rfl (fun ls hl => ?_)
          have L35 : ∀ (fu27 : Nat) (y24 : Nat → Int32) (x25 : Int32) (y23 : Nat → Int32), f_X9_slope_L1 p3 p4 x13 fu27 y24 x25 = some y23 → (∀ (H : Heap) (locs : List Loc), va_P (dC, dI) vwCl [(h_t, .inr (7, fX9 h_t_now h_t_beforeRead h_t_firstImage h_t_secondImage h_t_valley h_t_ages h_t_fronts h_t_outburst h_t_text t_firstKept t_secondKept)), (h_t_now, .inr (1, fX1 h_t_now_surfaces h_t_now_cliffs h_t_now_boulders h_t_now_scratches h_t_now_numbers h_t_now_facts h_t_now_signs h_t_now_areas h_t_now_heights t_now_ridges)), (h_t_now_surfaces, .inl (cI, 192, .inl y23))] H → va_D A [(h_t, .inr (7, fX9 h_t_now h_t_beforeRead h_t_firstImage h_t_secondImage h_t_valley h_t_ages h_t_fronts h_t_outburst h_t_text t_firstKept t_secondKept)), (h_t_now, .inr (1, fX1 h_t_now_surfaces h_t_now_cliffs h_t_now_boulders h_t_now_scratches h_t_now_numbers h_t_now_facts h_t_now_signs h_t_now_areas h_t_now_heights t_now_ridges)), (h_t_now_surfaces, .inl (cI, 192, .inl y23))] → va_S A s.heap H locs → ∀ ls : Array Slot, lv_has ls 7 [] → W p l e rmX9_slope s m args below meth c H locs 0 0 Q (F0 m 98 ls [])) → ∀ (H : Heap) (locs : List Loc), va_P (dC, dI) vwCl [(h_t, .inr (7, fX9 h_t_now h_t_beforeRead h_t_firstImage h_t_secondImage h_t_valley h_t_ages h_t_fronts h_t_outburst h_t_text t_firstKept t_secondKept)), (h_t_now, .inr (1, fX1 h_t_now_surfaces h_t_now_cliffs h_t_now_boulders h_t_now_scratches h_t_now_numbers h_t_now_facts h_t_now_signs h_t_now_areas h_t_now_heights t_now_ridges)), (h_t_now_surfaces, .inl (cI, 192, .inl y24))] H → va_D A [(h_t, .inr (7, fX9 h_t_now h_t_beforeRead h_t_firstImage h_t_secondImage h_t_valley h_t_ages h_t_fronts h_t_outburst h_t_text t_firstKept t_secondKept)), (h_t_now, .inr (1, fX1 h_t_now_surfaces h_t_now_cliffs h_t_now_boulders h_t_now_scratches h_t_now_numbers h_t_now_facts h_t_now_signs h_t_now_areas h_t_now_heights t_now_ridges)), (h_t_now_surfaces, .inl (cI, 192, .inl y24))] → va_S A s.heap H locs → ∀ ls : Array Slot, lv_has ls 7 [(0, .ref h_t), (3, .int p3), (4, .int p4), (5, .int x13), (6, .int x25)] → W p l e rmX9_slope s m args below meth c H locs 0 0 Q (F0 m 56 ls []) := by
            intro fu27
            induction fu27 with
            | zero =>
              intro y24 x25 y23 hf
              unfold f_X9_slope_L1 at hf
              exact none_ne hf
            | succ fu27 ih26 =>
              intro y24 x25 y23 hf hX28 H locs hP hD hS ls hl
              unfold f_X9_slope_L1 at hf
              refine lv_iload hx hb dX9_slope_56 (lv_at hl 4 rfl) ?_
              refine lv_bipush (v := (8 : Int32)) hx hb dX9_slope_58 (by decide) ?_
              refine lv_icmp_ge (tgt := 98) hx hb dX9_slope_60 (by decide) (fun c29 => ?_) (fun c29 => ?_)
              · replace hf := ifp c29 hf
                obtain rfl := inj1 hf
                exact hX28 _ _ hP hD hS _ (lv_sub hl [] rfl)
              · replace hf := ifn c29 hf
                refine lv_aload_n hx hb dX9_slope_63 rfl (lv_at hl 0 rfl) ?_
                refine va_get (D := (dC, dI)) (ci := 7) (v := .ref h_t_now) (C := RX9) (T := TX9) (N := 11) hx hb hts kX9_slope_0 hown hK hP 0 rfl rfl 0 (by decide) (hts _ kX9_slope_1) (fun _ h9 => h9) rfl dX9_slope_64 ?_
                refine va_get (D := (dC, dI)) (ci := 1) (v := .ref h_t_now_surfaces) (C := RX1) (T := TX1) (N := 10) hx hb hts kX9_slope_2 hown hK hP 1 rfl rfl 0 (by decide) (hts _ kX9_slope_3) (fun _ h9 => h9) rfl dX9_slope_67 ?_
                refine lv_iload hx hb dX9_slope_70 (lv_at hl 3 rfl) ?_
                refine lv_iload hx hb dX9_slope_72 (lv_at hl 4 rfl) ?_
                refine lv_iadd hx hb dX9_slope_74 ?_
                refine lv_iconst (v := (0 : Int32)) hx hb dX9_slope_75 (by decide) ?_
                refine lv_bipush (v := (99 : Int32)) hx hb dX9_slope_76 (by decide) ?_
                refine lv_iload_n hx hb dX9_slope_78 rfl (lv_at hl 1 rfl) ?_
                refine lv_iload hx hb dX9_slope_79 (lv_at hl 2 rfl) ?_
                refine lv_iload hx hb dX9_slope_81 (lv_at hl 4 rfl) ?_
                refine lv_imul hx hb dX9_slope_83 ?_
                refine lv_isub hx hb dX9_slope_84 ?_
                refine va_mmin hx hb (hml.trans hl.1.symm) hown (hts _ kX9_slope_4) (hts _ kX9_slope_5) (hts _ kX9_slope_6) (hts _ kX9_slope_7) (Nat.le_of_ble_eq_true rfl) (Nat.le_of_ble_eq_true rfl) (Nat.zero_le _) (Nat.zero_le _) dX9_slope_85 ?_
                refine va_mmax hx hb (hml.trans hl.1.symm) hown (hts _ kX9_slope_8) (hts _ kX9_slope_9) (hts _ kX9_slope_6) (hts _ kX9_slope_10) (Nat.le_of_ble_eq_true rfl) (Nat.le_of_ble_eq_true rfl) (Nat.zero_le _) (Nat.zero_le _) dX9_slope_88 ?_
                obtain ⟨x30, e31, hf⟩ := nm_some hf
                refine lv_tope e31 ?_
                obtain ⟨g32, hf⟩ := chk_some hf
                obtain ⟨y33, e34, hf⟩ := nm_some hf
                refine va_iast hx hb hK hP hD hS 2 0 rfl rfl (gin_in g32) dX9_slope_91 (fun H locs hP hD hS => ?_)
                have hP : va_P (dC, dI) vwCl [(h_t, .inr (7, fX9 h_t_now h_t_beforeRead h_t_firstImage h_t_secondImage h_t_valley h_t_ages h_t_fronts h_t_outburst h_t_text t_firstKept t_secondKept)), (h_t_now, .inr (1, fX1 h_t_now_surfaces h_t_now_cliffs h_t_now_boulders h_t_now_scratches h_t_now_numbers h_t_now_facts h_t_now_signs h_t_now_areas h_t_now_heights t_now_ridges)), (h_t_now_surfaces, .inl (cI, 192, .inl y33))] H := by rw [e34]; exact hP
                have hD : va_D A [(h_t, .inr (7, fX9 h_t_now h_t_beforeRead h_t_firstImage h_t_secondImage h_t_valley h_t_ages h_t_fronts h_t_outburst h_t_text t_firstKept t_secondKept)), (h_t_now, .inr (1, fX1 h_t_now_surfaces h_t_now_cliffs h_t_now_boulders h_t_now_scratches h_t_now_numbers h_t_now_facts h_t_now_signs h_t_now_areas h_t_now_heights t_now_ridges)), (h_t_now_surfaces, .inl (cI, 192, .inl y33))] := by rw [e34]; exact hD
                refine lv_iinc (v := (x25 + (1 : Int32))) (lv' := [(6, .int (x25 + (1 : Int32))), (0, .ref h_t), (3, .int p3), (4, .int p4), (5, .int x13)]) hx hb dX9_slope_92 hl (k := 4) rfl rfl (by decide) rfl (fun ls hl => ?_)
                refine lv_goto (tgt := 56) hx hb dX9_slope_95 (by decide) ?_
                exact ih26 _ _ _ hf hX28 _ _ hP hD hS _ (lv_sub hl [1, 2, 3, 4, 0] rfl)
          obtain ⟨y23, hg, hf⟩ := bd1_some hf
          refine L35 FU _ _ _ hg ?_ _ _ hP hD hS _ (lv_sub hl [2, 5, 6, 1, 0] rfl)
          · intro H locs hP hD hS ls hl
            refine lv_iconst (v := (1 : Int32)) hx hb dX9_slope_98 (by decide) ?_
            obtain ⟨rfl, rfl⟩ := inj2 hf
            subst hQ
            exact CM_iret hx hb hr rfl hlocks hAe hP hD hS dX9_slope_99
        · replace hf := ifp c12 hf
          refine lv_bipush (v := (-2 : Int32)) hx hb dX9_slope_39 (by decide) ?_
          obtain ⟨rfl, rfl⟩ := inj2 hf
          subst hQ
          exact CM_iret hx hb hr rfl hlocks hAe hP hD hS dX9_slope_41
def rmX9_flow : Room := { frames := 2, cells := 0, slots := 0, locals := 50 }
set_option maxRecDepth 20000 in
theorem kX9_flow_0 : ∀ w ∈ u_ws RX9 TX9 11, w ∈ wsX9_flow := by decide +kernel
set_option maxRecDepth 20000 in
theorem kX9_flow_1 : Cond.fieldLink RX9 10 "StoneRiver" "now" "LStoneRiver$Found;" ∈ wsX9_flow := by decide +kernel
set_option maxRecDepth 20000 in
theorem kX9_flow_2 : ∀ w ∈ u_ws RX1 TX1 10, w ∈ wsX9_flow := by decide +kernel
set_option maxRecDepth 20000 in
theorem kX9_flow_3 : Cond.fieldLink RX9 71 "StoneRiver$Found" "surfaces" "[I" ∈ wsX9_flow := by decide +kernel
set_option maxHeartbeats 4000000 in
set_option maxRecDepth 100000 in
theorem c_X9_flow (l : Launch) (dC : Nat → ClassId) (dI : Nat → Nat → Nat) (cI cZ : ClassId) (te : Nat → Nat) (h_t : Nat) (h_t_now : Nat) (h_t_beforeRead : Nat) (h_t_firstImage : Nat) (h_t_secondImage : Nat) (h_t_valley : Nat) (h_t_ages : Nat) (h_t_fronts : Nat) (h_t_outburst : Nat) (h_t_text : Nat) (h_t_now_surfaces : Nat) (h_t_now_cliffs : Nat) (h_t_now_boulders : Nat) (h_t_now_scratches : Nat) (h_t_now_numbers : Nat) (h_t_now_facts : Nat) (h_t_now_signs : Nat) (h_t_now_areas : Nat) (h_t_now_heights : Nat) (t_firstKept : Int32) (t_secondKept : Int32) (t_now_ridges : Int32) (t_now_surfaces : Nat → Int32) (p1 : Int32) (p2 : Int32) (o0 : Int32) (hf : f_X9_flow t_now_surfaces p1 p2 = some o0) : CM l yX9_flow wsX9_flow rmX9_flow (kS te) dC dI cI cZ [.ref h_t, .int p1, .int p2] [(h_t, .inr (7, fX9 h_t_now h_t_beforeRead h_t_firstImage h_t_secondImage h_t_valley h_t_ages h_t_fronts h_t_outburst h_t_text t_firstKept t_secondKept)), (h_t_now, .inr (1, fX1 h_t_now_surfaces h_t_now_cliffs h_t_now_boulders h_t_now_scratches h_t_now_numbers h_t_now_facts h_t_now_signs h_t_now_areas h_t_now_heights t_now_ridges)), (h_t_now_surfaces, .inl (cI, 192, .inl t_now_surfaces))] [(h_t, .inr (7, fX9 h_t_now h_t_beforeRead h_t_firstImage h_t_secondImage h_t_valley h_t_ages h_t_fronts h_t_outburst h_t_text t_firstKept t_secondKept)), (h_t_now, .inr (1, fX1 h_t_now_surfaces h_t_now_cliffs h_t_now_boulders h_t_now_scratches h_t_now_numbers h_t_now_facts h_t_now_signs h_t_now_areas h_t_now_heights t_now_ridges)), (h_t_now_surfaces, .inl (cI, 192, .inl t_now_surfaces))] (some (.int o0)) := by
  refine CM_of (cc := cX9_flow) (maxL := 3) (ret := (some .int)) (by decide +kernel) rfl (Nat.le_of_ble_eq_true rfl) ?_
  intro p e s m args below meth c A Q hx hb hr hml hown hts hlocks hA hK hP hD hS hE hQ hAe ls hl
  have hown : s.vm.findClass RX9 = some m.cls := hown
  have hl : lv_has ls 3 [(0, .ref h_t), (1, .int p1), (2, .int p2)] := hl
  unfold f_X9_flow at hf
  refine lv_iload_n hx hb dX9_flow_0 rfl (lv_at hl 1 rfl) ?_
  obtain ⟨r1, hg2, hf⟩ := bd1_some hf
  refine CM_callS (As := [.int p1]) (rest := []) (wc := []) (w1 := []) (wr := [(h_t, .inr (7, fX9 h_t_now h_t_beforeRead h_t_firstImage h_t_secondImage h_t_valley h_t_ages h_t_fronts h_t_outburst h_t_text t_firstKept t_secondKept)), (h_t_now, .inr (1, fX1 h_t_now_surfaces h_t_now_cliffs h_t_now_boulders h_t_now_scratches h_t_now_numbers h_t_now_facts h_t_now_signs h_t_now_areas h_t_now_heights t_now_ridges)), (h_t_now_surfaces, .inl (cI, 192, .inl t_now_surfaces))]) (wo := [(h_t, .inr (7, fX9 h_t_now h_t_beforeRead h_t_firstImage h_t_secondImage h_t_valley h_t_ages h_t_fronts h_t_outburst h_t_text t_firstKept t_secondKept)), (h_t_now, .inr (1, fX1 h_t_now_surfaces h_t_now_cliffs h_t_now_boulders h_t_now_scratches h_t_now_numbers h_t_now_facts h_t_now_signs h_t_now_areas h_t_now_heights t_now_ridges)), (h_t_now_surfaces, .inl (cI, 192, .inl t_now_surfaces))]) (v := (some (.int r1))) ⟨hx, hb, hml, hown, hts⟩ (c_X9_isStage l dC dI cI cZ te p1 r1 hg2) (va_cwS 1 hts gX9_flow_X9_isStage rfl rfl rfl (by decide +kernel) ⟨Nat.le_of_ble_eq_true rfl, Nat.le_of_ble_eq_true rfl⟩) (kS_env te) hK hP hD hS hA hE [] [0, 1, 2] [0, 1, 2] rfl rfl (by decide) (by decide) (by decide) (by decide) rfl rfl hl.1 rfl (Nat.le_of_ble_eq_true rfl) dX9_flow_1 ⟨Nat.zero_le _, Nat.zero_le _⟩ (fun H locs hP hD hS => ?_)
  show W p l e rmX9_flow s m args below meth c H locs 0 0 Q (F0 m 4 ls [.int r1])
  refine lv_if_eq (tgt := 14) hx hb dX9_flow_4 (by decide) (fun c3 => ?_) (fun c3 => ?_)
  · replace hf := ifp c3 hf
    refine lv_bipush (v := (-2 : Int32)) hx hb dX9_flow_14 (by decide) ?_
    obtain rfl := inj1 hf
    subst hQ
    exact CM_iret hx hb hr rfl hlocks hAe hP hD hS dX9_flow_16
  · replace hf := ifn c3 hf
    refine lv_iload_n hx hb dX9_flow_7 rfl (lv_at hl 2 rfl) ?_
    obtain ⟨r4, hg5, hf⟩ := bd1_some hf
    refine CM_callS (As := [.int p2]) (rest := []) (wc := []) (w1 := []) (wr := [(h_t, .inr (7, fX9 h_t_now h_t_beforeRead h_t_firstImage h_t_secondImage h_t_valley h_t_ages h_t_fronts h_t_outburst h_t_text t_firstKept t_secondKept)), (h_t_now, .inr (1, fX1 h_t_now_surfaces h_t_now_cliffs h_t_now_boulders h_t_now_scratches h_t_now_numbers h_t_now_facts h_t_now_signs h_t_now_areas h_t_now_heights t_now_ridges)), (h_t_now_surfaces, .inl (cI, 192, .inl t_now_surfaces))]) (wo := [(h_t, .inr (7, fX9 h_t_now h_t_beforeRead h_t_firstImage h_t_secondImage h_t_valley h_t_ages h_t_fronts h_t_outburst h_t_text t_firstKept t_secondKept)), (h_t_now, .inr (1, fX1 h_t_now_surfaces h_t_now_cliffs h_t_now_boulders h_t_now_scratches h_t_now_numbers h_t_now_facts h_t_now_signs h_t_now_areas h_t_now_heights t_now_ridges)), (h_t_now_surfaces, .inl (cI, 192, .inl t_now_surfaces))]) (v := (some (.int r4))) ⟨hx, hb, hml, hown, hts⟩ (c_X9_isPlace l dC dI cI cZ te p2 r4 hg5) (va_cwS 1 hts gX9_flow_X9_isPlace rfl rfl rfl (by decide +kernel) ⟨Nat.le_of_ble_eq_true rfl, Nat.le_of_ble_eq_true rfl⟩) (kS_env te) hK hP hD hS hA hE [] [0, 1, 2] [0, 1, 2] rfl rfl (by decide) (by decide) (by decide) (by decide) rfl rfl hl.1 rfl (Nat.le_of_ble_eq_true rfl) dX9_flow_8 ⟨Nat.zero_le _, Nat.zero_le _⟩ (fun H locs hP hD hS => ?_)
    show W p l e rmX9_flow s m args below meth c H locs 0 0 Q (F0 m 11 ls [.int r4])
    refine lv_if_ne (tgt := 17) hx hb dX9_flow_11 (by decide) (fun c6 => ?_) (fun c6 => ?_)
    · replace hf := ifn c6 hf
      refine lv_aload_n hx hb dX9_flow_17 rfl (lv_at hl 0 rfl) ?_
      refine va_get (D := (dC, dI)) (ci := 7) (v := .ref h_t_now) (C := RX9) (T := TX9) (N := 11) hx hb hts kX9_flow_0 hown hK hP 0 rfl rfl 0 (by decide) (hts _ kX9_flow_1) (fun _ h9 => h9) rfl dX9_flow_18 ?_
      refine va_get (D := (dC, dI)) (ci := 1) (v := .ref h_t_now_surfaces) (C := RX1) (T := TX1) (N := 10) hx hb hts kX9_flow_2 hown hK hP 1 rfl rfl 0 (by decide) (hts _ kX9_flow_3) (fun _ h9 => h9) rfl dX9_flow_21 ?_
      refine lv_iload_n hx hb dX9_flow_24 rfl (lv_at hl 1 rfl) ?_
      refine lv_iload_n hx hb dX9_flow_25 rfl (lv_at hl 2 rfl) ?_
      obtain ⟨r7, hg8, hf⟩ := bd1_some hf
      refine CM_callS (As := [.ref h_t_now_surfaces, .int p1, .int p2]) (rest := []) (wc := [(h_t_now_surfaces, .inl (cI, 192, .inl t_now_surfaces))]) (w1 := [(h_t_now_surfaces, .inl (cI, 192, .inl t_now_surfaces))]) (wr := [(h_t, .inr (7, fX9 h_t_now h_t_beforeRead h_t_firstImage h_t_secondImage h_t_valley h_t_ages h_t_fronts h_t_outburst h_t_text t_firstKept t_secondKept)), (h_t_now, .inr (1, fX1 h_t_now_surfaces h_t_now_cliffs h_t_now_boulders h_t_now_scratches h_t_now_numbers h_t_now_facts h_t_now_signs h_t_now_areas h_t_now_heights t_now_ridges))]) (wo := [(h_t, .inr (7, fX9 h_t_now h_t_beforeRead h_t_firstImage h_t_secondImage h_t_valley h_t_ages h_t_fronts h_t_outburst h_t_text t_firstKept t_secondKept)), (h_t_now, .inr (1, fX1 h_t_now_surfaces h_t_now_cliffs h_t_now_boulders h_t_now_scratches h_t_now_numbers h_t_now_facts h_t_now_signs h_t_now_areas h_t_now_heights t_now_ridges)), (h_t_now_surfaces, .inl (cI, 192, .inl t_now_surfaces))]) (v := (some (.int r7))) ⟨hx, hb, hml, hown, hts⟩ (c_X7_directionOfFlow l dC dI cI cZ te h_t_now_surfaces (192) t_now_surfaces p1 p2 r7 hg8) (va_cwS 3 hts gX9_flow_X7_directionOfFlow rfl rfl rfl (by decide +kernel) ⟨Nat.le_of_ble_eq_true rfl, Nat.le_of_ble_eq_true rfl⟩) (kS_env te) hK hP hD hS hA hE [2] [0, 1] [0, 1, 2] rfl rfl (by decide) (by decide) (by decide) (by decide) rfl rfl hl.1 rfl (Nat.le_of_ble_eq_true rfl) dX9_flow_26 ⟨Nat.zero_le _, Nat.zero_le _⟩ (fun H locs hP hD hS => ?_)
      show W p l e rmX9_flow s m args below meth c H locs 0 0 Q (F0 m 29 ls [.int r7])
      obtain rfl := inj1 hf
      subst hQ
      exact CM_iret hx hb hr rfl hlocks hAe hP hD hS dX9_flow_29
    · replace hf := ifp c6 hf
      refine lv_bipush (v := (-2 : Int32)) hx hb dX9_flow_14 (by decide) ?_
      obtain rfl := inj1 hf
      subst hQ
      exact CM_iret hx hb hr rfl hlocks hAe hP hD hS dX9_flow_16
def rmX9_isPlaceAndSort : Room := { frames := 2, cells := 0, slots := 0, locals := 42 }
set_option maxHeartbeats 4000000 in
set_option maxRecDepth 100000 in
theorem c_X9_isPlaceAndSort (l : Launch) (dC : Nat → ClassId) (dI : Nat → Nat → Nat) (cI cZ : ClassId) (te : Nat → Nat) (p1 : Int32) (p2 : Int32) (o0 : Int32) (hf : f_X9_isPlaceAndSort p1 p2 = some o0) : CM l yX9_isPlaceAndSort wsX9_isPlaceAndSort rmX9_isPlaceAndSort (kS te) dC dI cI cZ [.int p1, .int p2] [] [] (some (.int o0)) := by
  refine CM_of (cc := cX9_isPlaceAndSort) (maxL := 2) (ret := (some .boolean)) (by decide +kernel) rfl (Nat.le_of_ble_eq_true rfl) ?_
  intro p e s m args below meth c A Q hx hb hr hml hown hts hlocks hA hK hP hD hS hE hQ hAe ls hl
  have hown : s.vm.findClass RX9 = some m.cls := hown
  have hl : lv_has ls 2 [(0, .int p1), (1, .int p2)] := hl
  unfold f_X9_isPlaceAndSort at hf
  refine lv_iload_n hx hb dX9_isPlaceAndSort_0 rfl (lv_at hl 0 rfl) ?_
  obtain ⟨r1, hg2, hf⟩ := bd1_some hf
  refine CM_callS (As := [.int p1]) (rest := []) (wc := []) (w1 := []) (wr := []) (wo := []) (v := (some (.int r1))) ⟨hx, hb, hml, hown, hts⟩ (c_X9_isPlace l dC dI cI cZ te p1 r1 hg2) (va_cwS 1 hts gX9_isPlaceAndSort_X9_isPlace rfl rfl rfl (by decide +kernel) ⟨Nat.le_of_ble_eq_true rfl, Nat.le_of_ble_eq_true rfl⟩) (kS_env te) hK hP hD hS hA hE [] [] [] rfl rfl (by decide) (by decide) (by decide) (by decide) rfl rfl hl.1 rfl (Nat.le_of_ble_eq_true rfl) dX9_isPlaceAndSort_1 ⟨Nat.zero_le _, Nat.zero_le _⟩ (fun H locs hP hD hS => ?_)
  show W p l e rmX9_isPlaceAndSort s m args below meth c H locs 0 0 Q (F0 m 4 ls [.int r1])
  refine lv_if_eq (tgt := 20) hx hb dX9_isPlaceAndSort_4 (by decide) (fun c3 => ?_) (fun c3 => ?_)
  · replace hf := ifp c3 hf
    refine lv_iconst (v := (0 : Int32)) hx hb dX9_isPlaceAndSort_20 (by decide) ?_
    obtain rfl := inj1 hf
    subst hQ
    exact CM_iret hx hb hr rfl hlocks hAe hP hD hS dX9_isPlaceAndSort_21
  · replace hf := ifn c3 hf
    refine lv_iload_n hx hb dX9_isPlaceAndSort_7 rfl (lv_at hl 1 rfl) ?_
    refine lv_iconst (v := (0 : Int32)) hx hb dX9_isPlaceAndSort_8 (by decide) ?_
    refine lv_iconst (v := (5 : Int32)) hx hb dX9_isPlaceAndSort_9 (by decide) ?_
    obtain ⟨r4, hg5, hf⟩ := bd1_some hf
    refine CM_callS (As := [.int p2, .int (0 : Int32), .int (5 : Int32)]) (rest := []) (wc := []) (w1 := []) (wr := []) (wo := []) (v := (some (.int r4))) ⟨hx, hb, hml, hown, hts⟩ (c_X9_within l dC dI cI cZ te p2 (0 : Int32) (5 : Int32) r4 hg5) (va_cwS 3 hts gX9_isPlaceAndSort_X9_within rfl rfl rfl (by decide +kernel) ⟨Nat.le_of_ble_eq_true rfl, Nat.le_of_ble_eq_true rfl⟩) (kS_env te) hK hP hD hS hA hE [] [] [] rfl rfl (by decide) (by decide) (by decide) (by decide) rfl rfl hl.1 rfl (Nat.le_of_ble_eq_true rfl) dX9_isPlaceAndSort_10 ⟨Nat.zero_le _, Nat.zero_le _⟩ (fun H locs hP hD hS => ?_)
    show W p l e rmX9_isPlaceAndSort s m args below meth c H locs 0 0 Q (F0 m 13 ls [.int r4])
    refine lv_if_eq (tgt := 20) hx hb dX9_isPlaceAndSort_13 (by decide) (fun c6 => ?_) (fun c6 => ?_)
    · replace hf := ifp c6 hf
      refine lv_iconst (v := (0 : Int32)) hx hb dX9_isPlaceAndSort_20 (by decide) ?_
      obtain rfl := inj1 hf
      subst hQ
      exact CM_iret hx hb hr rfl hlocks hAe hP hD hS dX9_isPlaceAndSort_21
    · replace hf := ifn c6 hf
      refine lv_iconst (v := (1 : Int32)) hx hb dX9_isPlaceAndSort_16 (by decide) ?_
      refine lv_goto (tgt := 21) hx hb dX9_isPlaceAndSort_17 (by decide) ?_
      obtain rfl := inj1 hf
      subst hQ
      exact CM_iret hx hb hr rfl hlocks hAe hP hD hS dX9_isPlaceAndSort_21
def rmX9_cliff : Room := { frames := 3, cells := 0, slots := 0, locals := 63 }
set_option maxRecDepth 20000 in
theorem kX9_cliff_0 : ∀ w ∈ u_ws RX9 TX9 11, w ∈ wsX9_cliff := by decide +kernel
set_option maxRecDepth 20000 in
theorem kX9_cliff_1 : Cond.fieldLink RX9 10 "StoneRiver" "now" "LStoneRiver$Found;" ∈ wsX9_cliff := by decide +kernel
set_option maxRecDepth 20000 in
theorem kX9_cliff_2 : ∀ w ∈ u_ws RX1 TX1 10, w ∈ wsX9_cliff := by decide +kernel
set_option maxRecDepth 20000 in
theorem kX9_cliff_3 : Cond.fieldLink RX9 95 "StoneRiver$Found" "cliffs" "LStoneRiver$Rows;" ∈ wsX9_cliff := by decide +kernel
set_option maxHeartbeats 4000000 in
set_option maxRecDepth 100000 in
theorem c_X9_cliff (l : Launch) (dC : Nat → ClassId) (dI : Nat → Nat → Nat) (cI cZ : ClassId) (te : Nat → Nat) (h_t : Nat) (h_t_now : Nat) (h_t_beforeRead : Nat) (h_t_firstImage : Nat) (h_t_secondImage : Nat) (h_t_valley : Nat) (h_t_ages : Nat) (h_t_fronts : Nat) (h_t_outburst : Nat) (h_t_text : Nat) (h_t_now_surfaces : Nat) (h_t_now_cliffs : Nat) (h_t_now_boulders : Nat) (h_t_now_scratches : Nat) (h_t_now_numbers : Nat) (h_t_now_facts : Nat) (h_t_now_signs : Nat) (h_t_now_areas : Nat) (h_t_now_heights : Nat) (h_t_now_cliffs_cells : Nat) (t_firstKept : Int32) (t_secondKept : Int32) (t_now_ridges : Int32) (t_now_cliffs_limit : Int32) (t_now_cliffs_size : Int32) (n_t_now_cliffs_cells : Nat) (t_now_cliffs_cells : Nat → Int32) (p1 : Int32) (p2 : Int32) (o0 : Int32) (o1 : Int32) (o2 : Nat → Int32) (hf : f_X9_cliff t_now_cliffs_limit t_now_cliffs_size n_t_now_cliffs_cells t_now_cliffs_cells p1 p2 = some (o0, o1, o2)) : CM l yX9_cliff wsX9_cliff rmX9_cliff (kS te) dC dI cI cZ [.ref h_t, .int p1, .int p2] [(h_t, .inr (7, fX9 h_t_now h_t_beforeRead h_t_firstImage h_t_secondImage h_t_valley h_t_ages h_t_fronts h_t_outburst h_t_text t_firstKept t_secondKept)), (h_t_now, .inr (1, fX1 h_t_now_surfaces h_t_now_cliffs h_t_now_boulders h_t_now_scratches h_t_now_numbers h_t_now_facts h_t_now_signs h_t_now_areas h_t_now_heights t_now_ridges)), (h_t_now_cliffs, .inr (4, fX4 t_now_cliffs_limit h_t_now_cliffs_cells t_now_cliffs_size)), (h_t_now_cliffs_cells, .inl (cI, n_t_now_cliffs_cells, .inl t_now_cliffs_cells))] [(h_t, .inr (7, fX9 h_t_now h_t_beforeRead h_t_firstImage h_t_secondImage h_t_valley h_t_ages h_t_fronts h_t_outburst h_t_text t_firstKept t_secondKept)), (h_t_now, .inr (1, fX1 h_t_now_surfaces h_t_now_cliffs h_t_now_boulders h_t_now_scratches h_t_now_numbers h_t_now_facts h_t_now_signs h_t_now_areas h_t_now_heights t_now_ridges)), (h_t_now_cliffs, .inr (4, fX4 t_now_cliffs_limit h_t_now_cliffs_cells o1)), (h_t_now_cliffs_cells, .inl (cI, n_t_now_cliffs_cells, .inl o2))] (some (.int o0)) := by
  refine CM_of (cc := cX9_cliff) (maxL := 3) (ret := (some .int)) (by decide +kernel) rfl (Nat.le_of_ble_eq_true rfl) ?_
  intro p e s m args below meth c A Q hx hb hr hml hown hts hlocks hA hK hP hD hS hE hQ hAe ls hl
  have hown : s.vm.findClass RX9 = some m.cls := hown
  have hl : lv_has ls 3 [(0, .ref h_t), (1, .int p1), (2, .int p2)] := hl
  unfold f_X9_cliff at hf
  refine lv_iload_n hx hb dX9_cliff_0 rfl (lv_at hl 1 rfl) ?_
  refine lv_iload_n hx hb dX9_cliff_1 rfl (lv_at hl 2 rfl) ?_
  obtain ⟨r1, hg2, hf⟩ := bd1_some hf
  refine CM_callS (As := [.int p1, .int p2]) (rest := []) (wc := []) (w1 := []) (wr := [(h_t, .inr (7, fX9 h_t_now h_t_beforeRead h_t_firstImage h_t_secondImage h_t_valley h_t_ages h_t_fronts h_t_outburst h_t_text t_firstKept t_secondKept)), (h_t_now, .inr (1, fX1 h_t_now_surfaces h_t_now_cliffs h_t_now_boulders h_t_now_scratches h_t_now_numbers h_t_now_facts h_t_now_signs h_t_now_areas h_t_now_heights t_now_ridges)), (h_t_now_cliffs, .inr (4, fX4 t_now_cliffs_limit h_t_now_cliffs_cells t_now_cliffs_size)), (h_t_now_cliffs_cells, .inl (cI, n_t_now_cliffs_cells, .inl t_now_cliffs_cells))]) (wo := [(h_t, .inr (7, fX9 h_t_now h_t_beforeRead h_t_firstImage h_t_secondImage h_t_valley h_t_ages h_t_fronts h_t_outburst h_t_text t_firstKept t_secondKept)), (h_t_now, .inr (1, fX1 h_t_now_surfaces h_t_now_cliffs h_t_now_boulders h_t_now_scratches h_t_now_numbers h_t_now_facts h_t_now_signs h_t_now_areas h_t_now_heights t_now_ridges)), (h_t_now_cliffs, .inr (4, fX4 t_now_cliffs_limit h_t_now_cliffs_cells t_now_cliffs_size)), (h_t_now_cliffs_cells, .inl (cI, n_t_now_cliffs_cells, .inl t_now_cliffs_cells))]) (v := (some (.int r1))) ⟨hx, hb, hml, hown, hts⟩ (c_X9_isPlaceAndSort l dC dI cI cZ te p1 p2 r1 hg2) (va_cwS 2 hts gX9_cliff_X9_isPlaceAndSort rfl rfl rfl (by decide +kernel) ⟨Nat.le_of_ble_eq_true rfl, Nat.le_of_ble_eq_true rfl⟩) (kS_env te) hK hP hD hS hA hE [] [0, 1, 2, 3] [0, 1, 2, 3] rfl rfl (by decide) (by decide) (by decide) (by decide) rfl rfl hl.1 rfl (Nat.le_of_ble_eq_true rfl) dX9_cliff_2 ⟨Nat.zero_le _, Nat.zero_le _⟩ (fun H locs hP hD hS => ?_)
  show W p l e rmX9_cliff s m args below meth c H locs 0 0 Q (F0 m 5 ls [.int r1])
  refine lv_if_eq (tgt := 26) hx hb dX9_cliff_5 (by decide) (fun c3 => ?_) (fun c3 => ?_)
  · replace hf := ifp c3 hf
    refine lv_bipush (v := (-2 : Int32)) hx hb dX9_cliff_26 (by decide) ?_
    obtain ⟨rfl, rfl, rfl⟩ := inj3 hf
    subst hQ
    exact CM_iret hx hb hr rfl hlocks hAe hP hD hS dX9_cliff_28
  · replace hf := ifn c3 hf
    refine lv_aload_n hx hb dX9_cliff_8 rfl (lv_at hl 0 rfl) ?_
    refine va_get (D := (dC, dI)) (ci := 7) (v := .ref h_t_now) (C := RX9) (T := TX9) (N := 11) hx hb hts kX9_cliff_0 hown hK hP 0 rfl rfl 0 (by decide) (hts _ kX9_cliff_1) (fun _ h9 => h9) rfl dX9_cliff_9 ?_
    refine va_get (D := (dC, dI)) (ci := 1) (v := .ref h_t_now_cliffs) (C := RX1) (T := TX1) (N := 10) hx hb hts kX9_cliff_2 hown hK hP 1 rfl rfl 1 (by decide) (hts _ kX9_cliff_3) (fun _ h9 => h9) rfl dX9_cliff_12 ?_
    refine lv_iload_n hx hb dX9_cliff_15 rfl (lv_at hl 1 rfl) ?_
    refine lv_iload_n hx hb dX9_cliff_16 rfl (lv_at hl 2 rfl) ?_
    refine lv_iconst (v := (0 : Int32)) hx hb dX9_cliff_17 (by decide) ?_
    refine lv_iconst (v := (0 : Int32)) hx hb dX9_cliff_18 (by decide) ?_
    refine lv_iconst (v := (0 : Int32)) hx hb dX9_cliff_19 (by decide) ?_
    obtain ⟨r4, x5, y6, hg7, hf⟩ := bd3_some hf
    refine CM_callV (C := RX4) (As := [.int p1, .int p2, .int (0 : Int32), .int (0 : Int32), .int (0 : Int32)]) (rest := []) (wc := [(h_t_now_cliffs, .inr (4, fX4 t_now_cliffs_limit h_t_now_cliffs_cells t_now_cliffs_size)), (h_t_now_cliffs_cells, .inl (cI, n_t_now_cliffs_cells, .inl t_now_cliffs_cells))]) (w1 := [(h_t_now_cliffs, .inr (4, fX4 t_now_cliffs_limit h_t_now_cliffs_cells x5)), (h_t_now_cliffs_cells, .inl (cI, n_t_now_cliffs_cells, .inl y6))]) (wr := [(h_t, .inr (7, fX9 h_t_now h_t_beforeRead h_t_firstImage h_t_secondImage h_t_valley h_t_ages h_t_fronts h_t_outburst h_t_text t_firstKept t_secondKept)), (h_t_now, .inr (1, fX1 h_t_now_surfaces h_t_now_cliffs h_t_now_boulders h_t_now_scratches h_t_now_numbers h_t_now_facts h_t_now_signs h_t_now_areas h_t_now_heights t_now_ridges))]) (wo := [(h_t, .inr (7, fX9 h_t_now h_t_beforeRead h_t_firstImage h_t_secondImage h_t_valley h_t_ages h_t_fronts h_t_outburst h_t_text t_firstKept t_secondKept)), (h_t_now, .inr (1, fX1 h_t_now_surfaces h_t_now_cliffs h_t_now_boulders h_t_now_scratches h_t_now_numbers h_t_now_facts h_t_now_signs h_t_now_areas h_t_now_heights t_now_ridges)), (h_t_now_cliffs, .inr (4, fX4 t_now_cliffs_limit h_t_now_cliffs_cells x5)), (h_t_now_cliffs_cells, .inl (cI, n_t_now_cliffs_cells, .inl y6))]) (v := (some (.int r4))) ⟨hx, hb, hml, hown, hts⟩ (c_X4_add l dC dI cI cZ te h_t_now_cliffs h_t_now_cliffs_cells t_now_cliffs_limit t_now_cliffs_size n_t_now_cliffs_cells t_now_cliffs_cells p1 p2 (0 : Int32) (0 : Int32) (0 : Int32) r4 x5 y6 hg7) (cwV 5 hts gX9_cliff_X4_add rfl rfl rfl (by decide +kernel) ⟨Nat.le_of_ble_eq_true rfl, Nat.le_of_ble_eq_true rfl⟩) (kS_env te) hK hP hD hS hA hE [2, 3] [0, 1] [0, 1, 2, 3] rfl rfl (by decide) (by decide) (by decide) (by decide) rfl 2 4 rfl rfl rfl rfl hl.1 rfl (Nat.le_of_ble_eq_true rfl) dX9_cliff_20 ⟨Nat.zero_le _, Nat.zero_le _⟩ (fun H locs hP hD hS => ?_)
    show W p l e rmX9_cliff s m args below meth c H locs 0 0 Q (F0 m 23 ls [.int r4])
    refine lv_goto (tgt := 28) hx hb dX9_cliff_23 (by decide) ?_
    obtain ⟨rfl, rfl, rfl⟩ := inj3 hf
    subst hQ
    exact CM_iret hx hb hr rfl hlocks hAe hP hD hS dX9_cliff_28
def rmX9_boulder : Room := { frames := 3, cells := 0, slots := 0, locals := 63 }
set_option maxRecDepth 20000 in
theorem kX9_boulder_0 : ∀ w ∈ u_ws RX9 TX9 11, w ∈ wsX9_boulder := by decide +kernel
set_option maxRecDepth 20000 in
theorem kX9_boulder_1 : Cond.fieldLink RX9 10 "StoneRiver" "now" "LStoneRiver$Found;" ∈ wsX9_boulder := by decide +kernel
set_option maxRecDepth 20000 in
theorem kX9_boulder_2 : ∀ w ∈ u_ws RX1 TX1 10, w ∈ wsX9_boulder := by decide +kernel
set_option maxRecDepth 20000 in
theorem kX9_boulder_3 : Cond.fieldLink RX9 105 "StoneRiver$Found" "boulders" "LStoneRiver$Rows;" ∈ wsX9_boulder := by decide +kernel
set_option maxHeartbeats 4000000 in
set_option maxRecDepth 100000 in
theorem c_X9_boulder (l : Launch) (dC : Nat → ClassId) (dI : Nat → Nat → Nat) (cI cZ : ClassId) (te : Nat → Nat) (h_t : Nat) (h_t_now : Nat) (h_t_beforeRead : Nat) (h_t_firstImage : Nat) (h_t_secondImage : Nat) (h_t_valley : Nat) (h_t_ages : Nat) (h_t_fronts : Nat) (h_t_outburst : Nat) (h_t_text : Nat) (h_t_now_surfaces : Nat) (h_t_now_cliffs : Nat) (h_t_now_boulders : Nat) (h_t_now_scratches : Nat) (h_t_now_numbers : Nat) (h_t_now_facts : Nat) (h_t_now_signs : Nat) (h_t_now_areas : Nat) (h_t_now_heights : Nat) (h_t_now_boulders_cells : Nat) (t_firstKept : Int32) (t_secondKept : Int32) (t_now_ridges : Int32) (t_now_boulders_limit : Int32) (t_now_boulders_size : Int32) (n_t_now_boulders_cells : Nat) (t_now_boulders_cells : Nat → Int32) (p1 : Int32) (p2 : Int32) (o0 : Int32) (o1 : Int32) (o2 : Nat → Int32) (hf : f_X9_boulder t_now_boulders_limit t_now_boulders_size n_t_now_boulders_cells t_now_boulders_cells p1 p2 = some (o0, o1, o2)) : CM l yX9_boulder wsX9_boulder rmX9_boulder (kS te) dC dI cI cZ [.ref h_t, .int p1, .int p2] [(h_t, .inr (7, fX9 h_t_now h_t_beforeRead h_t_firstImage h_t_secondImage h_t_valley h_t_ages h_t_fronts h_t_outburst h_t_text t_firstKept t_secondKept)), (h_t_now, .inr (1, fX1 h_t_now_surfaces h_t_now_cliffs h_t_now_boulders h_t_now_scratches h_t_now_numbers h_t_now_facts h_t_now_signs h_t_now_areas h_t_now_heights t_now_ridges)), (h_t_now_boulders, .inr (4, fX4 t_now_boulders_limit h_t_now_boulders_cells t_now_boulders_size)), (h_t_now_boulders_cells, .inl (cI, n_t_now_boulders_cells, .inl t_now_boulders_cells))] [(h_t, .inr (7, fX9 h_t_now h_t_beforeRead h_t_firstImage h_t_secondImage h_t_valley h_t_ages h_t_fronts h_t_outburst h_t_text t_firstKept t_secondKept)), (h_t_now, .inr (1, fX1 h_t_now_surfaces h_t_now_cliffs h_t_now_boulders h_t_now_scratches h_t_now_numbers h_t_now_facts h_t_now_signs h_t_now_areas h_t_now_heights t_now_ridges)), (h_t_now_boulders, .inr (4, fX4 t_now_boulders_limit h_t_now_boulders_cells o1)), (h_t_now_boulders_cells, .inl (cI, n_t_now_boulders_cells, .inl o2))] (some (.int o0)) := by
  refine CM_of (cc := cX9_boulder) (maxL := 3) (ret := (some .int)) (by decide +kernel) rfl (Nat.le_of_ble_eq_true rfl) ?_
  intro p e s m args below meth c A Q hx hb hr hml hown hts hlocks hA hK hP hD hS hE hQ hAe ls hl
  have hown : s.vm.findClass RX9 = some m.cls := hown
  have hl : lv_has ls 3 [(0, .ref h_t), (1, .int p1), (2, .int p2)] := hl
  unfold f_X9_boulder at hf
  refine lv_iload_n hx hb dX9_boulder_0 rfl (lv_at hl 1 rfl) ?_
  refine lv_iload_n hx hb dX9_boulder_1 rfl (lv_at hl 2 rfl) ?_
  obtain ⟨r1, hg2, hf⟩ := bd1_some hf
  refine CM_callS (As := [.int p1, .int p2]) (rest := []) (wc := []) (w1 := []) (wr := [(h_t, .inr (7, fX9 h_t_now h_t_beforeRead h_t_firstImage h_t_secondImage h_t_valley h_t_ages h_t_fronts h_t_outburst h_t_text t_firstKept t_secondKept)), (h_t_now, .inr (1, fX1 h_t_now_surfaces h_t_now_cliffs h_t_now_boulders h_t_now_scratches h_t_now_numbers h_t_now_facts h_t_now_signs h_t_now_areas h_t_now_heights t_now_ridges)), (h_t_now_boulders, .inr (4, fX4 t_now_boulders_limit h_t_now_boulders_cells t_now_boulders_size)), (h_t_now_boulders_cells, .inl (cI, n_t_now_boulders_cells, .inl t_now_boulders_cells))]) (wo := [(h_t, .inr (7, fX9 h_t_now h_t_beforeRead h_t_firstImage h_t_secondImage h_t_valley h_t_ages h_t_fronts h_t_outburst h_t_text t_firstKept t_secondKept)), (h_t_now, .inr (1, fX1 h_t_now_surfaces h_t_now_cliffs h_t_now_boulders h_t_now_scratches h_t_now_numbers h_t_now_facts h_t_now_signs h_t_now_areas h_t_now_heights t_now_ridges)), (h_t_now_boulders, .inr (4, fX4 t_now_boulders_limit h_t_now_boulders_cells t_now_boulders_size)), (h_t_now_boulders_cells, .inl (cI, n_t_now_boulders_cells, .inl t_now_boulders_cells))]) (v := (some (.int r1))) ⟨hx, hb, hml, hown, hts⟩ (c_X9_isPlaceAndSort l dC dI cI cZ te p1 p2 r1 hg2) (va_cwS 2 hts gX9_boulder_X9_isPlaceAndSort rfl rfl rfl (by decide +kernel) ⟨Nat.le_of_ble_eq_true rfl, Nat.le_of_ble_eq_true rfl⟩) (kS_env te) hK hP hD hS hA hE [] [0, 1, 2, 3] [0, 1, 2, 3] rfl rfl (by decide) (by decide) (by decide) (by decide) rfl rfl hl.1 rfl (Nat.le_of_ble_eq_true rfl) dX9_boulder_2 ⟨Nat.zero_le _, Nat.zero_le _⟩ (fun H locs hP hD hS => ?_)
  show W p l e rmX9_boulder s m args below meth c H locs 0 0 Q (F0 m 5 ls [.int r1])
  refine lv_if_eq (tgt := 26) hx hb dX9_boulder_5 (by decide) (fun c3 => ?_) (fun c3 => ?_)
  · replace hf := ifp c3 hf
    refine lv_bipush (v := (-2 : Int32)) hx hb dX9_boulder_26 (by decide) ?_
    obtain ⟨rfl, rfl, rfl⟩ := inj3 hf
    subst hQ
    exact CM_iret hx hb hr rfl hlocks hAe hP hD hS dX9_boulder_28
  · replace hf := ifn c3 hf
    refine lv_aload_n hx hb dX9_boulder_8 rfl (lv_at hl 0 rfl) ?_
    refine va_get (D := (dC, dI)) (ci := 7) (v := .ref h_t_now) (C := RX9) (T := TX9) (N := 11) hx hb hts kX9_boulder_0 hown hK hP 0 rfl rfl 0 (by decide) (hts _ kX9_boulder_1) (fun _ h9 => h9) rfl dX9_boulder_9 ?_
    refine va_get (D := (dC, dI)) (ci := 1) (v := .ref h_t_now_boulders) (C := RX1) (T := TX1) (N := 10) hx hb hts kX9_boulder_2 hown hK hP 1 rfl rfl 2 (by decide) (hts _ kX9_boulder_3) (fun _ h9 => h9) rfl dX9_boulder_12 ?_
    refine lv_iload_n hx hb dX9_boulder_15 rfl (lv_at hl 1 rfl) ?_
    refine lv_iload_n hx hb dX9_boulder_16 rfl (lv_at hl 2 rfl) ?_
    refine lv_iconst (v := (0 : Int32)) hx hb dX9_boulder_17 (by decide) ?_
    refine lv_iconst (v := (0 : Int32)) hx hb dX9_boulder_18 (by decide) ?_
    refine lv_iconst (v := (0 : Int32)) hx hb dX9_boulder_19 (by decide) ?_
    obtain ⟨r4, x5, y6, hg7, hf⟩ := bd3_some hf
    refine CM_callV (C := RX4) (As := [.int p1, .int p2, .int (0 : Int32), .int (0 : Int32), .int (0 : Int32)]) (rest := []) (wc := [(h_t_now_boulders, .inr (4, fX4 t_now_boulders_limit h_t_now_boulders_cells t_now_boulders_size)), (h_t_now_boulders_cells, .inl (cI, n_t_now_boulders_cells, .inl t_now_boulders_cells))]) (w1 := [(h_t_now_boulders, .inr (4, fX4 t_now_boulders_limit h_t_now_boulders_cells x5)), (h_t_now_boulders_cells, .inl (cI, n_t_now_boulders_cells, .inl y6))]) (wr := [(h_t, .inr (7, fX9 h_t_now h_t_beforeRead h_t_firstImage h_t_secondImage h_t_valley h_t_ages h_t_fronts h_t_outburst h_t_text t_firstKept t_secondKept)), (h_t_now, .inr (1, fX1 h_t_now_surfaces h_t_now_cliffs h_t_now_boulders h_t_now_scratches h_t_now_numbers h_t_now_facts h_t_now_signs h_t_now_areas h_t_now_heights t_now_ridges))]) (wo := [(h_t, .inr (7, fX9 h_t_now h_t_beforeRead h_t_firstImage h_t_secondImage h_t_valley h_t_ages h_t_fronts h_t_outburst h_t_text t_firstKept t_secondKept)), (h_t_now, .inr (1, fX1 h_t_now_surfaces h_t_now_cliffs h_t_now_boulders h_t_now_scratches h_t_now_numbers h_t_now_facts h_t_now_signs h_t_now_areas h_t_now_heights t_now_ridges)), (h_t_now_boulders, .inr (4, fX4 t_now_boulders_limit h_t_now_boulders_cells x5)), (h_t_now_boulders_cells, .inl (cI, n_t_now_boulders_cells, .inl y6))]) (v := (some (.int r4))) ⟨hx, hb, hml, hown, hts⟩ (c_X4_add l dC dI cI cZ te h_t_now_boulders h_t_now_boulders_cells t_now_boulders_limit t_now_boulders_size n_t_now_boulders_cells t_now_boulders_cells p1 p2 (0 : Int32) (0 : Int32) (0 : Int32) r4 x5 y6 hg7) (cwV 5 hts gX9_boulder_X4_add rfl rfl rfl (by decide +kernel) ⟨Nat.le_of_ble_eq_true rfl, Nat.le_of_ble_eq_true rfl⟩) (kS_env te) hK hP hD hS hA hE [2, 3] [0, 1] [0, 1, 2, 3] rfl rfl (by decide) (by decide) (by decide) (by decide) rfl 2 4 rfl rfl rfl rfl hl.1 rfl (Nat.le_of_ble_eq_true rfl) dX9_boulder_20 ⟨Nat.zero_le _, Nat.zero_le _⟩ (fun H locs hP hD hS => ?_)
    show W p l e rmX9_boulder s m args below meth c H locs 0 0 Q (F0 m 23 ls [.int r4])
    refine lv_goto (tgt := 28) hx hb dX9_boulder_23 (by decide) ?_
    obtain ⟨rfl, rfl, rfl⟩ := inj3 hf
    subst hQ
    exact CM_iret hx hb hr rfl hlocks hAe hP hD hS dX9_boulder_28
def rmX9_fits : Room := { frames := 4, cells := 0, slots := 0, locals := 98 }
set_option maxRecDepth 20000 in
theorem kX9_fits_0 : ∀ w ∈ u_ws RX9 TX9 11, w ∈ wsX9_fits := by decide +kernel
set_option maxRecDepth 20000 in
theorem kX9_fits_1 : Cond.fieldLink RX9 10 "StoneRiver" "now" "LStoneRiver$Found;" ∈ wsX9_fits := by decide +kernel
set_option maxRecDepth 20000 in
theorem kX9_fits_2 : ∀ w ∈ u_ws RX1 TX1 10, w ∈ wsX9_fits := by decide +kernel
set_option maxRecDepth 20000 in
theorem kX9_fits_3 : Cond.fieldLink RX9 105 "StoneRiver$Found" "boulders" "LStoneRiver$Rows;" ∈ wsX9_fits := by decide +kernel
set_option maxRecDepth 20000 in
theorem kX9_fits_4 : Cond.fieldLink RX9 28 "StoneRiver" "valley" "LStoneRiver$Valley;" ∈ wsX9_fits := by decide +kernel
set_option maxHeartbeats 4000000 in
set_option maxRecDepth 100000 in
theorem c_X9_fits (l : Launch) (dC : Nat → ClassId) (dI : Nat → Nat → Nat) (cI cZ : ClassId) (te : Nat → Nat) (h_t : Nat) (h_t_now : Nat) (h_t_beforeRead : Nat) (h_t_firstImage : Nat) (h_t_secondImage : Nat) (h_t_valley : Nat) (h_t_ages : Nat) (h_t_fronts : Nat) (h_t_outburst : Nat) (h_t_text : Nat) (h_t_now_surfaces : Nat) (h_t_now_cliffs : Nat) (h_t_now_boulders : Nat) (h_t_now_scratches : Nat) (h_t_now_numbers : Nat) (h_t_now_facts : Nat) (h_t_now_signs : Nat) (h_t_now_areas : Nat) (h_t_now_heights : Nat) (h_t_now_boulders_cells : Nat) (h_t_valley_next : Nat) (h_t_valley_stepsToGoal : Nat) (h_t_valley_stepsFromEarlier : Nat) (h_t_now_cliffs_cells : Nat) (t_firstKept : Int32) (t_secondKept : Int32) (t_now_ridges : Int32) (t_now_boulders_limit : Int32) (t_now_boulders_size : Int32) (n_t_now_boulders_cells : Nat) (t_now_boulders_cells : Nat → Int32) (t_valley_stepsToGoal : Nat → Int32) (t_now_surfaces : Nat → Int32) (t_valley_next : Nat → Int32) (t_valley_stepsFromEarlier : Nat → Int32) (t_now_cliffs_limit : Int32) (t_now_cliffs_size : Int32) (n_t_now_cliffs_cells : Nat) (t_now_cliffs_cells : Nat → Int32) (p1 : Int32) (o0 : Int32) (o1 : Nat → Int32) (o2 : Nat → Int32) (o3 : Nat → Int32) (hf : f_X9_fits t_now_boulders_size n_t_now_boulders_cells t_now_boulders_cells t_valley_stepsToGoal t_now_surfaces t_valley_next t_valley_stepsFromEarlier t_now_cliffs_size n_t_now_cliffs_cells t_now_cliffs_cells p1 = some (o0, o1, o2, o3)) : CM l yX9_fits wsX9_fits rmX9_fits (kS te) dC dI cI cZ [.ref h_t, .int p1] [(h_t, .inr (7, fX9 h_t_now h_t_beforeRead h_t_firstImage h_t_secondImage h_t_valley h_t_ages h_t_fronts h_t_outburst h_t_text t_firstKept t_secondKept)), (h_t_now, .inr (1, fX1 h_t_now_surfaces h_t_now_cliffs h_t_now_boulders h_t_now_scratches h_t_now_numbers h_t_now_facts h_t_now_signs h_t_now_areas h_t_now_heights t_now_ridges)), (h_t_now_boulders, .inr (4, fX4 t_now_boulders_limit h_t_now_boulders_cells t_now_boulders_size)), (h_t_now_boulders_cells, .inl (cI, n_t_now_boulders_cells, .inl t_now_boulders_cells)), (h_t_valley, .inr (6, fX7 h_t_valley_next h_t_valley_stepsToGoal h_t_valley_stepsFromEarlier)), (h_t_valley_stepsToGoal, .inl (cI, 64, .inl t_valley_stepsToGoal)), (h_t_now_surfaces, .inl (cI, 192, .inl t_now_surfaces)), (h_t_valley_next, .inl (cI, 64, .inl t_valley_next)), (h_t_valley_stepsFromEarlier, .inl (cI, 64, .inl t_valley_stepsFromEarlier)), (h_t_now_cliffs, .inr (4, fX4 t_now_cliffs_limit h_t_now_cliffs_cells t_now_cliffs_size)), (h_t_now_cliffs_cells, .inl (cI, n_t_now_cliffs_cells, .inl t_now_cliffs_cells))] [(h_t, .inr (7, fX9 h_t_now h_t_beforeRead h_t_firstImage h_t_secondImage h_t_valley h_t_ages h_t_fronts h_t_outburst h_t_text t_firstKept t_secondKept)), (h_t_now, .inr (1, fX1 h_t_now_surfaces h_t_now_cliffs h_t_now_boulders h_t_now_scratches h_t_now_numbers h_t_now_facts h_t_now_signs h_t_now_areas h_t_now_heights t_now_ridges)), (h_t_now_boulders, .inr (4, fX4 t_now_boulders_limit h_t_now_boulders_cells t_now_boulders_size)), (h_t_now_boulders_cells, .inl (cI, n_t_now_boulders_cells, .inl t_now_boulders_cells)), (h_t_valley, .inr (6, fX7 h_t_valley_next h_t_valley_stepsToGoal h_t_valley_stepsFromEarlier)), (h_t_valley_stepsToGoal, .inl (cI, 64, .inl o1)), (h_t_now_surfaces, .inl (cI, 192, .inl t_now_surfaces)), (h_t_valley_next, .inl (cI, 64, .inl o2)), (h_t_valley_stepsFromEarlier, .inl (cI, 64, .inl o3)), (h_t_now_cliffs, .inr (4, fX4 t_now_cliffs_limit h_t_now_cliffs_cells t_now_cliffs_size)), (h_t_now_cliffs_cells, .inl (cI, n_t_now_cliffs_cells, .inl t_now_cliffs_cells))] (some (.int o0)) := by
  refine CM_of (cc := cX9_fits) (maxL := 2) (ret := (some .int)) (by decide +kernel) rfl (Nat.le_of_ble_eq_true rfl) ?_
  intro p e s m args below meth c A Q hx hb hr hml hown hts hlocks hA hK hP hD hS hE hQ hAe ls hl
  have hown : s.vm.findClass RX9 = some m.cls := hown
  have hl : lv_has ls 2 [(0, .ref h_t), (1, .int p1)] := hl
  unfold f_X9_fits at hf
  refine lv_aload_n hx hb dX9_fits_0 rfl (lv_at hl 0 rfl) ?_
  refine va_get (D := (dC, dI)) (ci := 7) (v := .ref h_t_now) (C := RX9) (T := TX9) (N := 11) hx hb hts kX9_fits_0 hown hK hP 0 rfl rfl 0 (by decide) (hts _ kX9_fits_1) (fun _ h9 => h9) rfl dX9_fits_1 ?_
  refine va_get (D := (dC, dI)) (ci := 1) (v := .ref h_t_now_boulders) (C := RX1) (T := TX1) (N := 10) hx hb hts kX9_fits_2 hown hK hP 1 rfl rfl 2 (by decide) (hts _ kX9_fits_3) (fun _ h9 => h9) rfl dX9_fits_4 ?_
  refine lv_iload_n hx hb dX9_fits_7 rfl (lv_at hl 1 rfl) ?_
  obtain ⟨r1, hg2, hf⟩ := bd1_some hf
  refine CM_callV (C := RX4) (As := [.int p1]) (rest := []) (wc := [(h_t_now_boulders, .inr (4, fX4 t_now_boulders_limit h_t_now_boulders_cells t_now_boulders_size))]) (w1 := [(h_t_now_boulders, .inr (4, fX4 t_now_boulders_limit h_t_now_boulders_cells t_now_boulders_size))]) (wr := [(h_t, .inr (7, fX9 h_t_now h_t_beforeRead h_t_firstImage h_t_secondImage h_t_valley h_t_ages h_t_fronts h_t_outburst h_t_text t_firstKept t_secondKept)), (h_t_now, .inr (1, fX1 h_t_now_surfaces h_t_now_cliffs h_t_now_boulders h_t_now_scratches h_t_now_numbers h_t_now_facts h_t_now_signs h_t_now_areas h_t_now_heights t_now_ridges)), (h_t_now_boulders_cells, .inl (cI, n_t_now_boulders_cells, .inl t_now_boulders_cells)), (h_t_valley, .inr (6, fX7 h_t_valley_next h_t_valley_stepsToGoal h_t_valley_stepsFromEarlier)), (h_t_valley_stepsToGoal, .inl (cI, 64, .inl t_valley_stepsToGoal)), (h_t_now_surfaces, .inl (cI, 192, .inl t_now_surfaces)), (h_t_valley_next, .inl (cI, 64, .inl t_valley_next)), (h_t_valley_stepsFromEarlier, .inl (cI, 64, .inl t_valley_stepsFromEarlier)), (h_t_now_cliffs, .inr (4, fX4 t_now_cliffs_limit h_t_now_cliffs_cells t_now_cliffs_size)), (h_t_now_cliffs_cells, .inl (cI, n_t_now_cliffs_cells, .inl t_now_cliffs_cells))]) (wo := [(h_t, .inr (7, fX9 h_t_now h_t_beforeRead h_t_firstImage h_t_secondImage h_t_valley h_t_ages h_t_fronts h_t_outburst h_t_text t_firstKept t_secondKept)), (h_t_now, .inr (1, fX1 h_t_now_surfaces h_t_now_cliffs h_t_now_boulders h_t_now_scratches h_t_now_numbers h_t_now_facts h_t_now_signs h_t_now_areas h_t_now_heights t_now_ridges)), (h_t_now_boulders, .inr (4, fX4 t_now_boulders_limit h_t_now_boulders_cells t_now_boulders_size)), (h_t_now_boulders_cells, .inl (cI, n_t_now_boulders_cells, .inl t_now_boulders_cells)), (h_t_valley, .inr (6, fX7 h_t_valley_next h_t_valley_stepsToGoal h_t_valley_stepsFromEarlier)), (h_t_valley_stepsToGoal, .inl (cI, 64, .inl t_valley_stepsToGoal)), (h_t_now_surfaces, .inl (cI, 192, .inl t_now_surfaces)), (h_t_valley_next, .inl (cI, 64, .inl t_valley_next)), (h_t_valley_stepsFromEarlier, .inl (cI, 64, .inl t_valley_stepsFromEarlier)), (h_t_now_cliffs, .inr (4, fX4 t_now_cliffs_limit h_t_now_cliffs_cells t_now_cliffs_size)), (h_t_now_cliffs_cells, .inl (cI, n_t_now_cliffs_cells, .inl t_now_cliffs_cells))]) (v := (some (.int r1))) ⟨hx, hb, hml, hown, hts⟩ (c_X4_has l dC dI cI cZ te h_t_now_boulders h_t_now_boulders_cells t_now_boulders_limit t_now_boulders_size p1 r1 hg2) (cwV 1 hts gX9_fits_X4_has rfl rfl rfl (by decide +kernel) ⟨Nat.le_of_ble_eq_true rfl, Nat.le_of_ble_eq_true rfl⟩) (kS_env te) hK hP hD hS hA hE [2] [0, 1, 3, 4, 5, 6, 7, 8, 9, 10] [0, 1, 10, 2, 3, 4, 5, 6, 7, 8, 9] rfl rfl (by decide) (by decide) (by decide) (by decide) rfl 2 4 rfl rfl rfl rfl hl.1 rfl (Nat.le_of_ble_eq_true rfl) dX9_fits_8 ⟨Nat.zero_le _, Nat.zero_le _⟩ (fun H locs hP hD hS => ?_)
  show W p l e rmX9_fits s m args below meth c H locs 0 0 Q (F0 m 11 ls [.int r1])
  refine lv_if_eq (tgt := 29) hx hb dX9_fits_11 (by decide) (fun c3 => ?_) (fun c3 => ?_)
  · replace hf := ifp c3 hf
    refine lv_bipush (v := (-2 : Int32)) hx hb dX9_fits_29 (by decide) ?_
    obtain ⟨rfl, rfl, rfl, rfl⟩ := inj4 hf
    subst hQ
    exact CM_iret hx hb hr rfl hlocks hAe hP hD hS dX9_fits_31
  · replace hf := ifn c3 hf
    refine lv_aload_n hx hb dX9_fits_14 rfl (lv_at hl 0 rfl) ?_
    refine va_get (D := (dC, dI)) (ci := 7) (v := .ref h_t_valley) (C := RX9) (T := TX9) (N := 11) hx hb hts kX9_fits_0 hown hK hP 0 rfl rfl 4 (by decide) (hts _ kX9_fits_4) (fun _ h9 => h9) rfl dX9_fits_15 ?_
    refine lv_aload_n hx hb dX9_fits_18 rfl (lv_at hl 0 rfl) ?_
    refine va_get (D := (dC, dI)) (ci := 7) (v := .ref h_t_now) (C := RX9) (T := TX9) (N := 11) hx hb hts kX9_fits_0 hown hK hP 0 rfl rfl 0 (by decide) (hts _ kX9_fits_1) (fun _ h9 => h9) rfl dX9_fits_19 ?_
    refine lv_iload_n hx hb dX9_fits_22 rfl (lv_at hl 1 rfl) ?_
    obtain ⟨r4, y5, y6, y7, hg8, hf⟩ := bd4_some hf
    refine CM_callV (C := RX7) (As := [.ref h_t_now, .int p1]) (rest := []) (wc := [(h_t_now, .inr (1, fX1 h_t_now_surfaces h_t_now_cliffs h_t_now_boulders h_t_now_scratches h_t_now_numbers h_t_now_facts h_t_now_signs h_t_now_areas h_t_now_heights t_now_ridges)), (h_t_now_boulders, .inr (4, fX4 t_now_boulders_limit h_t_now_boulders_cells t_now_boulders_size)), (h_t_now_boulders_cells, .inl (cI, n_t_now_boulders_cells, .inl t_now_boulders_cells)), (h_t_valley, .inr (6, fX7 h_t_valley_next h_t_valley_stepsToGoal h_t_valley_stepsFromEarlier)), (h_t_valley_stepsToGoal, .inl (cI, 64, .inl t_valley_stepsToGoal)), (h_t_now_surfaces, .inl (cI, 192, .inl t_now_surfaces)), (h_t_valley_next, .inl (cI, 64, .inl t_valley_next)), (h_t_valley_stepsFromEarlier, .inl (cI, 64, .inl t_valley_stepsFromEarlier)), (h_t_now_cliffs, .inr (4, fX4 t_now_cliffs_limit h_t_now_cliffs_cells t_now_cliffs_size)), (h_t_now_cliffs_cells, .inl (cI, n_t_now_cliffs_cells, .inl t_now_cliffs_cells))]) (w1 := [(h_t_now, .inr (1, fX1 h_t_now_surfaces h_t_now_cliffs h_t_now_boulders h_t_now_scratches h_t_now_numbers h_t_now_facts h_t_now_signs h_t_now_areas h_t_now_heights t_now_ridges)), (h_t_now_boulders, .inr (4, fX4 t_now_boulders_limit h_t_now_boulders_cells t_now_boulders_size)), (h_t_now_boulders_cells, .inl (cI, n_t_now_boulders_cells, .inl t_now_boulders_cells)), (h_t_valley, .inr (6, fX7 h_t_valley_next h_t_valley_stepsToGoal h_t_valley_stepsFromEarlier)), (h_t_valley_stepsToGoal, .inl (cI, 64, .inl y5)), (h_t_now_surfaces, .inl (cI, 192, .inl t_now_surfaces)), (h_t_valley_next, .inl (cI, 64, .inl y6)), (h_t_valley_stepsFromEarlier, .inl (cI, 64, .inl y7)), (h_t_now_cliffs, .inr (4, fX4 t_now_cliffs_limit h_t_now_cliffs_cells t_now_cliffs_size)), (h_t_now_cliffs_cells, .inl (cI, n_t_now_cliffs_cells, .inl t_now_cliffs_cells))]) (wr := [(h_t, .inr (7, fX9 h_t_now h_t_beforeRead h_t_firstImage h_t_secondImage h_t_valley h_t_ages h_t_fronts h_t_outburst h_t_text t_firstKept t_secondKept))]) (wo := [(h_t, .inr (7, fX9 h_t_now h_t_beforeRead h_t_firstImage h_t_secondImage h_t_valley h_t_ages h_t_fronts h_t_outburst h_t_text t_firstKept t_secondKept)), (h_t_now, .inr (1, fX1 h_t_now_surfaces h_t_now_cliffs h_t_now_boulders h_t_now_scratches h_t_now_numbers h_t_now_facts h_t_now_signs h_t_now_areas h_t_now_heights t_now_ridges)), (h_t_now_boulders, .inr (4, fX4 t_now_boulders_limit h_t_now_boulders_cells t_now_boulders_size)), (h_t_now_boulders_cells, .inl (cI, n_t_now_boulders_cells, .inl t_now_boulders_cells)), (h_t_valley, .inr (6, fX7 h_t_valley_next h_t_valley_stepsToGoal h_t_valley_stepsFromEarlier)), (h_t_valley_stepsToGoal, .inl (cI, 64, .inl y5)), (h_t_now_surfaces, .inl (cI, 192, .inl t_now_surfaces)), (h_t_valley_next, .inl (cI, 64, .inl y6)), (h_t_valley_stepsFromEarlier, .inl (cI, 64, .inl y7)), (h_t_now_cliffs, .inr (4, fX4 t_now_cliffs_limit h_t_now_cliffs_cells t_now_cliffs_size)), (h_t_now_cliffs_cells, .inl (cI, n_t_now_cliffs_cells, .inl t_now_cliffs_cells))]) (v := (some (.int r4))) ⟨hx, hb, hml, hown, hts⟩ (c_X7_fittingCliffs l dC dI cI cZ te h_t_valley h_t_now h_t_now_surfaces h_t_now_cliffs h_t_now_boulders h_t_now_scratches h_t_now_numbers h_t_now_facts h_t_now_signs h_t_now_areas h_t_now_heights h_t_now_boulders_cells h_t_valley_next h_t_valley_stepsToGoal h_t_valley_stepsFromEarlier h_t_now_cliffs_cells t_now_ridges t_now_boulders_limit t_now_boulders_size n_t_now_boulders_cells t_now_boulders_cells t_valley_stepsToGoal t_now_surfaces t_valley_next t_valley_stepsFromEarlier t_now_cliffs_limit t_now_cliffs_size n_t_now_cliffs_cells t_now_cliffs_cells p1 r4 y5 y6 y7 hg8) (cwV 2 hts gX9_fits_X7_fittingCliffs rfl rfl rfl (by decide +kernel) ⟨Nat.le_of_ble_eq_true rfl, Nat.le_of_ble_eq_true rfl⟩) (kS_env te) hK hP hD hS hA hE [1, 2, 3, 4, 5, 6, 7, 8, 9, 10] [0] [0, 1, 2, 3, 4, 5, 6, 7, 8, 9, 10] rfl rfl (by decide) (by decide) (by decide) (by decide) rfl 4 6 rfl rfl rfl rfl hl.1 rfl (Nat.le_of_ble_eq_true rfl) dX9_fits_23 ⟨Nat.zero_le _, Nat.zero_le _⟩ (fun H locs hP hD hS => ?_)
    show W p l e rmX9_fits s m args below meth c H locs 0 0 Q (F0 m 26 ls [.int r4])
    refine lv_goto (tgt := 31) hx hb dX9_fits_26 (by decide) ?_
    obtain ⟨rfl, rfl, rfl, rfl⟩ := inj4 hf
    subst hQ
    exact CM_iret hx hb hr rfl hlocks hAe hP hD hS dX9_fits_31
def rmX9_steps : Room := { frames := 4, cells := 0, slots := 0, locals := 97 }
set_option maxRecDepth 20000 in
theorem kX9_steps_0 : ∀ w ∈ u_ws RX9 TX9 11, w ∈ wsX9_steps := by decide +kernel
set_option maxRecDepth 20000 in
theorem kX9_steps_1 : Cond.fieldLink RX9 10 "StoneRiver" "now" "LStoneRiver$Found;" ∈ wsX9_steps := by decide +kernel
set_option maxRecDepth 20000 in
theorem kX9_steps_2 : ∀ w ∈ u_ws RX1 TX1 10, w ∈ wsX9_steps := by decide +kernel
set_option maxRecDepth 20000 in
theorem kX9_steps_3 : Cond.fieldLink RX9 105 "StoneRiver$Found" "boulders" "LStoneRiver$Rows;" ∈ wsX9_steps := by decide +kernel
set_option maxRecDepth 20000 in
theorem kX9_steps_4 : Cond.fieldLink RX9 95 "StoneRiver$Found" "cliffs" "LStoneRiver$Rows;" ∈ wsX9_steps := by decide +kernel
set_option maxRecDepth 20000 in
theorem kX9_steps_5 : Cond.fieldLink RX9 28 "StoneRiver" "valley" "LStoneRiver$Valley;" ∈ wsX9_steps := by decide +kernel
set_option maxHeartbeats 4000000 in
set_option maxRecDepth 100000 in
theorem c_X9_steps (l : Launch) (dC : Nat → ClassId) (dI : Nat → Nat → Nat) (cI cZ : ClassId) (te : Nat → Nat) (h_t : Nat) (h_t_now : Nat) (h_t_beforeRead : Nat) (h_t_firstImage : Nat) (h_t_secondImage : Nat) (h_t_valley : Nat) (h_t_ages : Nat) (h_t_fronts : Nat) (h_t_outburst : Nat) (h_t_text : Nat) (h_t_now_surfaces : Nat) (h_t_now_cliffs : Nat) (h_t_now_boulders : Nat) (h_t_now_scratches : Nat) (h_t_now_numbers : Nat) (h_t_now_facts : Nat) (h_t_now_signs : Nat) (h_t_now_areas : Nat) (h_t_now_heights : Nat) (h_t_now_boulders_cells : Nat) (h_t_now_cliffs_cells : Nat) (h_t_valley_next : Nat) (h_t_valley_stepsToGoal : Nat) (h_t_valley_stepsFromEarlier : Nat) (t_firstKept : Int32) (t_secondKept : Int32) (t_now_ridges : Int32) (t_now_boulders_limit : Int32) (t_now_boulders_size : Int32) (t_now_cliffs_limit : Int32) (t_now_cliffs_size : Int32) (n_t_now_boulders_cells : Nat) (t_now_boulders_cells : Nat → Int32) (t_valley_stepsToGoal : Nat → Int32) (t_now_surfaces : Nat → Int32) (t_valley_next : Nat → Int32) (t_valley_stepsFromEarlier : Nat → Int32) (n_t_now_cliffs_cells : Nat) (t_now_cliffs_cells : Nat → Int32) (p1 : Int32) (p2 : Int32) (o0 : Int32) (o1 : Nat → Int32) (o2 : Nat → Int32) (o3 : Nat → Int32) (hf : f_X9_steps t_now_boulders_size t_now_cliffs_size n_t_now_boulders_cells t_now_boulders_cells t_valley_stepsToGoal t_now_surfaces t_valley_next t_valley_stepsFromEarlier n_t_now_cliffs_cells t_now_cliffs_cells p1 p2 = some (o0, o1, o2, o3)) : CM l yX9_steps wsX9_steps rmX9_steps (kS te) dC dI cI cZ [.ref h_t, .int p1, .int p2] [(h_t, .inr (7, fX9 h_t_now h_t_beforeRead h_t_firstImage h_t_secondImage h_t_valley h_t_ages h_t_fronts h_t_outburst h_t_text t_firstKept t_secondKept)), (h_t_now, .inr (1, fX1 h_t_now_surfaces h_t_now_cliffs h_t_now_boulders h_t_now_scratches h_t_now_numbers h_t_now_facts h_t_now_signs h_t_now_areas h_t_now_heights t_now_ridges)), (h_t_now_boulders, .inr (4, fX4 t_now_boulders_limit h_t_now_boulders_cells t_now_boulders_size)), (h_t_now_cliffs, .inr (4, fX4 t_now_cliffs_limit h_t_now_cliffs_cells t_now_cliffs_size)), (h_t_now_boulders_cells, .inl (cI, n_t_now_boulders_cells, .inl t_now_boulders_cells)), (h_t_valley, .inr (6, fX7 h_t_valley_next h_t_valley_stepsToGoal h_t_valley_stepsFromEarlier)), (h_t_valley_stepsToGoal, .inl (cI, 64, .inl t_valley_stepsToGoal)), (h_t_now_surfaces, .inl (cI, 192, .inl t_now_surfaces)), (h_t_valley_next, .inl (cI, 64, .inl t_valley_next)), (h_t_valley_stepsFromEarlier, .inl (cI, 64, .inl t_valley_stepsFromEarlier)), (h_t_now_cliffs_cells, .inl (cI, n_t_now_cliffs_cells, .inl t_now_cliffs_cells))] [(h_t, .inr (7, fX9 h_t_now h_t_beforeRead h_t_firstImage h_t_secondImage h_t_valley h_t_ages h_t_fronts h_t_outburst h_t_text t_firstKept t_secondKept)), (h_t_now, .inr (1, fX1 h_t_now_surfaces h_t_now_cliffs h_t_now_boulders h_t_now_scratches h_t_now_numbers h_t_now_facts h_t_now_signs h_t_now_areas h_t_now_heights t_now_ridges)), (h_t_now_boulders, .inr (4, fX4 t_now_boulders_limit h_t_now_boulders_cells t_now_boulders_size)), (h_t_now_cliffs, .inr (4, fX4 t_now_cliffs_limit h_t_now_cliffs_cells t_now_cliffs_size)), (h_t_now_boulders_cells, .inl (cI, n_t_now_boulders_cells, .inl t_now_boulders_cells)), (h_t_valley, .inr (6, fX7 h_t_valley_next h_t_valley_stepsToGoal h_t_valley_stepsFromEarlier)), (h_t_valley_stepsToGoal, .inl (cI, 64, .inl o1)), (h_t_now_surfaces, .inl (cI, 192, .inl t_now_surfaces)), (h_t_valley_next, .inl (cI, 64, .inl o2)), (h_t_valley_stepsFromEarlier, .inl (cI, 64, .inl o3)), (h_t_now_cliffs_cells, .inl (cI, n_t_now_cliffs_cells, .inl t_now_cliffs_cells))] (some (.int o0)) := by
  refine CM_of (cc := cX9_steps) (maxL := 3) (ret := (some .int)) (by decide +kernel) rfl (Nat.le_of_ble_eq_true rfl) ?_
  intro p e s m args below meth c A Q hx hb hr hml hown hts hlocks hA hK hP hD hS hE hQ hAe ls hl
  have hown : s.vm.findClass RX9 = some m.cls := hown
  have hl : lv_has ls 3 [(0, .ref h_t), (1, .int p1), (2, .int p2)] := hl
  unfold f_X9_steps at hf
  refine lv_aload_n hx hb dX9_steps_0 rfl (lv_at hl 0 rfl) ?_
  refine va_get (D := (dC, dI)) (ci := 7) (v := .ref h_t_now) (C := RX9) (T := TX9) (N := 11) hx hb hts kX9_steps_0 hown hK hP 0 rfl rfl 0 (by decide) (hts _ kX9_steps_1) (fun _ h9 => h9) rfl dX9_steps_1 ?_
  refine va_get (D := (dC, dI)) (ci := 1) (v := .ref h_t_now_boulders) (C := RX1) (T := TX1) (N := 10) hx hb hts kX9_steps_2 hown hK hP 1 rfl rfl 2 (by decide) (hts _ kX9_steps_3) (fun _ h9 => h9) rfl dX9_steps_4 ?_
  refine lv_iload_n hx hb dX9_steps_7 rfl (lv_at hl 1 rfl) ?_
  obtain ⟨r1, hg2, hf⟩ := bd1_some hf
  refine CM_callV (C := RX4) (As := [.int p1]) (rest := []) (wc := [(h_t_now_boulders, .inr (4, fX4 t_now_boulders_limit h_t_now_boulders_cells t_now_boulders_size))]) (w1 := [(h_t_now_boulders, .inr (4, fX4 t_now_boulders_limit h_t_now_boulders_cells t_now_boulders_size))]) (wr := [(h_t, .inr (7, fX9 h_t_now h_t_beforeRead h_t_firstImage h_t_secondImage h_t_valley h_t_ages h_t_fronts h_t_outburst h_t_text t_firstKept t_secondKept)), (h_t_now, .inr (1, fX1 h_t_now_surfaces h_t_now_cliffs h_t_now_boulders h_t_now_scratches h_t_now_numbers h_t_now_facts h_t_now_signs h_t_now_areas h_t_now_heights t_now_ridges)), (h_t_now_cliffs, .inr (4, fX4 t_now_cliffs_limit h_t_now_cliffs_cells t_now_cliffs_size)), (h_t_now_boulders_cells, .inl (cI, n_t_now_boulders_cells, .inl t_now_boulders_cells)), (h_t_valley, .inr (6, fX7 h_t_valley_next h_t_valley_stepsToGoal h_t_valley_stepsFromEarlier)), (h_t_valley_stepsToGoal, .inl (cI, 64, .inl t_valley_stepsToGoal)), (h_t_now_surfaces, .inl (cI, 192, .inl t_now_surfaces)), (h_t_valley_next, .inl (cI, 64, .inl t_valley_next)), (h_t_valley_stepsFromEarlier, .inl (cI, 64, .inl t_valley_stepsFromEarlier)), (h_t_now_cliffs_cells, .inl (cI, n_t_now_cliffs_cells, .inl t_now_cliffs_cells))]) (wo := [(h_t, .inr (7, fX9 h_t_now h_t_beforeRead h_t_firstImage h_t_secondImage h_t_valley h_t_ages h_t_fronts h_t_outburst h_t_text t_firstKept t_secondKept)), (h_t_now, .inr (1, fX1 h_t_now_surfaces h_t_now_cliffs h_t_now_boulders h_t_now_scratches h_t_now_numbers h_t_now_facts h_t_now_signs h_t_now_areas h_t_now_heights t_now_ridges)), (h_t_now_boulders, .inr (4, fX4 t_now_boulders_limit h_t_now_boulders_cells t_now_boulders_size)), (h_t_now_cliffs, .inr (4, fX4 t_now_cliffs_limit h_t_now_cliffs_cells t_now_cliffs_size)), (h_t_now_boulders_cells, .inl (cI, n_t_now_boulders_cells, .inl t_now_boulders_cells)), (h_t_valley, .inr (6, fX7 h_t_valley_next h_t_valley_stepsToGoal h_t_valley_stepsFromEarlier)), (h_t_valley_stepsToGoal, .inl (cI, 64, .inl t_valley_stepsToGoal)), (h_t_now_surfaces, .inl (cI, 192, .inl t_now_surfaces)), (h_t_valley_next, .inl (cI, 64, .inl t_valley_next)), (h_t_valley_stepsFromEarlier, .inl (cI, 64, .inl t_valley_stepsFromEarlier)), (h_t_now_cliffs_cells, .inl (cI, n_t_now_cliffs_cells, .inl t_now_cliffs_cells))]) (v := (some (.int r1))) ⟨hx, hb, hml, hown, hts⟩ (c_X4_has l dC dI cI cZ te h_t_now_boulders h_t_now_boulders_cells t_now_boulders_limit t_now_boulders_size p1 r1 hg2) (cwV 1 hts gX9_steps_X4_has rfl rfl rfl (by decide +kernel) ⟨Nat.le_of_ble_eq_true rfl, Nat.le_of_ble_eq_true rfl⟩) (kS_env te) hK hP hD hS hA hE [2] [0, 1, 3, 4, 5, 6, 7, 8, 9, 10] [0, 1, 10, 2, 3, 4, 5, 6, 7, 8, 9] rfl rfl (by decide) (by decide) (by decide) (by decide) rfl 2 4 rfl rfl rfl rfl hl.1 rfl (Nat.le_of_ble_eq_true rfl) dX9_steps_8 ⟨Nat.zero_le _, Nat.zero_le _⟩ (fun H locs hP hD hS => ?_)
  show W p l e rmX9_steps s m args below meth c H locs 0 0 Q (F0 m 11 ls [.int r1])
  refine lv_if_eq (tgt := 28) hx hb dX9_steps_11 (by decide) (fun c3 => ?_) (fun c3 => ?_)
  · replace hf := ifp c3 hf
    refine lv_bipush (v := (-2 : Int32)) hx hb dX9_steps_28 (by decide) ?_
    obtain ⟨rfl, rfl, rfl, rfl⟩ := inj4 hf
    subst hQ
    exact CM_iret hx hb hr rfl hlocks hAe hP hD hS dX9_steps_30
  · replace hf := ifn c3 hf
    refine lv_aload_n hx hb dX9_steps_14 rfl (lv_at hl 0 rfl) ?_
    refine va_get (D := (dC, dI)) (ci := 7) (v := .ref h_t_now) (C := RX9) (T := TX9) (N := 11) hx hb hts kX9_steps_0 hown hK hP 0 rfl rfl 0 (by decide) (hts _ kX9_steps_1) (fun _ h9 => h9) rfl dX9_steps_15 ?_
    refine va_get (D := (dC, dI)) (ci := 1) (v := .ref h_t_now_cliffs) (C := RX1) (T := TX1) (N := 10) hx hb hts kX9_steps_2 hown hK hP 1 rfl rfl 1 (by decide) (hts _ kX9_steps_4) (fun _ h9 => h9) rfl dX9_steps_18 ?_
    refine lv_iload_n hx hb dX9_steps_21 rfl (lv_at hl 2 rfl) ?_
    obtain ⟨r4, hg5, hf⟩ := bd1_some hf
    refine CM_callV (C := RX4) (As := [.int p2]) (rest := []) (wc := [(h_t_now_cliffs, .inr (4, fX4 t_now_cliffs_limit h_t_now_cliffs_cells t_now_cliffs_size))]) (w1 := [(h_t_now_cliffs, .inr (4, fX4 t_now_cliffs_limit h_t_now_cliffs_cells t_now_cliffs_size))]) (wr := [(h_t, .inr (7, fX9 h_t_now h_t_beforeRead h_t_firstImage h_t_secondImage h_t_valley h_t_ages h_t_fronts h_t_outburst h_t_text t_firstKept t_secondKept)), (h_t_now, .inr (1, fX1 h_t_now_surfaces h_t_now_cliffs h_t_now_boulders h_t_now_scratches h_t_now_numbers h_t_now_facts h_t_now_signs h_t_now_areas h_t_now_heights t_now_ridges)), (h_t_now_boulders, .inr (4, fX4 t_now_boulders_limit h_t_now_boulders_cells t_now_boulders_size)), (h_t_now_boulders_cells, .inl (cI, n_t_now_boulders_cells, .inl t_now_boulders_cells)), (h_t_valley, .inr (6, fX7 h_t_valley_next h_t_valley_stepsToGoal h_t_valley_stepsFromEarlier)), (h_t_valley_stepsToGoal, .inl (cI, 64, .inl t_valley_stepsToGoal)), (h_t_now_surfaces, .inl (cI, 192, .inl t_now_surfaces)), (h_t_valley_next, .inl (cI, 64, .inl t_valley_next)), (h_t_valley_stepsFromEarlier, .inl (cI, 64, .inl t_valley_stepsFromEarlier)), (h_t_now_cliffs_cells, .inl (cI, n_t_now_cliffs_cells, .inl t_now_cliffs_cells))]) (wo := [(h_t, .inr (7, fX9 h_t_now h_t_beforeRead h_t_firstImage h_t_secondImage h_t_valley h_t_ages h_t_fronts h_t_outburst h_t_text t_firstKept t_secondKept)), (h_t_now, .inr (1, fX1 h_t_now_surfaces h_t_now_cliffs h_t_now_boulders h_t_now_scratches h_t_now_numbers h_t_now_facts h_t_now_signs h_t_now_areas h_t_now_heights t_now_ridges)), (h_t_now_boulders, .inr (4, fX4 t_now_boulders_limit h_t_now_boulders_cells t_now_boulders_size)), (h_t_now_cliffs, .inr (4, fX4 t_now_cliffs_limit h_t_now_cliffs_cells t_now_cliffs_size)), (h_t_now_boulders_cells, .inl (cI, n_t_now_boulders_cells, .inl t_now_boulders_cells)), (h_t_valley, .inr (6, fX7 h_t_valley_next h_t_valley_stepsToGoal h_t_valley_stepsFromEarlier)), (h_t_valley_stepsToGoal, .inl (cI, 64, .inl t_valley_stepsToGoal)), (h_t_now_surfaces, .inl (cI, 192, .inl t_now_surfaces)), (h_t_valley_next, .inl (cI, 64, .inl t_valley_next)), (h_t_valley_stepsFromEarlier, .inl (cI, 64, .inl t_valley_stepsFromEarlier)), (h_t_now_cliffs_cells, .inl (cI, n_t_now_cliffs_cells, .inl t_now_cliffs_cells))]) (v := (some (.int r4))) ⟨hx, hb, hml, hown, hts⟩ (c_X4_has l dC dI cI cZ te h_t_now_cliffs h_t_now_cliffs_cells t_now_cliffs_limit t_now_cliffs_size p2 r4 hg5) (cwV 1 hts gX9_steps_X4_has rfl rfl rfl (by decide +kernel) ⟨Nat.le_of_ble_eq_true rfl, Nat.le_of_ble_eq_true rfl⟩) (kS_env te) hK hP hD hS hA hE [3] [0, 1, 2, 4, 5, 6, 7, 8, 9, 10] [0, 1, 2, 10, 3, 4, 5, 6, 7, 8, 9] rfl rfl (by decide) (by decide) (by decide) (by decide) rfl 3 4 rfl rfl rfl rfl hl.1 rfl (Nat.le_of_ble_eq_true rfl) dX9_steps_22 ⟨Nat.zero_le _, Nat.zero_le _⟩ (fun H locs hP hD hS => ?_)
    show W p l e rmX9_steps s m args below meth c H locs 0 0 Q (F0 m 25 ls [.int r4])
    refine lv_if_ne (tgt := 31) hx hb dX9_steps_25 (by decide) (fun c6 => ?_) (fun c6 => ?_)
    · replace hf := ifn c6 hf
      refine lv_aload_n hx hb dX9_steps_31 rfl (lv_at hl 0 rfl) ?_
      refine va_get (D := (dC, dI)) (ci := 7) (v := .ref h_t_valley) (C := RX9) (T := TX9) (N := 11) hx hb hts kX9_steps_0 hown hK hP 0 rfl rfl 4 (by decide) (hts _ kX9_steps_5) (fun _ h9 => h9) rfl dX9_steps_32 ?_
      refine lv_aload_n hx hb dX9_steps_35 rfl (lv_at hl 0 rfl) ?_
      refine va_get (D := (dC, dI)) (ci := 7) (v := .ref h_t_now) (C := RX9) (T := TX9) (N := 11) hx hb hts kX9_steps_0 hown hK hP 0 rfl rfl 0 (by decide) (hts _ kX9_steps_1) (fun _ h9 => h9) rfl dX9_steps_36 ?_
      refine lv_iload_n hx hb dX9_steps_39 rfl (lv_at hl 1 rfl) ?_
      refine lv_iload_n hx hb dX9_steps_40 rfl (lv_at hl 2 rfl) ?_
      obtain ⟨r7, y8, y9, y10, hg11, hf⟩ := bd4_some hf
      refine CM_callV (C := RX7) (As := [.ref h_t_now, .int p1, .int p2]) (rest := []) (wc := [(h_t_now, .inr (1, fX1 h_t_now_surfaces h_t_now_cliffs h_t_now_boulders h_t_now_scratches h_t_now_numbers h_t_now_facts h_t_now_signs h_t_now_areas h_t_now_heights t_now_ridges)), (h_t_now_boulders, .inr (4, fX4 t_now_boulders_limit h_t_now_boulders_cells t_now_boulders_size)), (h_t_now_boulders_cells, .inl (cI, n_t_now_boulders_cells, .inl t_now_boulders_cells)), (h_t_valley, .inr (6, fX7 h_t_valley_next h_t_valley_stepsToGoal h_t_valley_stepsFromEarlier)), (h_t_valley_stepsToGoal, .inl (cI, 64, .inl t_valley_stepsToGoal)), (h_t_now_surfaces, .inl (cI, 192, .inl t_now_surfaces)), (h_t_valley_next, .inl (cI, 64, .inl t_valley_next)), (h_t_valley_stepsFromEarlier, .inl (cI, 64, .inl t_valley_stepsFromEarlier)), (h_t_now_cliffs, .inr (4, fX4 t_now_cliffs_limit h_t_now_cliffs_cells t_now_cliffs_size)), (h_t_now_cliffs_cells, .inl (cI, n_t_now_cliffs_cells, .inl t_now_cliffs_cells))]) (w1 := [(h_t_now, .inr (1, fX1 h_t_now_surfaces h_t_now_cliffs h_t_now_boulders h_t_now_scratches h_t_now_numbers h_t_now_facts h_t_now_signs h_t_now_areas h_t_now_heights t_now_ridges)), (h_t_now_boulders, .inr (4, fX4 t_now_boulders_limit h_t_now_boulders_cells t_now_boulders_size)), (h_t_now_boulders_cells, .inl (cI, n_t_now_boulders_cells, .inl t_now_boulders_cells)), (h_t_valley, .inr (6, fX7 h_t_valley_next h_t_valley_stepsToGoal h_t_valley_stepsFromEarlier)), (h_t_valley_stepsToGoal, .inl (cI, 64, .inl y8)), (h_t_now_surfaces, .inl (cI, 192, .inl t_now_surfaces)), (h_t_valley_next, .inl (cI, 64, .inl y9)), (h_t_valley_stepsFromEarlier, .inl (cI, 64, .inl y10)), (h_t_now_cliffs, .inr (4, fX4 t_now_cliffs_limit h_t_now_cliffs_cells t_now_cliffs_size)), (h_t_now_cliffs_cells, .inl (cI, n_t_now_cliffs_cells, .inl t_now_cliffs_cells))]) (wr := [(h_t, .inr (7, fX9 h_t_now h_t_beforeRead h_t_firstImage h_t_secondImage h_t_valley h_t_ages h_t_fronts h_t_outburst h_t_text t_firstKept t_secondKept))]) (wo := [(h_t, .inr (7, fX9 h_t_now h_t_beforeRead h_t_firstImage h_t_secondImage h_t_valley h_t_ages h_t_fronts h_t_outburst h_t_text t_firstKept t_secondKept)), (h_t_now, .inr (1, fX1 h_t_now_surfaces h_t_now_cliffs h_t_now_boulders h_t_now_scratches h_t_now_numbers h_t_now_facts h_t_now_signs h_t_now_areas h_t_now_heights t_now_ridges)), (h_t_now_boulders, .inr (4, fX4 t_now_boulders_limit h_t_now_boulders_cells t_now_boulders_size)), (h_t_now_cliffs, .inr (4, fX4 t_now_cliffs_limit h_t_now_cliffs_cells t_now_cliffs_size)), (h_t_now_boulders_cells, .inl (cI, n_t_now_boulders_cells, .inl t_now_boulders_cells)), (h_t_valley, .inr (6, fX7 h_t_valley_next h_t_valley_stepsToGoal h_t_valley_stepsFromEarlier)), (h_t_valley_stepsToGoal, .inl (cI, 64, .inl y8)), (h_t_now_surfaces, .inl (cI, 192, .inl t_now_surfaces)), (h_t_valley_next, .inl (cI, 64, .inl y9)), (h_t_valley_stepsFromEarlier, .inl (cI, 64, .inl y10)), (h_t_now_cliffs_cells, .inl (cI, n_t_now_cliffs_cells, .inl t_now_cliffs_cells))]) (v := (some (.int r7))) ⟨hx, hb, hml, hown, hts⟩ (c_X7_fewestSteps l dC dI cI cZ te h_t_valley h_t_now h_t_now_surfaces h_t_now_cliffs h_t_now_boulders h_t_now_scratches h_t_now_numbers h_t_now_facts h_t_now_signs h_t_now_areas h_t_now_heights h_t_now_boulders_cells h_t_valley_next h_t_valley_stepsToGoal h_t_valley_stepsFromEarlier h_t_now_cliffs_cells t_now_ridges t_now_boulders_limit t_now_boulders_size n_t_now_boulders_cells t_now_boulders_cells t_valley_stepsToGoal t_now_surfaces t_valley_next t_valley_stepsFromEarlier t_now_cliffs_limit t_now_cliffs_size n_t_now_cliffs_cells t_now_cliffs_cells p1 p2 r7 y8 y9 y10 hg11) (cwV 3 hts gX9_steps_X7_fewestSteps rfl rfl rfl (by decide +kernel) ⟨Nat.le_of_ble_eq_true rfl, Nat.le_of_ble_eq_true rfl⟩) (kS_env te) hK hP hD hS hA hE [1, 2, 4, 5, 6, 7, 8, 9, 3, 10] [0] [0, 1, 2, 9, 3, 4, 5, 6, 7, 8, 10] rfl rfl (by decide) (by decide) (by decide) (by decide) rfl 5 6 rfl rfl rfl rfl hl.1 rfl (Nat.le_of_ble_eq_true rfl) dX9_steps_41 ⟨Nat.zero_le _, Nat.zero_le _⟩ (fun H locs hP hD hS => ?_)
      show W p l e rmX9_steps s m args below meth c H locs 0 0 Q (F0 m 44 ls [.int r7])
      obtain ⟨rfl, rfl, rfl, rfl⟩ := inj4 hf
      subst hQ
      exact CM_iret hx hb hr rfl hlocks hAe hP hD hS dX9_steps_44
    · replace hf := ifp c6 hf
      refine lv_bipush (v := (-2 : Int32)) hx hb dX9_steps_28 (by decide) ?_
      obtain ⟨rfl, rfl, rfl, rfl⟩ := inj4 hf
      subst hQ
      exact CM_iret hx hb hr rfl hlocks hAe hP hD hS dX9_steps_30
def rmX9_home : Room := { frames := 4, cells := 0, slots := 0, locals := 100 }
set_option maxRecDepth 20000 in
theorem kX9_home_0 : ∀ w ∈ u_ws RX9 TX9 11, w ∈ wsX9_home := by decide +kernel
set_option maxRecDepth 20000 in
theorem kX9_home_1 : Cond.fieldLink RX9 10 "StoneRiver" "now" "LStoneRiver$Found;" ∈ wsX9_home := by decide +kernel
set_option maxRecDepth 20000 in
theorem kX9_home_2 : ∀ w ∈ u_ws RX1 TX1 10, w ∈ wsX9_home := by decide +kernel
set_option maxRecDepth 20000 in
theorem kX9_home_3 : Cond.fieldLink RX9 105 "StoneRiver$Found" "boulders" "LStoneRiver$Rows;" ∈ wsX9_home := by decide +kernel
set_option maxRecDepth 20000 in
theorem kX9_home_4 : Cond.fieldLink RX9 28 "StoneRiver" "valley" "LStoneRiver$Valley;" ∈ wsX9_home := by decide +kernel
set_option maxHeartbeats 4000000 in
set_option maxRecDepth 100000 in
theorem c_X9_home (l : Launch) (dC : Nat → ClassId) (dI : Nat → Nat → Nat) (cI cZ : ClassId) (te : Nat → Nat) (h_t : Nat) (h_t_now : Nat) (h_t_beforeRead : Nat) (h_t_firstImage : Nat) (h_t_secondImage : Nat) (h_t_valley : Nat) (h_t_ages : Nat) (h_t_fronts : Nat) (h_t_outburst : Nat) (h_t_text : Nat) (h_t_now_surfaces : Nat) (h_t_now_cliffs : Nat) (h_t_now_boulders : Nat) (h_t_now_scratches : Nat) (h_t_now_numbers : Nat) (h_t_now_facts : Nat) (h_t_now_signs : Nat) (h_t_now_areas : Nat) (h_t_now_heights : Nat) (h_t_now_boulders_cells : Nat) (h_t_valley_next : Nat) (h_t_valley_stepsToGoal : Nat) (h_t_valley_stepsFromEarlier : Nat) (h_t_now_cliffs_cells : Nat) (t_firstKept : Int32) (t_secondKept : Int32) (t_now_ridges : Int32) (t_now_boulders_limit : Int32) (t_now_boulders_size : Int32) (n_t_now_boulders_cells : Nat) (t_now_boulders_cells : Nat → Int32) (t_valley_stepsToGoal : Nat → Int32) (t_now_surfaces : Nat → Int32) (t_valley_next : Nat → Int32) (t_valley_stepsFromEarlier : Nat → Int32) (t_now_cliffs_limit : Int32) (t_now_cliffs_size : Int32) (n_t_now_cliffs_cells : Nat) (t_now_cliffs_cells : Nat → Int32) (p1 : Int32) (o0 : Int32) (o1 : Nat → Int32) (o2 : Nat → Int32) (o3 : Nat → Int32) (hf : f_X9_home t_now_boulders_size n_t_now_boulders_cells t_now_boulders_cells t_valley_stepsToGoal t_now_surfaces t_valley_next t_valley_stepsFromEarlier t_now_cliffs_size n_t_now_cliffs_cells t_now_cliffs_cells p1 = some (o0, o1, o2, o3)) : CM l yX9_home wsX9_home rmX9_home (kS te) dC dI cI cZ [.ref h_t, .int p1] [(h_t, .inr (7, fX9 h_t_now h_t_beforeRead h_t_firstImage h_t_secondImage h_t_valley h_t_ages h_t_fronts h_t_outburst h_t_text t_firstKept t_secondKept)), (h_t_now, .inr (1, fX1 h_t_now_surfaces h_t_now_cliffs h_t_now_boulders h_t_now_scratches h_t_now_numbers h_t_now_facts h_t_now_signs h_t_now_areas h_t_now_heights t_now_ridges)), (h_t_now_boulders, .inr (4, fX4 t_now_boulders_limit h_t_now_boulders_cells t_now_boulders_size)), (h_t_now_boulders_cells, .inl (cI, n_t_now_boulders_cells, .inl t_now_boulders_cells)), (h_t_valley, .inr (6, fX7 h_t_valley_next h_t_valley_stepsToGoal h_t_valley_stepsFromEarlier)), (h_t_valley_stepsToGoal, .inl (cI, 64, .inl t_valley_stepsToGoal)), (h_t_now_surfaces, .inl (cI, 192, .inl t_now_surfaces)), (h_t_valley_next, .inl (cI, 64, .inl t_valley_next)), (h_t_valley_stepsFromEarlier, .inl (cI, 64, .inl t_valley_stepsFromEarlier)), (h_t_now_cliffs, .inr (4, fX4 t_now_cliffs_limit h_t_now_cliffs_cells t_now_cliffs_size)), (h_t_now_cliffs_cells, .inl (cI, n_t_now_cliffs_cells, .inl t_now_cliffs_cells))] [(h_t, .inr (7, fX9 h_t_now h_t_beforeRead h_t_firstImage h_t_secondImage h_t_valley h_t_ages h_t_fronts h_t_outburst h_t_text t_firstKept t_secondKept)), (h_t_now, .inr (1, fX1 h_t_now_surfaces h_t_now_cliffs h_t_now_boulders h_t_now_scratches h_t_now_numbers h_t_now_facts h_t_now_signs h_t_now_areas h_t_now_heights t_now_ridges)), (h_t_now_boulders, .inr (4, fX4 t_now_boulders_limit h_t_now_boulders_cells t_now_boulders_size)), (h_t_now_boulders_cells, .inl (cI, n_t_now_boulders_cells, .inl t_now_boulders_cells)), (h_t_valley, .inr (6, fX7 h_t_valley_next h_t_valley_stepsToGoal h_t_valley_stepsFromEarlier)), (h_t_valley_stepsToGoal, .inl (cI, 64, .inl o1)), (h_t_now_surfaces, .inl (cI, 192, .inl t_now_surfaces)), (h_t_valley_next, .inl (cI, 64, .inl o2)), (h_t_valley_stepsFromEarlier, .inl (cI, 64, .inl o3)), (h_t_now_cliffs, .inr (4, fX4 t_now_cliffs_limit h_t_now_cliffs_cells t_now_cliffs_size)), (h_t_now_cliffs_cells, .inl (cI, n_t_now_cliffs_cells, .inl t_now_cliffs_cells))] (some (.int o0)) := by
  refine CM_of (cc := cX9_home) (maxL := 2) (ret := (some .int)) (by decide +kernel) rfl (Nat.le_of_ble_eq_true rfl) ?_
  intro p e s m args below meth c A Q hx hb hr hml hown hts hlocks hA hK hP hD hS hE hQ hAe ls hl
  have hown : s.vm.findClass RX9 = some m.cls := hown
  have hl : lv_has ls 2 [(0, .ref h_t), (1, .int p1)] := hl
  unfold f_X9_home at hf
  refine lv_aload_n hx hb dX9_home_0 rfl (lv_at hl 0 rfl) ?_
  refine va_get (D := (dC, dI)) (ci := 7) (v := .ref h_t_now) (C := RX9) (T := TX9) (N := 11) hx hb hts kX9_home_0 hown hK hP 0 rfl rfl 0 (by decide) (hts _ kX9_home_1) (fun _ h9 => h9) rfl dX9_home_1 ?_
  refine va_get (D := (dC, dI)) (ci := 1) (v := .ref h_t_now_boulders) (C := RX1) (T := TX1) (N := 10) hx hb hts kX9_home_2 hown hK hP 1 rfl rfl 2 (by decide) (hts _ kX9_home_3) (fun _ h9 => h9) rfl dX9_home_4 ?_
  refine lv_iload_n hx hb dX9_home_7 rfl (lv_at hl 1 rfl) ?_
  obtain ⟨r1, hg2, hf⟩ := bd1_some hf
  refine CM_callV (C := RX4) (As := [.int p1]) (rest := []) (wc := [(h_t_now_boulders, .inr (4, fX4 t_now_boulders_limit h_t_now_boulders_cells t_now_boulders_size))]) (w1 := [(h_t_now_boulders, .inr (4, fX4 t_now_boulders_limit h_t_now_boulders_cells t_now_boulders_size))]) (wr := [(h_t, .inr (7, fX9 h_t_now h_t_beforeRead h_t_firstImage h_t_secondImage h_t_valley h_t_ages h_t_fronts h_t_outburst h_t_text t_firstKept t_secondKept)), (h_t_now, .inr (1, fX1 h_t_now_surfaces h_t_now_cliffs h_t_now_boulders h_t_now_scratches h_t_now_numbers h_t_now_facts h_t_now_signs h_t_now_areas h_t_now_heights t_now_ridges)), (h_t_now_boulders_cells, .inl (cI, n_t_now_boulders_cells, .inl t_now_boulders_cells)), (h_t_valley, .inr (6, fX7 h_t_valley_next h_t_valley_stepsToGoal h_t_valley_stepsFromEarlier)), (h_t_valley_stepsToGoal, .inl (cI, 64, .inl t_valley_stepsToGoal)), (h_t_now_surfaces, .inl (cI, 192, .inl t_now_surfaces)), (h_t_valley_next, .inl (cI, 64, .inl t_valley_next)), (h_t_valley_stepsFromEarlier, .inl (cI, 64, .inl t_valley_stepsFromEarlier)), (h_t_now_cliffs, .inr (4, fX4 t_now_cliffs_limit h_t_now_cliffs_cells t_now_cliffs_size)), (h_t_now_cliffs_cells, .inl (cI, n_t_now_cliffs_cells, .inl t_now_cliffs_cells))]) (wo := [(h_t, .inr (7, fX9 h_t_now h_t_beforeRead h_t_firstImage h_t_secondImage h_t_valley h_t_ages h_t_fronts h_t_outburst h_t_text t_firstKept t_secondKept)), (h_t_now, .inr (1, fX1 h_t_now_surfaces h_t_now_cliffs h_t_now_boulders h_t_now_scratches h_t_now_numbers h_t_now_facts h_t_now_signs h_t_now_areas h_t_now_heights t_now_ridges)), (h_t_now_boulders, .inr (4, fX4 t_now_boulders_limit h_t_now_boulders_cells t_now_boulders_size)), (h_t_now_boulders_cells, .inl (cI, n_t_now_boulders_cells, .inl t_now_boulders_cells)), (h_t_valley, .inr (6, fX7 h_t_valley_next h_t_valley_stepsToGoal h_t_valley_stepsFromEarlier)), (h_t_valley_stepsToGoal, .inl (cI, 64, .inl t_valley_stepsToGoal)), (h_t_now_surfaces, .inl (cI, 192, .inl t_now_surfaces)), (h_t_valley_next, .inl (cI, 64, .inl t_valley_next)), (h_t_valley_stepsFromEarlier, .inl (cI, 64, .inl t_valley_stepsFromEarlier)), (h_t_now_cliffs, .inr (4, fX4 t_now_cliffs_limit h_t_now_cliffs_cells t_now_cliffs_size)), (h_t_now_cliffs_cells, .inl (cI, n_t_now_cliffs_cells, .inl t_now_cliffs_cells))]) (v := (some (.int r1))) ⟨hx, hb, hml, hown, hts⟩ (c_X4_has l dC dI cI cZ te h_t_now_boulders h_t_now_boulders_cells t_now_boulders_limit t_now_boulders_size p1 r1 hg2) (cwV 1 hts gX9_home_X4_has rfl rfl rfl (by decide +kernel) ⟨Nat.le_of_ble_eq_true rfl, Nat.le_of_ble_eq_true rfl⟩) (kS_env te) hK hP hD hS hA hE [2] [0, 1, 3, 4, 5, 6, 7, 8, 9, 10] [0, 1, 10, 2, 3, 4, 5, 6, 7, 8, 9] rfl rfl (by decide) (by decide) (by decide) (by decide) rfl 2 4 rfl rfl rfl rfl hl.1 rfl (Nat.le_of_ble_eq_true rfl) dX9_home_8 ⟨Nat.zero_le _, Nat.zero_le _⟩ (fun H locs hP hD hS => ?_)
  show W p l e rmX9_home s m args below meth c H locs 0 0 Q (F0 m 11 ls [.int r1])
  refine lv_if_eq (tgt := 29) hx hb dX9_home_11 (by decide) (fun c3 => ?_) (fun c3 => ?_)
  · replace hf := ifp c3 hf
    refine lv_bipush (v := (-2 : Int32)) hx hb dX9_home_29 (by decide) ?_
    obtain ⟨rfl, rfl, rfl, rfl⟩ := inj4 hf
    subst hQ
    exact CM_iret hx hb hr rfl hlocks hAe hP hD hS dX9_home_31
  · replace hf := ifn c3 hf
    refine lv_aload_n hx hb dX9_home_14 rfl (lv_at hl 0 rfl) ?_
    refine va_get (D := (dC, dI)) (ci := 7) (v := .ref h_t_valley) (C := RX9) (T := TX9) (N := 11) hx hb hts kX9_home_0 hown hK hP 0 rfl rfl 4 (by decide) (hts _ kX9_home_4) (fun _ h9 => h9) rfl dX9_home_15 ?_
    refine lv_aload_n hx hb dX9_home_18 rfl (lv_at hl 0 rfl) ?_
    refine va_get (D := (dC, dI)) (ci := 7) (v := .ref h_t_now) (C := RX9) (T := TX9) (N := 11) hx hb hts kX9_home_0 hown hK hP 0 rfl rfl 0 (by decide) (hts _ kX9_home_1) (fun _ h9 => h9) rfl dX9_home_19 ?_
    refine lv_iload_n hx hb dX9_home_22 rfl (lv_at hl 1 rfl) ?_
    obtain ⟨r4, y5, y6, y7, hg8, hf⟩ := bd4_some hf
    refine CM_callV (C := RX7) (As := [.ref h_t_now, .int p1]) (rest := []) (wc := [(h_t_now, .inr (1, fX1 h_t_now_surfaces h_t_now_cliffs h_t_now_boulders h_t_now_scratches h_t_now_numbers h_t_now_facts h_t_now_signs h_t_now_areas h_t_now_heights t_now_ridges)), (h_t_now_boulders, .inr (4, fX4 t_now_boulders_limit h_t_now_boulders_cells t_now_boulders_size)), (h_t_now_boulders_cells, .inl (cI, n_t_now_boulders_cells, .inl t_now_boulders_cells)), (h_t_valley, .inr (6, fX7 h_t_valley_next h_t_valley_stepsToGoal h_t_valley_stepsFromEarlier)), (h_t_valley_stepsToGoal, .inl (cI, 64, .inl t_valley_stepsToGoal)), (h_t_now_surfaces, .inl (cI, 192, .inl t_now_surfaces)), (h_t_valley_next, .inl (cI, 64, .inl t_valley_next)), (h_t_valley_stepsFromEarlier, .inl (cI, 64, .inl t_valley_stepsFromEarlier)), (h_t_now_cliffs, .inr (4, fX4 t_now_cliffs_limit h_t_now_cliffs_cells t_now_cliffs_size)), (h_t_now_cliffs_cells, .inl (cI, n_t_now_cliffs_cells, .inl t_now_cliffs_cells))]) (w1 := [(h_t_now, .inr (1, fX1 h_t_now_surfaces h_t_now_cliffs h_t_now_boulders h_t_now_scratches h_t_now_numbers h_t_now_facts h_t_now_signs h_t_now_areas h_t_now_heights t_now_ridges)), (h_t_now_boulders, .inr (4, fX4 t_now_boulders_limit h_t_now_boulders_cells t_now_boulders_size)), (h_t_now_boulders_cells, .inl (cI, n_t_now_boulders_cells, .inl t_now_boulders_cells)), (h_t_valley, .inr (6, fX7 h_t_valley_next h_t_valley_stepsToGoal h_t_valley_stepsFromEarlier)), (h_t_valley_stepsToGoal, .inl (cI, 64, .inl y5)), (h_t_now_surfaces, .inl (cI, 192, .inl t_now_surfaces)), (h_t_valley_next, .inl (cI, 64, .inl y6)), (h_t_valley_stepsFromEarlier, .inl (cI, 64, .inl y7)), (h_t_now_cliffs, .inr (4, fX4 t_now_cliffs_limit h_t_now_cliffs_cells t_now_cliffs_size)), (h_t_now_cliffs_cells, .inl (cI, n_t_now_cliffs_cells, .inl t_now_cliffs_cells))]) (wr := [(h_t, .inr (7, fX9 h_t_now h_t_beforeRead h_t_firstImage h_t_secondImage h_t_valley h_t_ages h_t_fronts h_t_outburst h_t_text t_firstKept t_secondKept))]) (wo := [(h_t, .inr (7, fX9 h_t_now h_t_beforeRead h_t_firstImage h_t_secondImage h_t_valley h_t_ages h_t_fronts h_t_outburst h_t_text t_firstKept t_secondKept)), (h_t_now, .inr (1, fX1 h_t_now_surfaces h_t_now_cliffs h_t_now_boulders h_t_now_scratches h_t_now_numbers h_t_now_facts h_t_now_signs h_t_now_areas h_t_now_heights t_now_ridges)), (h_t_now_boulders, .inr (4, fX4 t_now_boulders_limit h_t_now_boulders_cells t_now_boulders_size)), (h_t_now_boulders_cells, .inl (cI, n_t_now_boulders_cells, .inl t_now_boulders_cells)), (h_t_valley, .inr (6, fX7 h_t_valley_next h_t_valley_stepsToGoal h_t_valley_stepsFromEarlier)), (h_t_valley_stepsToGoal, .inl (cI, 64, .inl y5)), (h_t_now_surfaces, .inl (cI, 192, .inl t_now_surfaces)), (h_t_valley_next, .inl (cI, 64, .inl y6)), (h_t_valley_stepsFromEarlier, .inl (cI, 64, .inl y7)), (h_t_now_cliffs, .inr (4, fX4 t_now_cliffs_limit h_t_now_cliffs_cells t_now_cliffs_size)), (h_t_now_cliffs_cells, .inl (cI, n_t_now_cliffs_cells, .inl t_now_cliffs_cells))]) (v := (some (.int r4))) ⟨hx, hb, hml, hown, hts⟩ (c_X7_nearestCliff l dC dI cI cZ te h_t_valley h_t_now h_t_now_surfaces h_t_now_cliffs h_t_now_boulders h_t_now_scratches h_t_now_numbers h_t_now_facts h_t_now_signs h_t_now_areas h_t_now_heights h_t_now_boulders_cells h_t_valley_next h_t_valley_stepsToGoal h_t_valley_stepsFromEarlier h_t_now_cliffs_cells t_now_ridges t_now_boulders_limit t_now_boulders_size n_t_now_boulders_cells t_now_boulders_cells t_valley_stepsToGoal t_now_surfaces t_valley_next t_valley_stepsFromEarlier t_now_cliffs_limit t_now_cliffs_size n_t_now_cliffs_cells t_now_cliffs_cells p1 r4 y5 y6 y7 hg8) (cwV 2 hts gX9_home_X7_nearestCliff rfl rfl rfl (by decide +kernel) ⟨Nat.le_of_ble_eq_true rfl, Nat.le_of_ble_eq_true rfl⟩) (kS_env te) hK hP hD hS hA hE [1, 2, 3, 4, 5, 6, 7, 8, 9, 10] [0] [0, 1, 2, 3, 4, 5, 6, 7, 8, 9, 10] rfl rfl (by decide) (by decide) (by decide) (by decide) rfl 4 6 rfl rfl rfl rfl hl.1 rfl (Nat.le_of_ble_eq_true rfl) dX9_home_23 ⟨Nat.zero_le _, Nat.zero_le _⟩ (fun H locs hP hD hS => ?_)
    show W p l e rmX9_home s m args below meth c H locs 0 0 Q (F0 m 26 ls [.int r4])
    refine lv_goto (tgt := 31) hx hb dX9_home_26 (by decide) ?_
    obtain ⟨rfl, rfl, rfl, rfl⟩ := inj4 hf
    subst hQ
    exact CM_iret hx hb hr rfl hlocks hAe hP hD hS dX9_home_31
def rmX9_upstream : Room := { frames := 4, cells := 0, slots := 0, locals := 98 }
set_option maxRecDepth 20000 in
theorem kX9_upstream_0 : ∀ w ∈ u_ws RX9 TX9 11, w ∈ wsX9_upstream := by decide +kernel
set_option maxRecDepth 20000 in
theorem kX9_upstream_1 : Cond.fieldLink RX9 28 "StoneRiver" "valley" "LStoneRiver$Valley;" ∈ wsX9_upstream := by decide +kernel
set_option maxRecDepth 20000 in
theorem kX9_upstream_2 : Cond.fieldLink RX9 10 "StoneRiver" "now" "LStoneRiver$Found;" ∈ wsX9_upstream := by decide +kernel
set_option maxRecDepth 20000 in
theorem kX9_upstream_3 : ∀ w ∈ u_ws RX1 TX1 10, w ∈ wsX9_upstream := by decide +kernel
set_option maxRecDepth 20000 in
theorem kX9_upstream_4 : Cond.fieldLink RX9 71 "StoneRiver$Found" "surfaces" "[I" ∈ wsX9_upstream := by decide +kernel
set_option maxHeartbeats 4000000 in
set_option maxRecDepth 100000 in
theorem c_X9_upstream (l : Launch) (dC : Nat → ClassId) (dI : Nat → Nat → Nat) (cI cZ : ClassId) (te : Nat → Nat) (h_t : Nat) (h_t_now : Nat) (h_t_beforeRead : Nat) (h_t_firstImage : Nat) (h_t_secondImage : Nat) (h_t_valley : Nat) (h_t_ages : Nat) (h_t_fronts : Nat) (h_t_outburst : Nat) (h_t_text : Nat) (h_t_now_surfaces : Nat) (h_t_now_cliffs : Nat) (h_t_now_boulders : Nat) (h_t_now_scratches : Nat) (h_t_now_numbers : Nat) (h_t_now_facts : Nat) (h_t_now_signs : Nat) (h_t_now_areas : Nat) (h_t_now_heights : Nat) (h_t_valley_next : Nat) (h_t_valley_stepsToGoal : Nat) (h_t_valley_stepsFromEarlier : Nat) (t_firstKept : Int32) (t_secondKept : Int32) (t_now_ridges : Int32) (t_valley_stepsToGoal : Nat → Int32) (t_now_surfaces : Nat → Int32) (t_valley_next : Nat → Int32) (t_valley_stepsFromEarlier : Nat → Int32) (p1 : Int32) (o0 : Int32) (o1 : Nat → Int32) (o2 : Nat → Int32) (o3 : Nat → Int32) (hf : f_X9_upstream t_valley_stepsToGoal t_now_surfaces t_valley_next t_valley_stepsFromEarlier p1 = some (o0, o1, o2, o3)) : CM l yX9_upstream wsX9_upstream rmX9_upstream (kS te) dC dI cI cZ [.ref h_t, .int p1] [(h_t, .inr (7, fX9 h_t_now h_t_beforeRead h_t_firstImage h_t_secondImage h_t_valley h_t_ages h_t_fronts h_t_outburst h_t_text t_firstKept t_secondKept)), (h_t_now, .inr (1, fX1 h_t_now_surfaces h_t_now_cliffs h_t_now_boulders h_t_now_scratches h_t_now_numbers h_t_now_facts h_t_now_signs h_t_now_areas h_t_now_heights t_now_ridges)), (h_t_valley, .inr (6, fX7 h_t_valley_next h_t_valley_stepsToGoal h_t_valley_stepsFromEarlier)), (h_t_valley_stepsToGoal, .inl (cI, 64, .inl t_valley_stepsToGoal)), (h_t_now_surfaces, .inl (cI, 192, .inl t_now_surfaces)), (h_t_valley_next, .inl (cI, 64, .inl t_valley_next)), (h_t_valley_stepsFromEarlier, .inl (cI, 64, .inl t_valley_stepsFromEarlier))] [(h_t, .inr (7, fX9 h_t_now h_t_beforeRead h_t_firstImage h_t_secondImage h_t_valley h_t_ages h_t_fronts h_t_outburst h_t_text t_firstKept t_secondKept)), (h_t_now, .inr (1, fX1 h_t_now_surfaces h_t_now_cliffs h_t_now_boulders h_t_now_scratches h_t_now_numbers h_t_now_facts h_t_now_signs h_t_now_areas h_t_now_heights t_now_ridges)), (h_t_valley, .inr (6, fX7 h_t_valley_next h_t_valley_stepsToGoal h_t_valley_stepsFromEarlier)), (h_t_valley_stepsToGoal, .inl (cI, 64, .inl o1)), (h_t_now_surfaces, .inl (cI, 192, .inl t_now_surfaces)), (h_t_valley_next, .inl (cI, 64, .inl o2)), (h_t_valley_stepsFromEarlier, .inl (cI, 64, .inl o3))] (some (.int o0)) := by
  refine CM_of (cc := cX9_upstream) (maxL := 2) (ret := (some .int)) (by decide +kernel) rfl (Nat.le_of_ble_eq_true rfl) ?_
  intro p e s m args below meth c A Q hx hb hr hml hown hts hlocks hA hK hP hD hS hE hQ hAe ls hl
  have hown : s.vm.findClass RX9 = some m.cls := hown
  have hl : lv_has ls 2 [(0, .ref h_t), (1, .int p1)] := hl
  unfold f_X9_upstream at hf
  refine lv_iload_n hx hb dX9_upstream_0 rfl (lv_at hl 1 rfl) ?_
  obtain ⟨r1, hg2, hf⟩ := bd1_some hf
  refine CM_callS (As := [.int p1]) (rest := []) (wc := []) (w1 := []) (wr := [(h_t, .inr (7, fX9 h_t_now h_t_beforeRead h_t_firstImage h_t_secondImage h_t_valley h_t_ages h_t_fronts h_t_outburst h_t_text t_firstKept t_secondKept)), (h_t_now, .inr (1, fX1 h_t_now_surfaces h_t_now_cliffs h_t_now_boulders h_t_now_scratches h_t_now_numbers h_t_now_facts h_t_now_signs h_t_now_areas h_t_now_heights t_now_ridges)), (h_t_valley, .inr (6, fX7 h_t_valley_next h_t_valley_stepsToGoal h_t_valley_stepsFromEarlier)), (h_t_valley_stepsToGoal, .inl (cI, 64, .inl t_valley_stepsToGoal)), (h_t_now_surfaces, .inl (cI, 192, .inl t_now_surfaces)), (h_t_valley_next, .inl (cI, 64, .inl t_valley_next)), (h_t_valley_stepsFromEarlier, .inl (cI, 64, .inl t_valley_stepsFromEarlier))]) (wo := [(h_t, .inr (7, fX9 h_t_now h_t_beforeRead h_t_firstImage h_t_secondImage h_t_valley h_t_ages h_t_fronts h_t_outburst h_t_text t_firstKept t_secondKept)), (h_t_now, .inr (1, fX1 h_t_now_surfaces h_t_now_cliffs h_t_now_boulders h_t_now_scratches h_t_now_numbers h_t_now_facts h_t_now_signs h_t_now_areas h_t_now_heights t_now_ridges)), (h_t_valley, .inr (6, fX7 h_t_valley_next h_t_valley_stepsToGoal h_t_valley_stepsFromEarlier)), (h_t_valley_stepsToGoal, .inl (cI, 64, .inl t_valley_stepsToGoal)), (h_t_now_surfaces, .inl (cI, 192, .inl t_now_surfaces)), (h_t_valley_next, .inl (cI, 64, .inl t_valley_next)), (h_t_valley_stepsFromEarlier, .inl (cI, 64, .inl t_valley_stepsFromEarlier))]) (v := (some (.int r1))) ⟨hx, hb, hml, hown, hts⟩ (c_X9_isPlace l dC dI cI cZ te p1 r1 hg2) (va_cwS 1 hts gX9_upstream_X9_isPlace rfl rfl rfl (by decide +kernel) ⟨Nat.le_of_ble_eq_true rfl, Nat.le_of_ble_eq_true rfl⟩) (kS_env te) hK hP hD hS hA hE [] [0, 1, 2, 3, 4, 5, 6] [0, 1, 2, 3, 4, 5, 6] rfl rfl (by decide) (by decide) (by decide) (by decide) rfl rfl hl.1 rfl (Nat.le_of_ble_eq_true rfl) dX9_upstream_1 ⟨Nat.zero_le _, Nat.zero_le _⟩ (fun H locs hP hD hS => ?_)
  show W p l e rmX9_upstream s m args below meth c H locs 0 0 Q (F0 m 4 ls [.int r1])
  refine lv_if_eq (tgt := 25) hx hb dX9_upstream_4 (by decide) (fun c3 => ?_) (fun c3 => ?_)
  · replace hf := ifp c3 hf
    refine lv_bipush (v := (-2 : Int32)) hx hb dX9_upstream_25 (by decide) ?_
    obtain ⟨rfl, rfl, rfl, rfl⟩ := inj4 hf
    subst hQ
    exact CM_iret hx hb hr rfl hlocks hAe hP hD hS dX9_upstream_27
  · replace hf := ifn c3 hf
    refine lv_aload_n hx hb dX9_upstream_7 rfl (lv_at hl 0 rfl) ?_
    refine va_get (D := (dC, dI)) (ci := 7) (v := .ref h_t_valley) (C := RX9) (T := TX9) (N := 11) hx hb hts kX9_upstream_0 hown hK hP 0 rfl rfl 4 (by decide) (hts _ kX9_upstream_1) (fun _ h9 => h9) rfl dX9_upstream_8 ?_
    refine lv_aload_n hx hb dX9_upstream_11 rfl (lv_at hl 0 rfl) ?_
    refine va_get (D := (dC, dI)) (ci := 7) (v := .ref h_t_now) (C := RX9) (T := TX9) (N := 11) hx hb hts kX9_upstream_0 hown hK hP 0 rfl rfl 0 (by decide) (hts _ kX9_upstream_2) (fun _ h9 => h9) rfl dX9_upstream_12 ?_
    refine va_get (D := (dC, dI)) (ci := 1) (v := .ref h_t_now_surfaces) (C := RX1) (T := TX1) (N := 10) hx hb hts kX9_upstream_3 hown hK hP 1 rfl rfl 0 (by decide) (hts _ kX9_upstream_4) (fun _ h9 => h9) rfl dX9_upstream_15 ?_
    refine lv_iload_n hx hb dX9_upstream_18 rfl (lv_at hl 1 rfl) ?_
    obtain ⟨r4, y5, y6, y7, hg8, hf⟩ := bd4_some hf
    refine CM_callV (C := RX7) (As := [.ref h_t_now_surfaces, .int p1]) (rest := []) (wc := [(h_t_valley, .inr (6, fX7 h_t_valley_next h_t_valley_stepsToGoal h_t_valley_stepsFromEarlier)), (h_t_valley_stepsToGoal, .inl (cI, 64, .inl t_valley_stepsToGoal)), (h_t_now_surfaces, .inl (cI, 192, .inl t_now_surfaces)), (h_t_valley_next, .inl (cI, 64, .inl t_valley_next)), (h_t_valley_stepsFromEarlier, .inl (cI, 64, .inl t_valley_stepsFromEarlier))]) (w1 := [(h_t_valley, .inr (6, fX7 h_t_valley_next h_t_valley_stepsToGoal h_t_valley_stepsFromEarlier)), (h_t_valley_stepsToGoal, .inl (cI, 64, .inl y5)), (h_t_now_surfaces, .inl (cI, 192, .inl t_now_surfaces)), (h_t_valley_next, .inl (cI, 64, .inl y6)), (h_t_valley_stepsFromEarlier, .inl (cI, 64, .inl y7))]) (wr := [(h_t, .inr (7, fX9 h_t_now h_t_beforeRead h_t_firstImage h_t_secondImage h_t_valley h_t_ages h_t_fronts h_t_outburst h_t_text t_firstKept t_secondKept)), (h_t_now, .inr (1, fX1 h_t_now_surfaces h_t_now_cliffs h_t_now_boulders h_t_now_scratches h_t_now_numbers h_t_now_facts h_t_now_signs h_t_now_areas h_t_now_heights t_now_ridges))]) (wo := [(h_t, .inr (7, fX9 h_t_now h_t_beforeRead h_t_firstImage h_t_secondImage h_t_valley h_t_ages h_t_fronts h_t_outburst h_t_text t_firstKept t_secondKept)), (h_t_now, .inr (1, fX1 h_t_now_surfaces h_t_now_cliffs h_t_now_boulders h_t_now_scratches h_t_now_numbers h_t_now_facts h_t_now_signs h_t_now_areas h_t_now_heights t_now_ridges)), (h_t_valley, .inr (6, fX7 h_t_valley_next h_t_valley_stepsToGoal h_t_valley_stepsFromEarlier)), (h_t_valley_stepsToGoal, .inl (cI, 64, .inl y5)), (h_t_now_surfaces, .inl (cI, 192, .inl t_now_surfaces)), (h_t_valley_next, .inl (cI, 64, .inl y6)), (h_t_valley_stepsFromEarlier, .inl (cI, 64, .inl y7))]) (v := (some (.int r4))) ⟨hx, hb, hml, hown, hts⟩ (c_X7_placesAbove l dC dI cI cZ te h_t_valley h_t_now_surfaces h_t_valley_next h_t_valley_stepsToGoal h_t_valley_stepsFromEarlier t_valley_stepsToGoal (192) t_now_surfaces t_valley_next t_valley_stepsFromEarlier p1 r4 y5 y6 y7 hg8) (cwV 2 hts gX9_upstream_X7_placesAbove rfl rfl rfl (by decide +kernel) ⟨Nat.le_of_ble_eq_true rfl, Nat.le_of_ble_eq_true rfl⟩) (kS_env te) hK hP hD hS hA hE [2, 3, 4, 5, 6] [0, 1] [0, 1, 2, 3, 4, 5, 6] rfl rfl (by decide) (by decide) (by decide) (by decide) rfl 2 6 rfl rfl rfl rfl hl.1 rfl (Nat.le_of_ble_eq_true rfl) dX9_upstream_19 ⟨Nat.zero_le _, Nat.zero_le _⟩ (fun H locs hP hD hS => ?_)
    show W p l e rmX9_upstream s m args below meth c H locs 0 0 Q (F0 m 22 ls [.int r4])
    refine lv_goto (tgt := 27) hx hb dX9_upstream_22 (by decide) ?_
    obtain ⟨rfl, rfl, rfl, rfl⟩ := inj4 hf
    subst hQ
    exact CM_iret hx hb hr rfl hlocks hAe hP hD hS dX9_upstream_27
def rmX9_scratch : Room := { frames := 2, cells := 0, slots := 0, locals := 42 }
set_option maxRecDepth 20000 in
theorem kX9_scratch_0 : ∀ w ∈ u_ws RX9 TX9 11, w ∈ wsX9_scratch := by decide +kernel
set_option maxRecDepth 20000 in
theorem kX9_scratch_1 : Cond.fieldLink RX9 10 "StoneRiver" "now" "LStoneRiver$Found;" ∈ wsX9_scratch := by decide +kernel
set_option maxRecDepth 20000 in
theorem kX9_scratch_2 : ∀ w ∈ u_ws RX1 TX1 10, w ∈ wsX9_scratch := by decide +kernel
set_option maxRecDepth 20000 in
theorem kX9_scratch_3 : Cond.fieldLink RX9 128 "StoneRiver$Found" "scratches" "LStoneRiver$Rows;" ∈ wsX9_scratch := by decide +kernel
set_option maxHeartbeats 4000000 in
set_option maxRecDepth 100000 in
theorem c_X9_scratch (l : Launch) (dC : Nat → ClassId) (dI : Nat → Nat → Nat) (cI cZ : ClassId) (te : Nat → Nat) (h_t : Nat) (h_t_now : Nat) (h_t_beforeRead : Nat) (h_t_firstImage : Nat) (h_t_secondImage : Nat) (h_t_valley : Nat) (h_t_ages : Nat) (h_t_fronts : Nat) (h_t_outburst : Nat) (h_t_text : Nat) (h_t_now_surfaces : Nat) (h_t_now_cliffs : Nat) (h_t_now_boulders : Nat) (h_t_now_scratches : Nat) (h_t_now_numbers : Nat) (h_t_now_facts : Nat) (h_t_now_signs : Nat) (h_t_now_areas : Nat) (h_t_now_heights : Nat) (h_t_now_scratches_cells : Nat) (t_firstKept : Int32) (t_secondKept : Int32) (t_now_ridges : Int32) (t_now_scratches_limit : Int32) (t_now_scratches_size : Int32) (n_t_now_scratches_cells : Nat) (t_now_scratches_cells : Nat → Int32) (p1 : Int32) (p2 : Int32) (o0 : Int32) (o1 : Int32) (o2 : Nat → Int32) (hf : f_X9_scratch t_now_scratches_limit t_now_scratches_size n_t_now_scratches_cells t_now_scratches_cells p1 p2 = some (o0, o1, o2)) : CM l yX9_scratch wsX9_scratch rmX9_scratch (kS te) dC dI cI cZ [.ref h_t, .int p1, .int p2] [(h_t, .inr (7, fX9 h_t_now h_t_beforeRead h_t_firstImage h_t_secondImage h_t_valley h_t_ages h_t_fronts h_t_outburst h_t_text t_firstKept t_secondKept)), (h_t_now, .inr (1, fX1 h_t_now_surfaces h_t_now_cliffs h_t_now_boulders h_t_now_scratches h_t_now_numbers h_t_now_facts h_t_now_signs h_t_now_areas h_t_now_heights t_now_ridges)), (h_t_now_scratches, .inr (4, fX4 t_now_scratches_limit h_t_now_scratches_cells t_now_scratches_size)), (h_t_now_scratches_cells, .inl (cI, n_t_now_scratches_cells, .inl t_now_scratches_cells))] [(h_t, .inr (7, fX9 h_t_now h_t_beforeRead h_t_firstImage h_t_secondImage h_t_valley h_t_ages h_t_fronts h_t_outburst h_t_text t_firstKept t_secondKept)), (h_t_now, .inr (1, fX1 h_t_now_surfaces h_t_now_cliffs h_t_now_boulders h_t_now_scratches h_t_now_numbers h_t_now_facts h_t_now_signs h_t_now_areas h_t_now_heights t_now_ridges)), (h_t_now_scratches, .inr (4, fX4 t_now_scratches_limit h_t_now_scratches_cells o1)), (h_t_now_scratches_cells, .inl (cI, n_t_now_scratches_cells, .inl o2))] (some (.int o0)) := by
  refine CM_of (cc := cX9_scratch) (maxL := 3) (ret := (some .int)) (by decide +kernel) rfl (Nat.le_of_ble_eq_true rfl) ?_
  intro p e s m args below meth c A Q hx hb hr hml hown hts hlocks hA hK hP hD hS hE hQ hAe ls hl
  have hown : s.vm.findClass RX9 = some m.cls := hown
  have hl : lv_has ls 3 [(0, .ref h_t), (1, .int p1), (2, .int p2)] := hl
  unfold f_X9_scratch at hf
  refine lv_iload_n hx hb dX9_scratch_0 rfl (lv_at hl 1 rfl) ?_
  obtain ⟨r1, hg2, hf⟩ := bd1_some hf
  refine CM_callS (As := [.int p1]) (rest := []) (wc := []) (w1 := []) (wr := [(h_t, .inr (7, fX9 h_t_now h_t_beforeRead h_t_firstImage h_t_secondImage h_t_valley h_t_ages h_t_fronts h_t_outburst h_t_text t_firstKept t_secondKept)), (h_t_now, .inr (1, fX1 h_t_now_surfaces h_t_now_cliffs h_t_now_boulders h_t_now_scratches h_t_now_numbers h_t_now_facts h_t_now_signs h_t_now_areas h_t_now_heights t_now_ridges)), (h_t_now_scratches, .inr (4, fX4 t_now_scratches_limit h_t_now_scratches_cells t_now_scratches_size)), (h_t_now_scratches_cells, .inl (cI, n_t_now_scratches_cells, .inl t_now_scratches_cells))]) (wo := [(h_t, .inr (7, fX9 h_t_now h_t_beforeRead h_t_firstImage h_t_secondImage h_t_valley h_t_ages h_t_fronts h_t_outburst h_t_text t_firstKept t_secondKept)), (h_t_now, .inr (1, fX1 h_t_now_surfaces h_t_now_cliffs h_t_now_boulders h_t_now_scratches h_t_now_numbers h_t_now_facts h_t_now_signs h_t_now_areas h_t_now_heights t_now_ridges)), (h_t_now_scratches, .inr (4, fX4 t_now_scratches_limit h_t_now_scratches_cells t_now_scratches_size)), (h_t_now_scratches_cells, .inl (cI, n_t_now_scratches_cells, .inl t_now_scratches_cells))]) (v := (some (.int r1))) ⟨hx, hb, hml, hown, hts⟩ (c_X9_isPlace l dC dI cI cZ te p1 r1 hg2) (va_cwS 1 hts gX9_scratch_X9_isPlace rfl rfl rfl (by decide +kernel) ⟨Nat.le_of_ble_eq_true rfl, Nat.le_of_ble_eq_true rfl⟩) (kS_env te) hK hP hD hS hA hE [] [0, 1, 2, 3] [0, 1, 2, 3] rfl rfl (by decide) (by decide) (by decide) (by decide) rfl rfl hl.1 rfl (Nat.le_of_ble_eq_true rfl) dX9_scratch_1 ⟨Nat.zero_le _, Nat.zero_le _⟩ (fun H locs hP hD hS => ?_)
  show W p l e rmX9_scratch s m args below meth c H locs 0 0 Q (F0 m 4 ls [.int r1])
  refine lv_if_eq (tgt := 17) hx hb dX9_scratch_4 (by decide) (fun c3 => ?_) (fun c3 => ?_)
  · replace hf := ifp c3 hf
    refine lv_bipush (v := (-2 : Int32)) hx hb dX9_scratch_17 (by decide) ?_
    obtain ⟨rfl, rfl, rfl⟩ := inj3 hf
    subst hQ
    exact CM_iret hx hb hr rfl hlocks hAe hP hD hS dX9_scratch_19
  · replace hf := ifn c3 hf
    refine lv_iload_n hx hb dX9_scratch_7 rfl (lv_at hl 2 rfl) ?_
    refine lv_iconst (v := (0 : Int32)) hx hb dX9_scratch_8 (by decide) ?_
    refine lv_bipush (v := (15 : Int32)) hx hb dX9_scratch_9 (by decide) ?_
    obtain ⟨r4, hg5, hf⟩ := bd1_some hf
    refine CM_callS (As := [.int p2, .int (0 : Int32), .int (15 : Int32)]) (rest := []) (wc := []) (w1 := []) (wr := [(h_t, .inr (7, fX9 h_t_now h_t_beforeRead h_t_firstImage h_t_secondImage h_t_valley h_t_ages h_t_fronts h_t_outburst h_t_text t_firstKept t_secondKept)), (h_t_now, .inr (1, fX1 h_t_now_surfaces h_t_now_cliffs h_t_now_boulders h_t_now_scratches h_t_now_numbers h_t_now_facts h_t_now_signs h_t_now_areas h_t_now_heights t_now_ridges)), (h_t_now_scratches, .inr (4, fX4 t_now_scratches_limit h_t_now_scratches_cells t_now_scratches_size)), (h_t_now_scratches_cells, .inl (cI, n_t_now_scratches_cells, .inl t_now_scratches_cells))]) (wo := [(h_t, .inr (7, fX9 h_t_now h_t_beforeRead h_t_firstImage h_t_secondImage h_t_valley h_t_ages h_t_fronts h_t_outburst h_t_text t_firstKept t_secondKept)), (h_t_now, .inr (1, fX1 h_t_now_surfaces h_t_now_cliffs h_t_now_boulders h_t_now_scratches h_t_now_numbers h_t_now_facts h_t_now_signs h_t_now_areas h_t_now_heights t_now_ridges)), (h_t_now_scratches, .inr (4, fX4 t_now_scratches_limit h_t_now_scratches_cells t_now_scratches_size)), (h_t_now_scratches_cells, .inl (cI, n_t_now_scratches_cells, .inl t_now_scratches_cells))]) (v := (some (.int r4))) ⟨hx, hb, hml, hown, hts⟩ (c_X9_within l dC dI cI cZ te p2 (0 : Int32) (15 : Int32) r4 hg5) (va_cwS 3 hts gX9_scratch_X9_within rfl rfl rfl (by decide +kernel) ⟨Nat.le_of_ble_eq_true rfl, Nat.le_of_ble_eq_true rfl⟩) (kS_env te) hK hP hD hS hA hE [] [0, 1, 2, 3] [0, 1, 2, 3] rfl rfl (by decide) (by decide) (by decide) (by decide) rfl rfl hl.1 rfl (Nat.le_of_ble_eq_true rfl) dX9_scratch_11 ⟨Nat.zero_le _, Nat.zero_le _⟩ (fun H locs hP hD hS => ?_)
    show W p l e rmX9_scratch s m args below meth c H locs 0 0 Q (F0 m 14 ls [.int r4])
    refine lv_if_ne (tgt := 20) hx hb dX9_scratch_14 (by decide) (fun c6 => ?_) (fun c6 => ?_)
    · replace hf := ifn c6 hf
      refine lv_aload_n hx hb dX9_scratch_20 rfl (lv_at hl 0 rfl) ?_
      refine va_get (D := (dC, dI)) (ci := 7) (v := .ref h_t_now) (C := RX9) (T := TX9) (N := 11) hx hb hts kX9_scratch_0 hown hK hP 0 rfl rfl 0 (by decide) (hts _ kX9_scratch_1) (fun _ h9 => h9) rfl dX9_scratch_21 ?_
      refine va_get (D := (dC, dI)) (ci := 1) (v := .ref h_t_now_scratches) (C := RX1) (T := TX1) (N := 10) hx hb hts kX9_scratch_2 hown hK hP 1 rfl rfl 3 (by decide) (hts _ kX9_scratch_3) (fun _ h9 => h9) rfl dX9_scratch_24 ?_
      refine lv_iload_n hx hb dX9_scratch_27 rfl (lv_at hl 1 rfl) ?_
      refine lv_iload_n hx hb dX9_scratch_28 rfl (lv_at hl 2 rfl) ?_
      refine lv_iconst (v := (0 : Int32)) hx hb dX9_scratch_29 (by decide) ?_
      refine lv_iconst (v := (0 : Int32)) hx hb dX9_scratch_30 (by decide) ?_
      refine lv_iconst (v := (0 : Int32)) hx hb dX9_scratch_31 (by decide) ?_
      obtain ⟨r7, x8, y9, hg10, hf⟩ := bd3_some hf
      refine CM_callV (C := RX4) (As := [.int p1, .int p2, .int (0 : Int32), .int (0 : Int32), .int (0 : Int32)]) (rest := []) (wc := [(h_t_now_scratches, .inr (4, fX4 t_now_scratches_limit h_t_now_scratches_cells t_now_scratches_size)), (h_t_now_scratches_cells, .inl (cI, n_t_now_scratches_cells, .inl t_now_scratches_cells))]) (w1 := [(h_t_now_scratches, .inr (4, fX4 t_now_scratches_limit h_t_now_scratches_cells x8)), (h_t_now_scratches_cells, .inl (cI, n_t_now_scratches_cells, .inl y9))]) (wr := [(h_t, .inr (7, fX9 h_t_now h_t_beforeRead h_t_firstImage h_t_secondImage h_t_valley h_t_ages h_t_fronts h_t_outburst h_t_text t_firstKept t_secondKept)), (h_t_now, .inr (1, fX1 h_t_now_surfaces h_t_now_cliffs h_t_now_boulders h_t_now_scratches h_t_now_numbers h_t_now_facts h_t_now_signs h_t_now_areas h_t_now_heights t_now_ridges))]) (wo := [(h_t, .inr (7, fX9 h_t_now h_t_beforeRead h_t_firstImage h_t_secondImage h_t_valley h_t_ages h_t_fronts h_t_outburst h_t_text t_firstKept t_secondKept)), (h_t_now, .inr (1, fX1 h_t_now_surfaces h_t_now_cliffs h_t_now_boulders h_t_now_scratches h_t_now_numbers h_t_now_facts h_t_now_signs h_t_now_areas h_t_now_heights t_now_ridges)), (h_t_now_scratches, .inr (4, fX4 t_now_scratches_limit h_t_now_scratches_cells x8)), (h_t_now_scratches_cells, .inl (cI, n_t_now_scratches_cells, .inl y9))]) (v := (some (.int r7))) ⟨hx, hb, hml, hown, hts⟩ (c_X4_add l dC dI cI cZ te h_t_now_scratches h_t_now_scratches_cells t_now_scratches_limit t_now_scratches_size n_t_now_scratches_cells t_now_scratches_cells p1 p2 (0 : Int32) (0 : Int32) (0 : Int32) r7 x8 y9 hg10) (cwV 5 hts gX9_scratch_X4_add rfl rfl rfl (by decide +kernel) ⟨Nat.le_of_ble_eq_true rfl, Nat.le_of_ble_eq_true rfl⟩) (kS_env te) hK hP hD hS hA hE [2, 3] [0, 1] [0, 1, 2, 3] rfl rfl (by decide) (by decide) (by decide) (by decide) rfl 2 4 rfl rfl rfl rfl hl.1 rfl (Nat.le_of_ble_eq_true rfl) dX9_scratch_32 ⟨Nat.zero_le _, Nat.zero_le _⟩ (fun H locs hP hD hS => ?_)
      show W p l e rmX9_scratch s m args below meth c H locs 0 0 Q (F0 m 35 ls [.int r7])
      obtain ⟨rfl, rfl, rfl⟩ := inj3 hf
      subst hQ
      exact CM_iret hx hb hr rfl hlocks hAe hP hD hS dX9_scratch_35
    · replace hf := ifp c6 hf
      refine lv_bipush (v := (-2 : Int32)) hx hb dX9_scratch_17 (by decide) ?_
      obtain ⟨rfl, rfl, rfl⟩ := inj3 hf
      subst hQ
      exact CM_iret hx hb hr rfl hlocks hAe hP hD hS dX9_scratch_19
def rmX9_put : Room := { frames := 1, cells := 0, slots := 0, locals := 23 }
set_option maxRecDepth 20000 in
theorem kX9_put_0 : ∀ w ∈ u_ws RX9 TX9 11, w ∈ wsX9_put := by decide +kernel
set_option maxRecDepth 20000 in
theorem kX9_put_1 : Cond.fieldLink RX9 10 "StoneRiver" "now" "LStoneRiver$Found;" ∈ wsX9_put := by decide +kernel
set_option maxRecDepth 20000 in
theorem kX9_put_2 : ∀ w ∈ u_ws RX1 TX1 10, w ∈ wsX9_put := by decide +kernel
set_option maxRecDepth 20000 in
theorem kX9_put_3 : Cond.fieldLink RX9 134 "StoneRiver$Found" "numbers" "[I" ∈ wsX9_put := by decide +kernel
set_option maxHeartbeats 4000000 in
set_option maxRecDepth 100000 in
theorem c_X9_put (l : Launch) (dC : Nat → ClassId) (dI : Nat → Nat → Nat) (cI cZ : ClassId) (te : Nat → Nat) (h_t : Nat) (h_t_now : Nat) (h_t_beforeRead : Nat) (h_t_firstImage : Nat) (h_t_secondImage : Nat) (h_t_valley : Nat) (h_t_ages : Nat) (h_t_fronts : Nat) (h_t_outburst : Nat) (h_t_text : Nat) (h_t_now_surfaces : Nat) (h_t_now_cliffs : Nat) (h_t_now_boulders : Nat) (h_t_now_scratches : Nat) (h_t_now_numbers : Nat) (h_t_now_facts : Nat) (h_t_now_signs : Nat) (h_t_now_areas : Nat) (h_t_now_heights : Nat) (t_firstKept : Int32) (t_secondKept : Int32) (t_now_ridges : Int32) (t_now_numbers : Nat → Int32) (p1 : Int32) (p2 : Int32) (o0 : Int32) (o1 : Nat → Int32) (hf : f_X9_put t_now_numbers p1 p2 = some (o0, o1)) : CM l yX9_put wsX9_put rmX9_put (kS te) dC dI cI cZ [.ref h_t, .int p1, .int p2] [(h_t, .inr (7, fX9 h_t_now h_t_beforeRead h_t_firstImage h_t_secondImage h_t_valley h_t_ages h_t_fronts h_t_outburst h_t_text t_firstKept t_secondKept)), (h_t_now, .inr (1, fX1 h_t_now_surfaces h_t_now_cliffs h_t_now_boulders h_t_now_scratches h_t_now_numbers h_t_now_facts h_t_now_signs h_t_now_areas h_t_now_heights t_now_ridges)), (h_t_now_numbers, .inl (cI, 6, .inl t_now_numbers))] [(h_t, .inr (7, fX9 h_t_now h_t_beforeRead h_t_firstImage h_t_secondImage h_t_valley h_t_ages h_t_fronts h_t_outburst h_t_text t_firstKept t_secondKept)), (h_t_now, .inr (1, fX1 h_t_now_surfaces h_t_now_cliffs h_t_now_boulders h_t_now_scratches h_t_now_numbers h_t_now_facts h_t_now_signs h_t_now_areas h_t_now_heights t_now_ridges)), (h_t_now_numbers, .inl (cI, 6, .inl o1))] (some (.int o0)) := by
  refine CM_of (cc := cX9_put) (maxL := 3) (ret := (some .int)) (by decide +kernel) rfl (Nat.le_of_ble_eq_true rfl) ?_
  intro p e s m args below meth c A Q hx hb hr hml hown hts hlocks hA hK hP hD hS hE hQ hAe ls hl
  have hown : s.vm.findClass RX9 = some m.cls := hown
  have hl : lv_has ls 3 [(0, .ref h_t), (1, .int p1), (2, .int p2)] := hl
  unfold f_X9_put at hf
  refine lv_aload_n hx hb dX9_put_0 rfl (lv_at hl 0 rfl) ?_
  refine va_get (D := (dC, dI)) (ci := 7) (v := .ref h_t_now) (C := RX9) (T := TX9) (N := 11) hx hb hts kX9_put_0 hown hK hP 0 rfl rfl 0 (by decide) (hts _ kX9_put_1) (fun _ h9 => h9) rfl dX9_put_1 ?_
  refine lv_iload_n hx hb dX9_put_4 rfl (lv_at hl 1 rfl) ?_
  refine lv_iload_n hx hb dX9_put_5 rfl (lv_at hl 2 rfl) ?_
  obtain ⟨r1, hg2, hf⟩ := bd1_some hf
  refine CM_callV (C := RX1) (As := [.int p1, .int p2]) (rest := []) (wc := [(h_t_now, .inr (1, fX1 h_t_now_surfaces h_t_now_cliffs h_t_now_boulders h_t_now_scratches h_t_now_numbers h_t_now_facts h_t_now_signs h_t_now_areas h_t_now_heights t_now_ridges)), (h_t_now_numbers, .inl (cI, 6, .inl t_now_numbers))]) (w1 := [(h_t_now, .inr (1, fX1 h_t_now_surfaces h_t_now_cliffs h_t_now_boulders h_t_now_scratches h_t_now_numbers h_t_now_facts h_t_now_signs h_t_now_areas h_t_now_heights t_now_ridges)), (h_t_now_numbers, .inl (cI, 6, .inl t_now_numbers))]) (wr := [(h_t, .inr (7, fX9 h_t_now h_t_beforeRead h_t_firstImage h_t_secondImage h_t_valley h_t_ages h_t_fronts h_t_outburst h_t_text t_firstKept t_secondKept))]) (wo := [(h_t, .inr (7, fX9 h_t_now h_t_beforeRead h_t_firstImage h_t_secondImage h_t_valley h_t_ages h_t_fronts h_t_outburst h_t_text t_firstKept t_secondKept)), (h_t_now, .inr (1, fX1 h_t_now_surfaces h_t_now_cliffs h_t_now_boulders h_t_now_scratches h_t_now_numbers h_t_now_facts h_t_now_signs h_t_now_areas h_t_now_heights t_now_ridges)), (h_t_now_numbers, .inl (cI, 6, .inl t_now_numbers))]) (v := (some (.int r1))) ⟨hx, hb, hml, hown, hts⟩ (c_X1_mayPut l dC dI cI cZ te h_t_now h_t_now_surfaces h_t_now_cliffs h_t_now_boulders h_t_now_scratches h_t_now_numbers h_t_now_facts h_t_now_signs h_t_now_areas h_t_now_heights t_now_ridges t_now_numbers p1 p2 r1 hg2) (cwV 2 hts gX9_put_X1_mayPut rfl rfl rfl (by decide +kernel) ⟨Nat.le_of_ble_eq_true rfl, Nat.le_of_ble_eq_true rfl⟩) (kS_env te) hK hP hD hS hA hE [1, 2] [0] [0, 1, 2] rfl rfl (by decide) (by decide) (by decide) (by decide) rfl 1 1 rfl rfl rfl rfl hl.1 rfl (Nat.le_of_ble_eq_true rfl) dX9_put_6 ⟨Nat.zero_le _, Nat.zero_le _⟩ (fun H locs hP hD hS => ?_)
  show W p l e rmX9_put s m args below meth c H locs 0 0 Q (F0 m 9 ls [.int r1])
  refine lv_if_eq (tgt := 27) hx hb dX9_put_9 (by decide) (fun c3 => ?_) (fun c3 => ?_)
  · replace hf := ifp c3 hf
    refine lv_bipush (v := (-2 : Int32)) hx hb dX9_put_27 (by decide) ?_
    obtain ⟨rfl, rfl⟩ := inj2 hf
    subst hQ
    exact CM_iret hx hb hr rfl hlocks hAe hP hD hS dX9_put_29
  · replace hf := ifn c3 hf
    refine lv_aload_n hx hb dX9_put_12 rfl (lv_at hl 0 rfl) ?_
    refine va_get (D := (dC, dI)) (ci := 7) (v := .ref h_t_now) (C := RX9) (T := TX9) (N := 11) hx hb hts kX9_put_0 hown hK hP 0 rfl rfl 0 (by decide) (hts _ kX9_put_1) (fun _ h9 => h9) rfl dX9_put_13 ?_
    refine va_get (D := (dC, dI)) (ci := 1) (v := .ref h_t_now_numbers) (C := RX1) (T := TX1) (N := 10) hx hb hts kX9_put_2 hown hK hP 1 rfl rfl 4 (by decide) (hts _ kX9_put_3) (fun _ h9 => h9) rfl dX9_put_16 ?_
    refine lv_iload_n hx hb dX9_put_19 rfl (lv_at hl 1 rfl) ?_
    refine lv_iload_n hx hb dX9_put_20 rfl (lv_at hl 2 rfl) ?_
    obtain ⟨r4, y5, hg6, hf⟩ := bd2_some hf
    refine CM_callS (As := [.ref h_t_now_numbers, .int p1, .int p2]) (rest := []) (wc := [(h_t_now_numbers, .inl (cI, 6, .inl t_now_numbers))]) (w1 := [(h_t_now_numbers, .inl (cI, 6, .inl y5))]) (wr := [(h_t, .inr (7, fX9 h_t_now h_t_beforeRead h_t_firstImage h_t_secondImage h_t_valley h_t_ages h_t_fronts h_t_outburst h_t_text t_firstKept t_secondKept)), (h_t_now, .inr (1, fX1 h_t_now_surfaces h_t_now_cliffs h_t_now_boulders h_t_now_scratches h_t_now_numbers h_t_now_facts h_t_now_signs h_t_now_areas h_t_now_heights t_now_ridges))]) (wo := [(h_t, .inr (7, fX9 h_t_now h_t_beforeRead h_t_firstImage h_t_secondImage h_t_valley h_t_ages h_t_fronts h_t_outburst h_t_text t_firstKept t_secondKept)), (h_t_now, .inr (1, fX1 h_t_now_surfaces h_t_now_cliffs h_t_now_boulders h_t_now_scratches h_t_now_numbers h_t_now_facts h_t_now_signs h_t_now_areas h_t_now_heights t_now_ridges)), (h_t_now_numbers, .inl (cI, 6, .inl y5))]) (v := (some (.int r4))) ⟨hx, hb, hml, hown, hts⟩ (c_X9_exchange l dC dI cI cZ te h_t_now_numbers (6) t_now_numbers p1 p2 r4 y5 hg6) (va_cwS 3 hts gX9_put_X9_exchange rfl rfl rfl (by decide +kernel) ⟨Nat.le_of_ble_eq_true rfl, Nat.le_of_ble_eq_true rfl⟩) (kS_env te) hK hP hD hS hA hE [2] [0, 1] [0, 1, 2] rfl rfl (by decide) (by decide) (by decide) (by decide) rfl rfl hl.1 rfl (Nat.le_of_ble_eq_true rfl) dX9_put_21 ⟨Nat.zero_le _, Nat.zero_le _⟩ (fun H locs hP hD hS => ?_)
    show W p l e rmX9_put s m args below meth c H locs 0 0 Q (F0 m 24 ls [.int r4])
    refine lv_goto (tgt := 29) hx hb dX9_put_24 (by decide) ?_
    obtain ⟨rfl, rfl⟩ := inj2 hf
    subst hQ
    exact CM_iret hx hb hr rfl hlocks hAe hP hD hS dX9_put_29
def rmX9_may : Room := { frames := 3, cells := 0, slots := 0, locals := 76 }
set_option maxRecDepth 20000 in
theorem kX9_may_0 : ∀ w ∈ u_ws RX9 TX9 11, w ∈ wsX9_may := by decide +kernel
set_option maxRecDepth 20000 in
theorem kX9_may_1 : Cond.fieldLink RX9 10 "StoneRiver" "now" "LStoneRiver$Found;" ∈ wsX9_may := by decide +kernel
set_option maxRecDepth 20000 in
theorem kX9_may_2 : ∀ w ∈ u_ws RX1 TX1 10, w ∈ wsX9_may := by decide +kernel
set_option maxRecDepth 20000 in
theorem kX9_may_3 : Cond.fieldLink RX9 128 "StoneRiver$Found" "scratches" "LStoneRiver$Rows;" ∈ wsX9_may := by decide +kernel
set_option maxHeartbeats 4000000 in
set_option maxRecDepth 100000 in
theorem c_X9_may (l : Launch) (dC : Nat → ClassId) (dI : Nat → Nat → Nat) (cI cZ : ClassId) (te : Nat → Nat) (h_t : Nat) (h_t_now : Nat) (h_t_beforeRead : Nat) (h_t_firstImage : Nat) (h_t_secondImage : Nat) (h_t_valley : Nat) (h_t_ages : Nat) (h_t_fronts : Nat) (h_t_outburst : Nat) (h_t_text : Nat) (h_t_now_surfaces : Nat) (h_t_now_cliffs : Nat) (h_t_now_boulders : Nat) (h_t_now_scratches : Nat) (h_t_now_numbers : Nat) (h_t_now_facts : Nat) (h_t_now_signs : Nat) (h_t_now_areas : Nat) (h_t_now_heights : Nat) (h_t_now_scratches_cells : Nat) (t_firstKept : Int32) (t_secondKept : Int32) (t_now_ridges : Int32) (t_now_scratches_limit : Int32) (t_now_scratches_size : Int32) (n_t_now_scratches_cells : Nat) (t_now_scratches_cells : Nat → Int32) (t_now_surfaces : Nat → Int32) (t_now_numbers : Nat → Int32) (p1 : Int32) (o0 : Int32) (hf : f_X9_may t_now_scratches_size n_t_now_scratches_cells t_now_scratches_cells t_now_surfaces t_now_numbers p1 = some o0) : CM l yX9_may wsX9_may rmX9_may (kS te) dC dI cI cZ [.ref h_t, .int p1] [(h_t, .inr (7, fX9 h_t_now h_t_beforeRead h_t_firstImage h_t_secondImage h_t_valley h_t_ages h_t_fronts h_t_outburst h_t_text t_firstKept t_secondKept)), (h_t_now, .inr (1, fX1 h_t_now_surfaces h_t_now_cliffs h_t_now_boulders h_t_now_scratches h_t_now_numbers h_t_now_facts h_t_now_signs h_t_now_areas h_t_now_heights t_now_ridges)), (h_t_now_scratches, .inr (4, fX4 t_now_scratches_limit h_t_now_scratches_cells t_now_scratches_size)), (h_t_now_scratches_cells, .inl (cI, n_t_now_scratches_cells, .inl t_now_scratches_cells)), (h_t_now_surfaces, .inl (cI, 192, .inl t_now_surfaces)), (h_t_now_numbers, .inl (cI, 6, .inl t_now_numbers))] [(h_t, .inr (7, fX9 h_t_now h_t_beforeRead h_t_firstImage h_t_secondImage h_t_valley h_t_ages h_t_fronts h_t_outburst h_t_text t_firstKept t_secondKept)), (h_t_now, .inr (1, fX1 h_t_now_surfaces h_t_now_cliffs h_t_now_boulders h_t_now_scratches h_t_now_numbers h_t_now_facts h_t_now_signs h_t_now_areas h_t_now_heights t_now_ridges)), (h_t_now_scratches, .inr (4, fX4 t_now_scratches_limit h_t_now_scratches_cells t_now_scratches_size)), (h_t_now_scratches_cells, .inl (cI, n_t_now_scratches_cells, .inl t_now_scratches_cells)), (h_t_now_surfaces, .inl (cI, 192, .inl t_now_surfaces)), (h_t_now_numbers, .inl (cI, 6, .inl t_now_numbers))] (some (.int o0)) := by
  refine CM_of (cc := cX9_may) (maxL := 2) (ret := (some .int)) (by decide +kernel) rfl (Nat.le_of_ble_eq_true rfl) ?_
  intro p e s m args below meth c A Q hx hb hr hml hown hts hlocks hA hK hP hD hS hE hQ hAe ls hl
  have hown : s.vm.findClass RX9 = some m.cls := hown
  have hl : lv_has ls 2 [(0, .ref h_t), (1, .int p1)] := hl
  unfold f_X9_may at hf
  refine lv_aload_n hx hb dX9_may_0 rfl (lv_at hl 0 rfl) ?_
  refine va_get (D := (dC, dI)) (ci := 7) (v := .ref h_t_now) (C := RX9) (T := TX9) (N := 11) hx hb hts kX9_may_0 hown hK hP 0 rfl rfl 0 (by decide) (hts _ kX9_may_1) (fun _ h9 => h9) rfl dX9_may_1 ?_
  refine va_get (D := (dC, dI)) (ci := 1) (v := .ref h_t_now_scratches) (C := RX1) (T := TX1) (N := 10) hx hb hts kX9_may_2 hown hK hP 1 rfl rfl 3 (by decide) (hts _ kX9_may_3) (fun _ h9 => h9) rfl dX9_may_4 ?_
  refine lv_iload_n hx hb dX9_may_7 rfl (lv_at hl 1 rfl) ?_
  obtain ⟨r1, hg2, hf⟩ := bd1_some hf
  refine CM_callV (C := RX4) (As := [.int p1]) (rest := []) (wc := [(h_t_now_scratches, .inr (4, fX4 t_now_scratches_limit h_t_now_scratches_cells t_now_scratches_size))]) (w1 := [(h_t_now_scratches, .inr (4, fX4 t_now_scratches_limit h_t_now_scratches_cells t_now_scratches_size))]) (wr := [(h_t, .inr (7, fX9 h_t_now h_t_beforeRead h_t_firstImage h_t_secondImage h_t_valley h_t_ages h_t_fronts h_t_outburst h_t_text t_firstKept t_secondKept)), (h_t_now, .inr (1, fX1 h_t_now_surfaces h_t_now_cliffs h_t_now_boulders h_t_now_scratches h_t_now_numbers h_t_now_facts h_t_now_signs h_t_now_areas h_t_now_heights t_now_ridges)), (h_t_now_scratches_cells, .inl (cI, n_t_now_scratches_cells, .inl t_now_scratches_cells)), (h_t_now_surfaces, .inl (cI, 192, .inl t_now_surfaces)), (h_t_now_numbers, .inl (cI, 6, .inl t_now_numbers))]) (wo := [(h_t, .inr (7, fX9 h_t_now h_t_beforeRead h_t_firstImage h_t_secondImage h_t_valley h_t_ages h_t_fronts h_t_outburst h_t_text t_firstKept t_secondKept)), (h_t_now, .inr (1, fX1 h_t_now_surfaces h_t_now_cliffs h_t_now_boulders h_t_now_scratches h_t_now_numbers h_t_now_facts h_t_now_signs h_t_now_areas h_t_now_heights t_now_ridges)), (h_t_now_scratches, .inr (4, fX4 t_now_scratches_limit h_t_now_scratches_cells t_now_scratches_size)), (h_t_now_scratches_cells, .inl (cI, n_t_now_scratches_cells, .inl t_now_scratches_cells)), (h_t_now_surfaces, .inl (cI, 192, .inl t_now_surfaces)), (h_t_now_numbers, .inl (cI, 6, .inl t_now_numbers))]) (v := (some (.int r1))) ⟨hx, hb, hml, hown, hts⟩ (c_X4_has l dC dI cI cZ te h_t_now_scratches h_t_now_scratches_cells t_now_scratches_limit t_now_scratches_size p1 r1 hg2) (cwV 1 hts gX9_may_X4_has rfl rfl rfl (by decide +kernel) ⟨Nat.le_of_ble_eq_true rfl, Nat.le_of_ble_eq_true rfl⟩) (kS_env te) hK hP hD hS hA hE [2] [0, 1, 3, 4, 5] [0, 1, 5, 2, 3, 4] rfl rfl (by decide) (by decide) (by decide) (by decide) rfl 2 4 rfl rfl rfl rfl hl.1 rfl (Nat.le_of_ble_eq_true rfl) dX9_may_8 ⟨Nat.zero_le _, Nat.zero_le _⟩ (fun H locs hP hD hS => ?_)
  show W p l e rmX9_may s m args below meth c H locs 0 0 Q (F0 m 11 ls [.int r1])
  refine lv_if_eq (tgt := 25) hx hb dX9_may_11 (by decide) (fun c3 => ?_) (fun c3 => ?_)
  · replace hf := ifp c3 hf
    refine lv_bipush (v := (-2 : Int32)) hx hb dX9_may_25 (by decide) ?_
    obtain rfl := inj1 hf
    subst hQ
    exact CM_iret hx hb hr rfl hlocks hAe hP hD hS dX9_may_27
  · replace hf := ifn c3 hf
    refine lv_aload_n hx hb dX9_may_14 rfl (lv_at hl 0 rfl) ?_
    refine va_get (D := (dC, dI)) (ci := 7) (v := .ref h_t_now) (C := RX9) (T := TX9) (N := 11) hx hb hts kX9_may_0 hown hK hP 0 rfl rfl 0 (by decide) (hts _ kX9_may_1) (fun _ h9 => h9) rfl dX9_may_15 ?_
    refine lv_iload_n hx hb dX9_may_18 rfl (lv_at hl 1 rfl) ?_
    obtain ⟨r4, hg5, hf⟩ := bd1_some hf
    refine CM_callS (As := [.ref h_t_now, .int p1]) (rest := []) (wc := [(h_t_now, .inr (1, fX1 h_t_now_surfaces h_t_now_cliffs h_t_now_boulders h_t_now_scratches h_t_now_numbers h_t_now_facts h_t_now_signs h_t_now_areas h_t_now_heights t_now_ridges)), (h_t_now_scratches, .inr (4, fX4 t_now_scratches_limit h_t_now_scratches_cells t_now_scratches_size)), (h_t_now_scratches_cells, .inl (cI, n_t_now_scratches_cells, .inl t_now_scratches_cells)), (h_t_now_surfaces, .inl (cI, 192, .inl t_now_surfaces)), (h_t_now_numbers, .inl (cI, 6, .inl t_now_numbers))]) (w1 := [(h_t_now, .inr (1, fX1 h_t_now_surfaces h_t_now_cliffs h_t_now_boulders h_t_now_scratches h_t_now_numbers h_t_now_facts h_t_now_signs h_t_now_areas h_t_now_heights t_now_ridges)), (h_t_now_scratches, .inr (4, fX4 t_now_scratches_limit h_t_now_scratches_cells t_now_scratches_size)), (h_t_now_scratches_cells, .inl (cI, n_t_now_scratches_cells, .inl t_now_scratches_cells)), (h_t_now_surfaces, .inl (cI, 192, .inl t_now_surfaces)), (h_t_now_numbers, .inl (cI, 6, .inl t_now_numbers))]) (wr := [(h_t, .inr (7, fX9 h_t_now h_t_beforeRead h_t_firstImage h_t_secondImage h_t_valley h_t_ages h_t_fronts h_t_outburst h_t_text t_firstKept t_secondKept))]) (wo := [(h_t, .inr (7, fX9 h_t_now h_t_beforeRead h_t_firstImage h_t_secondImage h_t_valley h_t_ages h_t_fronts h_t_outburst h_t_text t_firstKept t_secondKept)), (h_t_now, .inr (1, fX1 h_t_now_surfaces h_t_now_cliffs h_t_now_boulders h_t_now_scratches h_t_now_numbers h_t_now_facts h_t_now_signs h_t_now_areas h_t_now_heights t_now_ridges)), (h_t_now_scratches, .inr (4, fX4 t_now_scratches_limit h_t_now_scratches_cells t_now_scratches_size)), (h_t_now_scratches_cells, .inl (cI, n_t_now_scratches_cells, .inl t_now_scratches_cells)), (h_t_now_surfaces, .inl (cI, 192, .inl t_now_surfaces)), (h_t_now_numbers, .inl (cI, 6, .inl t_now_numbers))]) (v := (some (.int r4))) ⟨hx, hb, hml, hown, hts⟩ (c_X5_stagesOf l dC dI cI cZ te h_t_now h_t_now_surfaces h_t_now_cliffs h_t_now_boulders h_t_now_scratches h_t_now_numbers h_t_now_facts h_t_now_signs h_t_now_areas h_t_now_heights h_t_now_scratches_cells t_now_ridges t_now_scratches_limit t_now_scratches_size n_t_now_scratches_cells t_now_scratches_cells t_now_surfaces t_now_numbers p1 r4 hg5) (va_cwS 2 hts gX9_may_X5_stagesOf rfl rfl rfl (by decide +kernel) ⟨Nat.le_of_ble_eq_true rfl, Nat.le_of_ble_eq_true rfl⟩) (kS_env te) hK hP hD hS hA hE [1, 2, 3, 4, 5] [0] [0, 1, 2, 3, 4, 5] rfl rfl (by decide) (by decide) (by decide) (by decide) rfl rfl hl.1 rfl (Nat.le_of_ble_eq_true rfl) dX9_may_19 ⟨Nat.zero_le _, Nat.zero_le _⟩ (fun H locs hP hD hS => ?_)
    show W p l e rmX9_may s m args below meth c H locs 0 0 Q (F0 m 22 ls [.int r4])
    refine lv_goto (tgt := 27) hx hb dX9_may_22 (by decide) ?_
    obtain rfl := inj1 hf
    subst hQ
    exact CM_iret hx hb hr rfl hlocks hAe hP hD hS dX9_may_27
