def rmX5_isFirstAtItsPlace : Room := { frames := 3, cells := 0, slots := 0, locals := 65 }
set_option maxHeartbeats 4000000 in
set_option maxRecDepth 100000 in
theorem c_X5_isFirstAtItsPlace (l : Launch) (dC : Nat → ClassId) (dI : Nat → Nat → Nat) (cI cZ : ClassId) (te : Nat → Nat) (h_p1 : Nat) (h_p1_surfaces : Nat) (h_p1_cliffs : Nat) (h_p1_boulders : Nat) (h_p1_scratches : Nat) (h_p1_numbers : Nat) (h_p1_facts : Nat) (h_p1_signs : Nat) (h_p1_areas : Nat) (h_p1_heights : Nat) (h_p1_scratches_cells : Nat) (p1_ridges : Int32) (p1_scratches_limit : Int32) (p1_scratches_size : Int32) (n_p1_scratches_cells : Nat) (p1_scratches_cells : Nat → Int32) (p2 : Int32) (o0 : Int32) (hf : f_X5_isFirstAtItsPlace p1_scratches_size n_p1_scratches_cells p1_scratches_cells p2 = some o0) : CM l yX5_isFirstAtItsPlace wsX5_isFirstAtItsPlace rmX5_isFirstAtItsPlace (kS te) dC dI cI cZ [.ref h_p1, .int p2] [(h_p1, .inr (1, fX1 h_p1_surfaces h_p1_cliffs h_p1_boulders h_p1_scratches h_p1_numbers h_p1_facts h_p1_signs h_p1_areas h_p1_heights p1_ridges)), (h_p1_scratches, .inr (4, fX4 p1_scratches_limit h_p1_scratches_cells p1_scratches_size)), (h_p1_scratches_cells, .inl (cI, n_p1_scratches_cells, .inl p1_scratches_cells))] [(h_p1, .inr (1, fX1 h_p1_surfaces h_p1_cliffs h_p1_boulders h_p1_scratches h_p1_numbers h_p1_facts h_p1_signs h_p1_areas h_p1_heights p1_ridges)), (h_p1_scratches, .inr (4, fX4 p1_scratches_limit h_p1_scratches_cells p1_scratches_size)), (h_p1_scratches_cells, .inl (cI, n_p1_scratches_cells, .inl p1_scratches_cells))] (some (.int o0)) := by
  refine CM_of (cc := cX5_isFirstAtItsPlace) (maxL := 3) (ret := (some .boolean)) (by decide +kernel) rfl (Nat.le_of_ble_eq_true rfl) ?_
  intro p e s m args below meth c A Q hx hb hr hml hown hts hlocks hA hK hP hD hS hE hQ hAe ls hl
  have hown : s.vm.findClass RX5 = some m.cls := hown
  have hl : lv_has ls 3 [(0, .ref h_p1), (1, .int p2)] := hl
  unfold f_X5_isFirstAtItsPlace at hf
  refine lv_iconst (v := (0 : Int32)) hx hb dX5_isFirstAtItsPlace_0 (by decide) ?_
  refine lv_istore_n (lv' := [(2, .int (0 : Int32)), (0, .ref h_p1), (1, .int p2)]) hx hb dX5_isFirstAtItsPlace_1 rfl hl (by decide) rfl (fun ls hl => ?_)
  have L16 : ∀ (fu9 : Nat) (x7 : Int32) (q6 : Nat), f_X5_isFirstAtItsPlace_L1 p2 p1_scratches_size n_p1_scratches_cells p1_scratches_cells fu9 x7 = some q6 → (q6 = 0 → ∀ (H : Heap) (locs : List Loc), va_P (dC, dI) vwCl [(h_p1, .inr (1, fX1 h_p1_surfaces h_p1_cliffs h_p1_boulders h_p1_scratches h_p1_numbers h_p1_facts h_p1_signs h_p1_areas h_p1_heights p1_ridges)), (h_p1_scratches, .inr (4, fX4 p1_scratches_limit h_p1_scratches_cells p1_scratches_size)), (h_p1_scratches_cells, .inl (cI, n_p1_scratches_cells, .inl p1_scratches_cells))] H → va_D A [(h_p1, .inr (1, fX1 h_p1_surfaces h_p1_cliffs h_p1_boulders h_p1_scratches h_p1_numbers h_p1_facts h_p1_signs h_p1_areas h_p1_heights p1_ridges)), (h_p1_scratches, .inr (4, fX4 p1_scratches_limit h_p1_scratches_cells p1_scratches_size)), (h_p1_scratches_cells, .inl (cI, n_p1_scratches_cells, .inl p1_scratches_cells))] → va_S A s.heap H locs → ∀ ls : Array Slot, lv_has ls 3 [] → W p l e rmX5_isFirstAtItsPlace s m args below meth c H locs 0 0 Q (F0 m 16 ls [])) → (q6 = 1 → ∀ (H : Heap) (locs : List Loc), va_P (dC, dI) vwCl [(h_p1, .inr (1, fX1 h_p1_surfaces h_p1_cliffs h_p1_boulders h_p1_scratches h_p1_numbers h_p1_facts h_p1_signs h_p1_areas h_p1_heights p1_ridges)), (h_p1_scratches, .inr (4, fX4 p1_scratches_limit h_p1_scratches_cells p1_scratches_size)), (h_p1_scratches_cells, .inl (cI, n_p1_scratches_cells, .inl p1_scratches_cells))] H → va_D A [(h_p1, .inr (1, fX1 h_p1_surfaces h_p1_cliffs h_p1_boulders h_p1_scratches h_p1_numbers h_p1_facts h_p1_signs h_p1_areas h_p1_heights p1_ridges)), (h_p1_scratches, .inr (4, fX4 p1_scratches_limit h_p1_scratches_cells p1_scratches_size)), (h_p1_scratches_cells, .inl (cI, n_p1_scratches_cells, .inl p1_scratches_cells))] → va_S A s.heap H locs → ∀ ls : Array Slot, lv_has ls 3 [] → W p l e rmX5_isFirstAtItsPlace s m args below meth c H locs 0 0 Q (F0 m 24 ls [])) → ∀ (H : Heap) (locs : List Loc), va_P (dC, dI) vwCl [(h_p1, .inr (1, fX1 h_p1_surfaces h_p1_cliffs h_p1_boulders h_p1_scratches h_p1_numbers h_p1_facts h_p1_signs h_p1_areas h_p1_heights p1_ridges)), (h_p1_scratches, .inr (4, fX4 p1_scratches_limit h_p1_scratches_cells p1_scratches_size)), (h_p1_scratches_cells, .inl (cI, n_p1_scratches_cells, .inl p1_scratches_cells))] H → va_D A [(h_p1, .inr (1, fX1 h_p1_surfaces h_p1_cliffs h_p1_boulders h_p1_scratches h_p1_numbers h_p1_facts h_p1_signs h_p1_areas h_p1_heights p1_ridges)), (h_p1_scratches, .inr (4, fX4 p1_scratches_limit h_p1_scratches_cells p1_scratches_size)), (h_p1_scratches_cells, .inl (cI, n_p1_scratches_cells, .inl p1_scratches_cells))] → va_S A s.heap H locs → ∀ ls : Array Slot, lv_has ls 3 [(0, .ref h_p1), (1, .int p2), (2, .int x7)] → W p l e rmX5_isFirstAtItsPlace s m args below meth c H locs 0 0 Q (F0 m 2 ls []) := by
    intro fu9
    induction fu9 with
    | zero =>
      intro x7 q6 hf
      unfold f_X5_isFirstAtItsPlace_L1 at hf
      exact none_ne hf
    | succ fu9 ih8 =>
      intro x7 q6 hf hX10 hX11 H locs hP hD hS ls hl
      unfold f_X5_isFirstAtItsPlace_L1 at hf
      refine lv_iload_n hx hb dX5_isFirstAtItsPlace_2 rfl (lv_at hl 2 rfl) ?_
      refine lv_iload_n hx hb dX5_isFirstAtItsPlace_3 rfl (lv_at hl 1 rfl) ?_
      refine lv_icmp_ge (tgt := 24) hx hb dX5_isFirstAtItsPlace_4 (by decide) (fun c12 => ?_) (fun c12 => ?_)
      · replace hf := ifp c12 hf
        obtain rfl := inj1 hf
        exact hX11 rfl _ _ hP hD hS _ (lv_sub hl [] rfl)
      · replace hf := ifn c12 hf
        refine lv_aload_n hx hb dX5_isFirstAtItsPlace_7 rfl (lv_at hl 0 rfl) ?_
        refine lv_iload_n hx hb dX5_isFirstAtItsPlace_8 rfl (lv_at hl 2 rfl) ?_
        refine lv_iload_n hx hb dX5_isFirstAtItsPlace_9 rfl (lv_at hl 1 rfl) ?_
        obtain ⟨r13, hg14, hf⟩ := bd1_some hf
        refine CM_callS (As := [.ref h_p1, .int x7, .int p2]) (rest := []) (wc := [(h_p1, .inr (1, fX1 h_p1_surfaces h_p1_cliffs h_p1_boulders h_p1_scratches h_p1_numbers h_p1_facts h_p1_signs h_p1_areas h_p1_heights p1_ridges)), (h_p1_scratches, .inr (4, fX4 p1_scratches_limit h_p1_scratches_cells p1_scratches_size)), (h_p1_scratches_cells, .inl (cI, n_p1_scratches_cells, .inl p1_scratches_cells))]) (w1 := [(h_p1, .inr (1, fX1 h_p1_surfaces h_p1_cliffs h_p1_boulders h_p1_scratches h_p1_numbers h_p1_facts h_p1_signs h_p1_areas h_p1_heights p1_ridges)), (h_p1_scratches, .inr (4, fX4 p1_scratches_limit h_p1_scratches_cells p1_scratches_size)), (h_p1_scratches_cells, .inl (cI, n_p1_scratches_cells, .inl p1_scratches_cells))]) (wr := []) (wo := [(h_p1, .inr (1, fX1 h_p1_surfaces h_p1_cliffs h_p1_boulders h_p1_scratches h_p1_numbers h_p1_facts h_p1_signs h_p1_areas h_p1_heights p1_ridges)), (h_p1_scratches, .inr (4, fX4 p1_scratches_limit h_p1_scratches_cells p1_scratches_size)), (h_p1_scratches_cells, .inl (cI, n_p1_scratches_cells, .inl p1_scratches_cells))]) (v := (some (.int r13))) ⟨hx, hb, hml, hown, hts⟩ (c_X5_areAtOnePlace l dC dI cI cZ te h_p1 h_p1_surfaces h_p1_cliffs h_p1_boulders h_p1_scratches h_p1_numbers h_p1_facts h_p1_signs h_p1_areas h_p1_heights h_p1_scratches_cells p1_ridges p1_scratches_limit p1_scratches_size n_p1_scratches_cells p1_scratches_cells x7 p2 r13 hg14) (va_cwS 3 hts gX5_isFirstAtItsPlace_X5_areAtOnePlace rfl rfl rfl (by decide +kernel) ⟨Nat.le_of_ble_eq_true rfl, Nat.le_of_ble_eq_true rfl⟩) (kS_env te) hK hP hD hS hA hE [0, 1, 2] [] [0, 1, 2] rfl rfl (by decide) (by decide) (by decide) (by decide) rfl rfl hl.1 rfl (Nat.le_of_ble_eq_true rfl) dX5_isFirstAtItsPlace_10 ⟨Nat.zero_le _, Nat.zero_le _⟩ (fun H locs hP hD hS => ?_)
        show W p l e rmX5_isFirstAtItsPlace s m args below meth c H locs 0 0 Q (F0 m 13 ls [.int r13])
        refine lv_if_eq (tgt := 18) hx hb dX5_isFirstAtItsPlace_13 (by decide) (fun c15 => ?_) (fun c15 => ?_)
        · replace hf := ifp c15 hf
          refine lv_iinc (v := (x7 + (1 : Int32))) (lv' := [(2, .int (x7 + (1 : Int32))), (0, .ref h_p1), (1, .int p2)]) hx hb dX5_isFirstAtItsPlace_18 hl (k := 2) rfl rfl (by decide) rfl (fun ls hl => ?_)
          refine lv_goto (tgt := 2) hx hb dX5_isFirstAtItsPlace_21 (by decide) ?_
          exact ih8 _ _ hf hX10 hX11 _ _ hP hD hS _ (lv_sub hl [1, 2, 0] rfl)
        · replace hf := ifn c15 hf
          obtain rfl := inj1 hf
          exact hX10 rfl _ _ hP hD hS _ (lv_sub hl [] rfl)
  obtain ⟨q6, hg, hf⟩ := bd1_some hf
  refine L16 FU _ _ hg ?_ ?_ _ _ hP hD hS _ (lv_sub hl [1, 2, 0] rfl)
  · intro hq
    subst hq
    replace hf := ifp rfl hf
    intro H locs hP hD hS ls hl
    refine lv_iconst (v := (0 : Int32)) hx hb dX5_isFirstAtItsPlace_16 (by decide) ?_
    obtain rfl := inj1 hf
    subst hQ
    exact CM_iret hx hb hr rfl hlocks hAe hP hD hS dX5_isFirstAtItsPlace_17
  · intro hq
    subst hq
    replace hf := ifn (by decide) hf
    intro H locs hP hD hS ls hl
    refine lv_iconst (v := (1 : Int32)) hx hb dX5_isFirstAtItsPlace_24 (by decide) ?_
    obtain rfl := inj1 hf
    subst hQ
    exact CM_iret hx hb hr rfl hlocks hAe hP hD hS dX5_isFirstAtItsPlace_25
def rmX5_rowsAtPlaceOf : Room := { frames := 3, cells := 0, slots := 0, locals := 76 }
set_option maxRecDepth 20000 in
theorem kX5_rowsAtPlaceOf_0 : ∀ w ∈ u_ws RX1 TX1 10, w ∈ wsX5_rowsAtPlaceOf := by decide +kernel
set_option maxRecDepth 20000 in
theorem kX5_rowsAtPlaceOf_1 : Cond.fieldLink RX5 9 "StoneRiver$Found" "scratches" "LStoneRiver$Rows;" ∈ wsX5_rowsAtPlaceOf := by decide +kernel
set_option maxHeartbeats 4000000 in
set_option maxRecDepth 100000 in
theorem c_X5_rowsAtPlaceOf (l : Launch) (dC : Nat → ClassId) (dI : Nat → Nat → Nat) (cI cZ : ClassId) (te : Nat → Nat) (h_p1 : Nat) (h_p1_surfaces : Nat) (h_p1_cliffs : Nat) (h_p1_boulders : Nat) (h_p1_scratches : Nat) (h_p1_numbers : Nat) (h_p1_facts : Nat) (h_p1_signs : Nat) (h_p1_areas : Nat) (h_p1_heights : Nat) (h_p1_scratches_cells : Nat) (p1_ridges : Int32) (p1_scratches_limit : Int32) (p1_scratches_size : Int32) (n_p1_scratches_cells : Nat) (p1_scratches_cells : Nat → Int32) (p1_surfaces : Nat → Int32) (p1_numbers : Nat → Int32) (p2 : Int32) (o0 : Int32) (hf : f_X5_rowsAtPlaceOf p1_scratches_size n_p1_scratches_cells p1_scratches_cells p1_surfaces p1_numbers p2 = some o0) : CM l yX5_rowsAtPlaceOf wsX5_rowsAtPlaceOf rmX5_rowsAtPlaceOf (kS te) dC dI cI cZ [.ref h_p1, .int p2] [(h_p1, .inr (1, fX1 h_p1_surfaces h_p1_cliffs h_p1_boulders h_p1_scratches h_p1_numbers h_p1_facts h_p1_signs h_p1_areas h_p1_heights p1_ridges)), (h_p1_scratches, .inr (4, fX4 p1_scratches_limit h_p1_scratches_cells p1_scratches_size)), (h_p1_scratches_cells, .inl (cI, n_p1_scratches_cells, .inl p1_scratches_cells)), (h_p1_surfaces, .inl (cI, 192, .inl p1_surfaces)), (h_p1_numbers, .inl (cI, 6, .inl p1_numbers))] [(h_p1, .inr (1, fX1 h_p1_surfaces h_p1_cliffs h_p1_boulders h_p1_scratches h_p1_numbers h_p1_facts h_p1_signs h_p1_areas h_p1_heights p1_ridges)), (h_p1_scratches, .inr (4, fX4 p1_scratches_limit h_p1_scratches_cells p1_scratches_size)), (h_p1_scratches_cells, .inl (cI, n_p1_scratches_cells, .inl p1_scratches_cells)), (h_p1_surfaces, .inl (cI, 192, .inl p1_surfaces)), (h_p1_numbers, .inl (cI, 6, .inl p1_numbers))] (some (.int o0)) := by
  refine CM_of (cc := cX5_rowsAtPlaceOf) (maxL := 7) (ret := (some .int)) (by decide +kernel) rfl (Nat.le_of_ble_eq_true rfl) ?_
  intro p e s m args below meth c A Q hx hb hr hml hown hts hlocks hA hK hP hD hS hE hQ hAe ls hl
  have hown : s.vm.findClass RX5 = some m.cls := hown
  have hl : lv_has ls 7 [(0, .ref h_p1), (1, .int p2)] := hl
  unfold f_X5_rowsAtPlaceOf at hf
  refine lv_iconst (v := (1 : Int32)) hx hb dX5_rowsAtPlaceOf_0 (by decide) ?_
  refine lv_istore_n (lv' := [(2, .int (1 : Int32)), (0, .ref h_p1), (1, .int p2)]) hx hb dX5_rowsAtPlaceOf_1 rfl hl (by decide) rfl (fun ls hl => ?_)
  refine lv_iconst (v := (0 : Int32)) hx hb dX5_rowsAtPlaceOf_2 (by decide) ?_
  refine lv_istore_n (lv' := [(3, .int (0 : Int32)), (2, .int (1 : Int32)), (0, .ref h_p1), (1, .int p2)]) hx hb dX5_rowsAtPlaceOf_3 rfl hl (by decide) rfl (fun ls hl => ?_)
  refine lv_iconst (v := (0 : Int32)) hx hb dX5_rowsAtPlaceOf_4 (by decide) ?_
  refine lv_istore (lv' := [(4, .int (0 : Int32)), (3, .int (0 : Int32)), (2, .int (1 : Int32)), (0, .ref h_p1), (1, .int p2)]) hx hb dX5_rowsAtPlaceOf_5 hl (by decide) rfl (fun ls hl => ?_)
  refine lv_iload_n hx hb dX5_rowsAtPlaceOf_7 rfl (lv_at hl 4 rfl) ?_
  refine lv_istore (lv' := [(5, .int p2), (4, .int (0 : Int32)), (3, .int (0 : Int32)), (2, .int (1 : Int32)), (0, .ref h_p1), (1, .int p2)]) hx hb dX5_rowsAtPlaceOf_8 hl (by decide) rfl (fun ls hl => ?_)
  have L45 : ∀ (fu28 : Nat) (x23 : Int32) (x24 : Int32) (x25 : Int32) (x26 : Int32) (x20 : Int32) (x21 : Int32) (x22 : Int32), f_X5_rowsAtPlaceOf_L1 p1_scratches_size n_p1_scratches_cells p1_scratches_cells p2 p1_surfaces p1_numbers fu28 x23 x24 x25 x26 = some (x20, x21, x22) → (∀ (H : Heap) (locs : List Loc), va_P (dC, dI) vwCl [(h_p1, .inr (1, fX1 h_p1_surfaces h_p1_cliffs h_p1_boulders h_p1_scratches h_p1_numbers h_p1_facts h_p1_signs h_p1_areas h_p1_heights p1_ridges)), (h_p1_scratches, .inr (4, fX4 p1_scratches_limit h_p1_scratches_cells p1_scratches_size)), (h_p1_scratches_cells, .inl (cI, n_p1_scratches_cells, .inl p1_scratches_cells)), (h_p1_surfaces, .inl (cI, 192, .inl p1_surfaces)), (h_p1_numbers, .inl (cI, 6, .inl p1_numbers))] H → va_D A [(h_p1, .inr (1, fX1 h_p1_surfaces h_p1_cliffs h_p1_boulders h_p1_scratches h_p1_numbers h_p1_facts h_p1_signs h_p1_areas h_p1_heights p1_ridges)), (h_p1_scratches, .inr (4, fX4 p1_scratches_limit h_p1_scratches_cells p1_scratches_size)), (h_p1_scratches_cells, .inl (cI, n_p1_scratches_cells, .inl p1_scratches_cells)), (h_p1_surfaces, .inl (cI, 192, .inl p1_surfaces)), (h_p1_numbers, .inl (cI, 6, .inl p1_numbers))] → va_S A s.heap H locs → ∀ ls : Array Slot, lv_has ls 7 [(2, .int x20), (3, .int x21), (4, .int x22)] → W p l e rmX5_rowsAtPlaceOf s m args below meth c H locs 0 0 Q (F0 m 93 ls [])) → ∀ (H : Heap) (locs : List Loc), va_P (dC, dI) vwCl [(h_p1, .inr (1, fX1 h_p1_surfaces h_p1_cliffs h_p1_boulders h_p1_scratches h_p1_numbers h_p1_facts h_p1_signs h_p1_areas h_p1_heights p1_ridges)), (h_p1_scratches, .inr (4, fX4 p1_scratches_limit h_p1_scratches_cells p1_scratches_size)), (h_p1_scratches_cells, .inl (cI, n_p1_scratches_cells, .inl p1_scratches_cells)), (h_p1_surfaces, .inl (cI, 192, .inl p1_surfaces)), (h_p1_numbers, .inl (cI, 6, .inl p1_numbers))] H → va_D A [(h_p1, .inr (1, fX1 h_p1_surfaces h_p1_cliffs h_p1_boulders h_p1_scratches h_p1_numbers h_p1_facts h_p1_signs h_p1_areas h_p1_heights p1_ridges)), (h_p1_scratches, .inr (4, fX4 p1_scratches_limit h_p1_scratches_cells p1_scratches_size)), (h_p1_scratches_cells, .inl (cI, n_p1_scratches_cells, .inl p1_scratches_cells)), (h_p1_surfaces, .inl (cI, 192, .inl p1_surfaces)), (h_p1_numbers, .inl (cI, 6, .inl p1_numbers))] → va_S A s.heap H locs → ∀ ls : Array Slot, lv_has ls 7 [(0, .ref h_p1), (1, .int p2), (2, .int x23), (3, .int x24), (4, .int x25), (5, .int x26)] → W p l e rmX5_rowsAtPlaceOf s m args below meth c H locs 0 0 Q (F0 m 10 ls []) := by
    intro fu28
    induction fu28 with
    | zero =>
      intro x23 x24 x25 x26 x20 x21 x22 hf
      unfold f_X5_rowsAtPlaceOf_L1 at hf
      exact none_ne hf
    | succ fu28 ih27 =>
      intro x23 x24 x25 x26 x20 x21 x22 hf hX29 H locs hP hD hS ls hl
      unfold f_X5_rowsAtPlaceOf_L1 at hf
      refine lv_iload hx hb dX5_rowsAtPlaceOf_10 (lv_at hl 5 rfl) ?_
      refine lv_aload_n hx hb dX5_rowsAtPlaceOf_12 rfl (lv_at hl 0 rfl) ?_
      refine va_get (D := (dC, dI)) (ci := 1) (v := .ref h_p1_scratches) (C := RX1) (T := TX1) (N := 10) hx hb hts kX5_rowsAtPlaceOf_0 hown hK hP 0 rfl rfl 3 (by decide) (hts _ kX5_rowsAtPlaceOf_1) (fun _ h9 => h9) rfl dX5_rowsAtPlaceOf_13 ?_
      obtain ⟨r30, hg31, hf⟩ := bd1_some hf
      refine CM_callV (C := RX4) (As := []) (rest := [.int x26]) (wc := [(h_p1_scratches, .inr (4, fX4 p1_scratches_limit h_p1_scratches_cells p1_scratches_size))]) (w1 := [(h_p1_scratches, .inr (4, fX4 p1_scratches_limit h_p1_scratches_cells p1_scratches_size))]) (wr := [(h_p1, .inr (1, fX1 h_p1_surfaces h_p1_cliffs h_p1_boulders h_p1_scratches h_p1_numbers h_p1_facts h_p1_signs h_p1_areas h_p1_heights p1_ridges)), (h_p1_scratches_cells, .inl (cI, n_p1_scratches_cells, .inl p1_scratches_cells)), (h_p1_surfaces, .inl (cI, 192, .inl p1_surfaces)), (h_p1_numbers, .inl (cI, 6, .inl p1_numbers))]) (wo := [(h_p1, .inr (1, fX1 h_p1_surfaces h_p1_cliffs h_p1_boulders h_p1_scratches h_p1_numbers h_p1_facts h_p1_signs h_p1_areas h_p1_heights p1_ridges)), (h_p1_scratches, .inr (4, fX4 p1_scratches_limit h_p1_scratches_cells p1_scratches_size)), (h_p1_scratches_cells, .inl (cI, n_p1_scratches_cells, .inl p1_scratches_cells)), (h_p1_surfaces, .inl (cI, 192, .inl p1_surfaces)), (h_p1_numbers, .inl (cI, 6, .inl p1_numbers))]) (v := (some (.int r30))) ⟨hx, hb, hml, hown, hts⟩ (c_X4_size l dC dI cI cZ te h_p1_scratches h_p1_scratches_cells p1_scratches_limit p1_scratches_size r30 hg31) (cwV 0 hts gX5_rowsAtPlaceOf_X4_size rfl rfl rfl (by decide +kernel) ⟨Nat.le_of_ble_eq_true rfl, Nat.le_of_ble_eq_true rfl⟩) (kS_env te) hK hP hD hS hA hE [1] [0, 2, 3, 4] [0, 4, 1, 2, 3] rfl rfl (by decide) (by decide) (by decide) (by decide) rfl 1 4 rfl rfl rfl rfl hl.1 rfl (Nat.le_of_ble_eq_true rfl) dX5_rowsAtPlaceOf_16 ⟨Nat.zero_le _, Nat.zero_le _⟩ (fun H locs hP hD hS => ?_)
      show W p l e rmX5_rowsAtPlaceOf s m args below meth c H locs 0 0 Q (F0 m 19 ls [.int r30, .int x26])
      refine lv_icmp_ge (tgt := 93) hx hb dX5_rowsAtPlaceOf_19 (by decide) (fun c32 => ?_) (fun c32 => ?_)
      · replace hf := ifp c32 hf
        obtain ⟨rfl, rfl, rfl⟩ := inj3 hf
        exact hX29 _ _ hP hD hS _ (lv_sub hl [2, 3, 4] rfl)
      · replace hf := ifn c32 hf
        refine lv_aload_n hx hb dX5_rowsAtPlaceOf_22 rfl (lv_at hl 0 rfl) ?_
        refine lv_iload_n hx hb dX5_rowsAtPlaceOf_23 rfl (lv_at hl 1 rfl) ?_
        refine lv_iload hx hb dX5_rowsAtPlaceOf_24 (lv_at hl 5 rfl) ?_
        obtain ⟨r33, hg34, hf⟩ := bd1_some hf
        refine CM_callS (As := [.ref h_p1, .int p2, .int x26]) (rest := []) (wc := [(h_p1, .inr (1, fX1 h_p1_surfaces h_p1_cliffs h_p1_boulders h_p1_scratches h_p1_numbers h_p1_facts h_p1_signs h_p1_areas h_p1_heights p1_ridges)), (h_p1_scratches, .inr (4, fX4 p1_scratches_limit h_p1_scratches_cells p1_scratches_size)), (h_p1_scratches_cells, .inl (cI, n_p1_scratches_cells, .inl p1_scratches_cells))]) (w1 := [(h_p1, .inr (1, fX1 h_p1_surfaces h_p1_cliffs h_p1_boulders h_p1_scratches h_p1_numbers h_p1_facts h_p1_signs h_p1_areas h_p1_heights p1_ridges)), (h_p1_scratches, .inr (4, fX4 p1_scratches_limit h_p1_scratches_cells p1_scratches_size)), (h_p1_scratches_cells, .inl (cI, n_p1_scratches_cells, .inl p1_scratches_cells))]) (wr := [(h_p1_surfaces, .inl (cI, 192, .inl p1_surfaces)), (h_p1_numbers, .inl (cI, 6, .inl p1_numbers))]) (wo := [(h_p1, .inr (1, fX1 h_p1_surfaces h_p1_cliffs h_p1_boulders h_p1_scratches h_p1_numbers h_p1_facts h_p1_signs h_p1_areas h_p1_heights p1_ridges)), (h_p1_scratches, .inr (4, fX4 p1_scratches_limit h_p1_scratches_cells p1_scratches_size)), (h_p1_scratches_cells, .inl (cI, n_p1_scratches_cells, .inl p1_scratches_cells)), (h_p1_surfaces, .inl (cI, 192, .inl p1_surfaces)), (h_p1_numbers, .inl (cI, 6, .inl p1_numbers))]) (v := (some (.int r33))) ⟨hx, hb, hml, hown, hts⟩ (c_X5_areAtOnePlace l dC dI cI cZ te h_p1 h_p1_surfaces h_p1_cliffs h_p1_boulders h_p1_scratches h_p1_numbers h_p1_facts h_p1_signs h_p1_areas h_p1_heights h_p1_scratches_cells p1_ridges p1_scratches_limit p1_scratches_size n_p1_scratches_cells p1_scratches_cells p2 x26 r33 hg34) (va_cwS 3 hts gX5_rowsAtPlaceOf_X5_areAtOnePlace rfl rfl rfl (by decide +kernel) ⟨Nat.le_of_ble_eq_true rfl, Nat.le_of_ble_eq_true rfl⟩) (kS_env te) hK hP hD hS hA hE [0, 1, 2] [3, 4] [2, 3, 4, 0, 1] rfl rfl (by decide) (by decide) (by decide) (by decide) rfl rfl hl.1 rfl (Nat.le_of_ble_eq_true rfl) dX5_rowsAtPlaceOf_26 ⟨Nat.zero_le _, Nat.zero_le _⟩ (fun H locs hP hD hS => ?_)
        show W p l e rmX5_rowsAtPlaceOf s m args below meth c H locs 0 0 Q (F0 m 29 ls [.int r33])
        refine lv_if_eq (tgt := 87) hx hb dX5_rowsAtPlaceOf_29 (by decide) (fun c35 => ?_) (fun c35 => ?_)
        · replace hf := ifp c35 hf
          refine lv_iinc (v := (x26 + (1 : Int32))) (lv' := [(5, .int (x26 + (1 : Int32))), (0, .ref h_p1), (1, .int p2), (2, .int x23), (3, .int x24), (4, .int x25)]) hx hb dX5_rowsAtPlaceOf_87 hl (k := 5) rfl rfl (by decide) rfl (fun ls hl => ?_)
          refine lv_goto (tgt := 10) hx hb dX5_rowsAtPlaceOf_90 (by decide) ?_
          exact ih27 _ _ _ _ _ _ _ hf hX29 _ _ hP hD hS _ (lv_sub hl [1, 2, 3, 4, 5, 0] rfl)
        · replace hf := ifn c35 hf
          refine lv_aload_n hx hb dX5_rowsAtPlaceOf_32 rfl (lv_at hl 0 rfl) ?_
          refine lv_iload hx hb dX5_rowsAtPlaceOf_33 (lv_at hl 5 rfl) ?_
          obtain ⟨r36, hg37, hf⟩ := bd1_some hf
          refine CM_callS (As := [.ref h_p1, .int x26]) (rest := []) (wc := [(h_p1, .inr (1, fX1 h_p1_surfaces h_p1_cliffs h_p1_boulders h_p1_scratches h_p1_numbers h_p1_facts h_p1_signs h_p1_areas h_p1_heights p1_ridges)), (h_p1_scratches, .inr (4, fX4 p1_scratches_limit h_p1_scratches_cells p1_scratches_size)), (h_p1_scratches_cells, .inl (cI, n_p1_scratches_cells, .inl p1_scratches_cells)), (h_p1_surfaces, .inl (cI, 192, .inl p1_surfaces)), (h_p1_numbers, .inl (cI, 6, .inl p1_numbers))]) (w1 := [(h_p1, .inr (1, fX1 h_p1_surfaces h_p1_cliffs h_p1_boulders h_p1_scratches h_p1_numbers h_p1_facts h_p1_signs h_p1_areas h_p1_heights p1_ridges)), (h_p1_scratches, .inr (4, fX4 p1_scratches_limit h_p1_scratches_cells p1_scratches_size)), (h_p1_scratches_cells, .inl (cI, n_p1_scratches_cells, .inl p1_scratches_cells)), (h_p1_surfaces, .inl (cI, 192, .inl p1_surfaces)), (h_p1_numbers, .inl (cI, 6, .inl p1_numbers))]) (wr := []) (wo := [(h_p1, .inr (1, fX1 h_p1_surfaces h_p1_cliffs h_p1_boulders h_p1_scratches h_p1_numbers h_p1_facts h_p1_signs h_p1_areas h_p1_heights p1_ridges)), (h_p1_scratches, .inr (4, fX4 p1_scratches_limit h_p1_scratches_cells p1_scratches_size)), (h_p1_scratches_cells, .inl (cI, n_p1_scratches_cells, .inl p1_scratches_cells)), (h_p1_surfaces, .inl (cI, 192, .inl p1_surfaces)), (h_p1_numbers, .inl (cI, 6, .inl p1_numbers))]) (v := (some (.int r36))) ⟨hx, hb, hml, hown, hts⟩ (c_X5_stagesOf l dC dI cI cZ te h_p1 h_p1_surfaces h_p1_cliffs h_p1_boulders h_p1_scratches h_p1_numbers h_p1_facts h_p1_signs h_p1_areas h_p1_heights h_p1_scratches_cells p1_ridges p1_scratches_limit p1_scratches_size n_p1_scratches_cells p1_scratches_cells p1_surfaces p1_numbers x26 r36 hg37) (va_cwS 2 hts gX5_rowsAtPlaceOf_X5_stagesOf rfl rfl rfl (by decide +kernel) ⟨Nat.le_of_ble_eq_true rfl, Nat.le_of_ble_eq_true rfl⟩) (kS_env te) hK hP hD hS hA hE [0, 1, 2, 3, 4] [] [0, 1, 2, 3, 4] rfl rfl (by decide) (by decide) (by decide) (by decide) rfl rfl hl.1 rfl (Nat.le_of_ble_eq_true rfl) dX5_rowsAtPlaceOf_35 ⟨Nat.zero_le _, Nat.zero_le _⟩ (fun H locs hP hD hS => ?_)
          show W p l e rmX5_rowsAtPlaceOf s m args below meth c H locs 0 0 Q (F0 m 38 ls [.int r36])
          refine lv_istore (lv' := [(6, .int r36), (0, .ref h_p1), (1, .int p2), (2, .int x23), (3, .int x24), (4, .int x25), (5, .int x26)]) hx hb dX5_rowsAtPlaceOf_38 hl (by decide) rfl (fun ls hl => ?_)
          refine lv_iload hx hb dX5_rowsAtPlaceOf_40 (lv_at hl 0 rfl) ?_
          refine lv_iconst (v := (4 : Int32)) hx hb dX5_rowsAtPlaceOf_42 (by decide) ?_
          refine lv_iand hx hb dX5_rowsAtPlaceOf_43 ?_
          obtain ⟨x38, hg, hf⟩ := bd1_some hf
          have J39 : ∀ (H : Heap) (locs : List Loc), va_P (dC, dI) vwCl [(h_p1, .inr (1, fX1 h_p1_surfaces h_p1_cliffs h_p1_boulders h_p1_scratches h_p1_numbers h_p1_facts h_p1_signs h_p1_areas h_p1_heights p1_ridges)), (h_p1_scratches, .inr (4, fX4 p1_scratches_limit h_p1_scratches_cells p1_scratches_size)), (h_p1_scratches_cells, .inl (cI, n_p1_scratches_cells, .inl p1_scratches_cells)), (h_p1_surfaces, .inl (cI, 192, .inl p1_surfaces)), (h_p1_numbers, .inl (cI, 6, .inl p1_numbers))] H → va_D A [(h_p1, .inr (1, fX1 h_p1_surfaces h_p1_cliffs h_p1_boulders h_p1_scratches h_p1_numbers h_p1_facts h_p1_signs h_p1_areas h_p1_heights p1_ridges)), (h_p1_scratches, .inr (4, fX4 p1_scratches_limit h_p1_scratches_cells p1_scratches_size)), (h_p1_scratches_cells, .inl (cI, n_p1_scratches_cells, .inl p1_scratches_cells)), (h_p1_surfaces, .inl (cI, 192, .inl p1_surfaces)), (h_p1_numbers, .inl (cI, 6, .inl p1_numbers))] → va_S A s.heap H locs → ∀ ls : Array Slot, lv_has ls 7 [(0, .ref h_p1), (1, .int p2), (2, .int x23), (3, .int x24), (5, .int x26), (6, .int r36)] → W p l e rmX5_rowsAtPlaceOf s m args below meth c H locs 0 0 Q (F0 m 57 ls [.int x38]) := by
            intro H locs hP hD hS ls hl
            refine lv_istore (lv' := [(4, .int x38), (0, .ref h_p1), (1, .int p2), (2, .int x23), (3, .int x24), (5, .int x26), (6, .int r36)]) hx hb dX5_rowsAtPlaceOf_57 hl (by decide) rfl (fun ls hl => ?_)
            refine lv_iload hx hb dX5_rowsAtPlaceOf_59 (lv_at hl 6 rfl) ?_
            refine lv_iconst (v := (2 : Int32)) hx hb dX5_rowsAtPlaceOf_61 (by decide) ?_
            refine lv_iand hx hb dX5_rowsAtPlaceOf_62 ?_
            obtain ⟨x40, hg, hf⟩ := bd1_some hf
            have J41 : ∀ (H : Heap) (locs : List Loc), va_P (dC, dI) vwCl [(h_p1, .inr (1, fX1 h_p1_surfaces h_p1_cliffs h_p1_boulders h_p1_scratches h_p1_numbers h_p1_facts h_p1_signs h_p1_areas h_p1_heights p1_ridges)), (h_p1_scratches, .inr (4, fX4 p1_scratches_limit h_p1_scratches_cells p1_scratches_size)), (h_p1_scratches_cells, .inl (cI, n_p1_scratches_cells, .inl p1_scratches_cells)), (h_p1_surfaces, .inl (cI, 192, .inl p1_surfaces)), (h_p1_numbers, .inl (cI, 6, .inl p1_numbers))] H → va_D A [(h_p1, .inr (1, fX1 h_p1_surfaces h_p1_cliffs h_p1_boulders h_p1_scratches h_p1_numbers h_p1_facts h_p1_signs h_p1_areas h_p1_heights p1_ridges)), (h_p1_scratches, .inr (4, fX4 p1_scratches_limit h_p1_scratches_cells p1_scratches_size)), (h_p1_scratches_cells, .inl (cI, n_p1_scratches_cells, .inl p1_scratches_cells)), (h_p1_surfaces, .inl (cI, 192, .inl p1_surfaces)), (h_p1_numbers, .inl (cI, 6, .inl p1_numbers))] → va_S A s.heap H locs → ∀ ls : Array Slot, lv_has ls 7 [(0, .ref h_p1), (1, .int p2), (2, .int x23), (4, .int x38), (5, .int x26), (6, .int r36)] → W p l e rmX5_rowsAtPlaceOf s m args below meth c H locs 0 0 Q (F0 m 73 ls [.int x40]) := by
              intro H locs hP hD hS ls hl
              refine lv_istore_n (lv' := [(3, .int x40), (0, .ref h_p1), (1, .int p2), (2, .int x23), (4, .int x38), (5, .int x26), (6, .int r36)]) hx hb dX5_rowsAtPlaceOf_73 rfl hl (by decide) rfl (fun ls hl => ?_)
              refine lv_iload hx hb dX5_rowsAtPlaceOf_74 (lv_at hl 6 rfl) ?_
              refine lv_iconst (v := (1 : Int32)) hx hb dX5_rowsAtPlaceOf_76 (by decide) ?_
              refine lv_iand hx hb dX5_rowsAtPlaceOf_77 ?_
              refine lv_if_ne (tgt := 85) hx hb dX5_rowsAtPlaceOf_78 (by decide) (fun c42 => ?_) (fun c42 => ?_)
              · replace hf := ifn c42 hf
                refine lv_iload_n hx hb dX5_rowsAtPlaceOf_85 rfl (lv_at hl 3 rfl) ?_
                refine lv_istore_n (lv' := [(2, .int x23), (3, .int x40), (0, .ref h_p1), (1, .int p2), (4, .int x38), (5, .int x26), (6, .int r36)]) hx hb dX5_rowsAtPlaceOf_86 rfl hl (by decide) rfl (fun ls hl => ?_)
                refine lv_iinc (v := (x26 + (1 : Int32))) (lv' := [(5, .int (x26 + (1 : Int32))), (2, .int x23), (3, .int x40), (0, .ref h_p1), (1, .int p2), (4, .int x38), (6, .int r36)]) hx hb dX5_rowsAtPlaceOf_87 hl (k := 5) rfl rfl (by decide) rfl (fun ls hl => ?_)
                refine lv_goto (tgt := 10) hx hb dX5_rowsAtPlaceOf_90 (by decide) ?_
                exact ih27 _ _ _ _ _ _ _ hf hX29 _ _ hP hD hS _ (lv_sub hl [3, 4, 1, 2, 5, 0] rfl)
              · replace hf := ifp c42 hf
                refine lv_iconst (v := (0 : Int32)) hx hb dX5_rowsAtPlaceOf_81 (by decide) ?_
                refine lv_goto (tgt := 86) hx hb dX5_rowsAtPlaceOf_82 (by decide) ?_
                refine lv_istore_n (lv' := [(2, .int (0 : Int32)), (3, .int x40), (0, .ref h_p1), (1, .int p2), (4, .int x38), (5, .int x26), (6, .int r36)]) hx hb dX5_rowsAtPlaceOf_86 rfl hl (by decide) rfl (fun ls hl => ?_)
                refine lv_iinc (v := (x26 + (1 : Int32))) (lv' := [(5, .int (x26 + (1 : Int32))), (2, .int (0 : Int32)), (3, .int x40), (0, .ref h_p1), (1, .int p2), (4, .int x38), (6, .int r36)]) hx hb dX5_rowsAtPlaceOf_87 hl (k := 5) rfl rfl (by decide) rfl (fun ls hl => ?_)
                refine lv_goto (tgt := 10) hx hb dX5_rowsAtPlaceOf_90 (by decide) ?_
                exact ih27 _ _ _ _ _ _ _ hf hX29 _ _ hP hD hS _ (lv_sub hl [3, 4, 1, 2, 5, 0] rfl)
            clear hf
            have hf := hg
            refine lv_if_ne (tgt := 70) hx hb dX5_rowsAtPlaceOf_63 (by decide) (fun c43 => ?_) (fun c43 => ?_)
            · replace hf := ifn c43 hf
              refine lv_iload_n hx hb dX5_rowsAtPlaceOf_70 rfl (lv_at hl 3 rfl) ?_
              refine lv_iload_n hx hb dX5_rowsAtPlaceOf_71 rfl (lv_at hl 4 rfl) ?_
              refine lv_iadd hx hb dX5_rowsAtPlaceOf_72 ?_
              obtain rfl := inj1 hf
              exact J41 _ _ hP hD hS _ (lv_sub hl [1, 2, 3, 0, 5, 6] rfl)
            · replace hf := ifp c43 hf
              refine lv_iconst (v := (0 : Int32)) hx hb dX5_rowsAtPlaceOf_66 (by decide) ?_
              refine lv_goto (tgt := 73) hx hb dX5_rowsAtPlaceOf_67 (by decide) ?_
              obtain rfl := inj1 hf
              exact J41 _ _ hP hD hS _ (lv_sub hl [1, 2, 3, 0, 5, 6] rfl)
          clear hf
          have hf := hg
          refine lv_if_ne (tgt := 51) hx hb dX5_rowsAtPlaceOf_44 (by decide) (fun c44 => ?_) (fun c44 => ?_)
          · replace hf := ifn c44 hf
            refine lv_iload_n hx hb dX5_rowsAtPlaceOf_51 rfl (lv_at hl 3 rfl) ?_
            refine lv_iload_n hx hb dX5_rowsAtPlaceOf_52 rfl (lv_at hl 4 rfl) ?_
            refine lv_iadd hx hb dX5_rowsAtPlaceOf_53 ?_
            refine lv_iload hx hb dX5_rowsAtPlaceOf_54 (lv_at hl 5 rfl) ?_
            refine lv_iadd hx hb dX5_rowsAtPlaceOf_56 ?_
            obtain rfl := inj1 hf
            exact J39 _ _ hP hD hS _ (lv_sub hl [1, 2, 3, 4, 6, 0] rfl)
          · replace hf := ifp c44 hf
            refine lv_iconst (v := (0 : Int32)) hx hb dX5_rowsAtPlaceOf_47 (by decide) ?_
            refine lv_goto (tgt := 57) hx hb dX5_rowsAtPlaceOf_48 (by decide) ?_
            obtain rfl := inj1 hf
            exact J39 _ _ hP hD hS _ (lv_sub hl [1, 2, 3, 4, 6, 0] rfl)
  obtain ⟨x20, x21, x22, hg, hf⟩ := bd3_some hf
  refine L45 FU _ _ _ _ _ _ _ hg ?_ _ _ hP hD hS _ (lv_sub hl [4, 5, 3, 2, 1, 0] rfl)
  · intro H locs hP hD hS ls hl
    refine lv_iload_n hx hb dX5_rowsAtPlaceOf_93 rfl (lv_at hl 0 rfl) ?_
    refine lv_iload_n hx hb dX5_rowsAtPlaceOf_94 rfl (lv_at hl 1 rfl) ?_
    refine lv_iadd hx hb dX5_rowsAtPlaceOf_95 ?_
    refine lv_iload hx hb dX5_rowsAtPlaceOf_96 (lv_at hl 2 rfl) ?_
    refine lv_iadd hx hb dX5_rowsAtPlaceOf_98 ?_
    obtain rfl := inj1 hf
    subst hQ
    exact CM_iret hx hb hr rfl hlocks hAe hP hD hS dX5_rowsAtPlaceOf_99
def rmX5_rows : Room := { frames := 4, cells := 0, slots := 0, locals := 102 }
set_option maxRecDepth 20000 in
theorem kX5_rows_0 : ∀ w ∈ u_ws RX1 TX1 10, w ∈ wsX5_rows := by decide +kernel
set_option maxRecDepth 20000 in
theorem kX5_rows_1 : Cond.fieldLink RX5 9 "StoneRiver$Found" "scratches" "LStoneRiver$Rows;" ∈ wsX5_rows := by decide +kernel
set_option maxHeartbeats 4000000 in
set_option maxRecDepth 100000 in
theorem c_X5_rows (l : Launch) (dC : Nat → ClassId) (dI : Nat → Nat → Nat) (cI cZ : ClassId) (te : Nat → Nat) (h_p1 : Nat) (h_p1_surfaces : Nat) (h_p1_cliffs : Nat) (h_p1_boulders : Nat) (h_p1_scratches : Nat) (h_p1_numbers : Nat) (h_p1_facts : Nat) (h_p1_signs : Nat) (h_p1_areas : Nat) (h_p1_heights : Nat) (h_p1_scratches_cells : Nat) (p1_ridges : Int32) (p1_scratches_limit : Int32) (p1_scratches_size : Int32) (n_p1_scratches_cells : Nat) (p1_scratches_cells : Nat → Int32) (p1_surfaces : Nat → Int32) (p1_numbers : Nat → Int32) (o0 : Int32) (hf : f_X5_rows p1_scratches_size n_p1_scratches_cells p1_scratches_cells p1_surfaces p1_numbers = some o0) : CM l yX5_rows wsX5_rows rmX5_rows (kS te) dC dI cI cZ [.ref h_p1] [(h_p1, .inr (1, fX1 h_p1_surfaces h_p1_cliffs h_p1_boulders h_p1_scratches h_p1_numbers h_p1_facts h_p1_signs h_p1_areas h_p1_heights p1_ridges)), (h_p1_scratches, .inr (4, fX4 p1_scratches_limit h_p1_scratches_cells p1_scratches_size)), (h_p1_scratches_cells, .inl (cI, n_p1_scratches_cells, .inl p1_scratches_cells)), (h_p1_surfaces, .inl (cI, 192, .inl p1_surfaces)), (h_p1_numbers, .inl (cI, 6, .inl p1_numbers))] [(h_p1, .inr (1, fX1 h_p1_surfaces h_p1_cliffs h_p1_boulders h_p1_scratches h_p1_numbers h_p1_facts h_p1_signs h_p1_areas h_p1_heights p1_ridges)), (h_p1_scratches, .inr (4, fX4 p1_scratches_limit h_p1_scratches_cells p1_scratches_size)), (h_p1_scratches_cells, .inl (cI, n_p1_scratches_cells, .inl p1_scratches_cells)), (h_p1_surfaces, .inl (cI, 192, .inl p1_surfaces)), (h_p1_numbers, .inl (cI, 6, .inl p1_numbers))] (some (.int o0)) := by
  refine CM_of (cc := cX5_rows) (maxL := 3) (ret := (some .int)) (by decide +kernel) rfl (Nat.le_of_ble_eq_true rfl) ?_
  intro p e s m args below meth c A Q hx hb hr hml hown hts hlocks hA hK hP hD hS hE hQ hAe ls hl
  have hown : s.vm.findClass RX5 = some m.cls := hown
  have hl : lv_has ls 3 [(0, .ref h_p1)] := hl
  unfold f_X5_rows at hf
  refine lv_iconst (v := (1 : Int32)) hx hb dX5_rows_0 (by decide) ?_
  refine lv_istore_n (lv' := [(1, .int (1 : Int32)), (0, .ref h_p1)]) hx hb dX5_rows_1 rfl hl (by decide) rfl (fun ls hl => ?_)
  refine lv_iconst (v := (0 : Int32)) hx hb dX5_rows_2 (by decide) ?_
  refine lv_istore_n (lv' := [(2, .int (0 : Int32)), (1, .int (1 : Int32)), (0, .ref h_p1)]) hx hb dX5_rows_3 rfl hl (by decide) rfl (fun ls hl => ?_)
  have L29 : ∀ (fu17 : Nat) (x14 : Int32) (x15 : Int32) (x13 : Int32), f_X5_rows_L1 p1_scratches_size n_p1_scratches_cells p1_scratches_cells p1_surfaces p1_numbers fu17 x14 x15 = some x13 → (∀ (H : Heap) (locs : List Loc), va_P (dC, dI) vwCl [(h_p1, .inr (1, fX1 h_p1_surfaces h_p1_cliffs h_p1_boulders h_p1_scratches h_p1_numbers h_p1_facts h_p1_signs h_p1_areas h_p1_heights p1_ridges)), (h_p1_scratches, .inr (4, fX4 p1_scratches_limit h_p1_scratches_cells p1_scratches_size)), (h_p1_scratches_cells, .inl (cI, n_p1_scratches_cells, .inl p1_scratches_cells)), (h_p1_surfaces, .inl (cI, 192, .inl p1_surfaces)), (h_p1_numbers, .inl (cI, 6, .inl p1_numbers))] H → va_D A [(h_p1, .inr (1, fX1 h_p1_surfaces h_p1_cliffs h_p1_boulders h_p1_scratches h_p1_numbers h_p1_facts h_p1_signs h_p1_areas h_p1_heights p1_ridges)), (h_p1_scratches, .inr (4, fX4 p1_scratches_limit h_p1_scratches_cells p1_scratches_size)), (h_p1_scratches_cells, .inl (cI, n_p1_scratches_cells, .inl p1_scratches_cells)), (h_p1_surfaces, .inl (cI, 192, .inl p1_surfaces)), (h_p1_numbers, .inl (cI, 6, .inl p1_numbers))] → va_S A s.heap H locs → ∀ ls : Array Slot, lv_has ls 3 [(1, .int x13)] → W p l e rmX5_rows s m args below meth c H locs 0 0 Q (F0 m 37 ls [])) → ∀ (H : Heap) (locs : List Loc), va_P (dC, dI) vwCl [(h_p1, .inr (1, fX1 h_p1_surfaces h_p1_cliffs h_p1_boulders h_p1_scratches h_p1_numbers h_p1_facts h_p1_signs h_p1_areas h_p1_heights p1_ridges)), (h_p1_scratches, .inr (4, fX4 p1_scratches_limit h_p1_scratches_cells p1_scratches_size)), (h_p1_scratches_cells, .inl (cI, n_p1_scratches_cells, .inl p1_scratches_cells)), (h_p1_surfaces, .inl (cI, 192, .inl p1_surfaces)), (h_p1_numbers, .inl (cI, 6, .inl p1_numbers))] H → va_D A [(h_p1, .inr (1, fX1 h_p1_surfaces h_p1_cliffs h_p1_boulders h_p1_scratches h_p1_numbers h_p1_facts h_p1_signs h_p1_areas h_p1_heights p1_ridges)), (h_p1_scratches, .inr (4, fX4 p1_scratches_limit h_p1_scratches_cells p1_scratches_size)), (h_p1_scratches_cells, .inl (cI, n_p1_scratches_cells, .inl p1_scratches_cells)), (h_p1_surfaces, .inl (cI, 192, .inl p1_surfaces)), (h_p1_numbers, .inl (cI, 6, .inl p1_numbers))] → va_S A s.heap H locs → ∀ ls : Array Slot, lv_has ls 3 [(0, .ref h_p1), (1, .int x14), (2, .int x15)] → W p l e rmX5_rows s m args below meth c H locs 0 0 Q (F0 m 4 ls []) := by
    intro fu17
    induction fu17 with
    | zero =>
      intro x14 x15 x13 hf
      unfold f_X5_rows_L1 at hf
      exact none_ne hf
    | succ fu17 ih16 =>
      intro x14 x15 x13 hf hX18 H locs hP hD hS ls hl
      unfold f_X5_rows_L1 at hf
      refine lv_iload_n hx hb dX5_rows_4 rfl (lv_at hl 2 rfl) ?_
      refine lv_aload_n hx hb dX5_rows_5 rfl (lv_at hl 0 rfl) ?_
      refine va_get (D := (dC, dI)) (ci := 1) (v := .ref h_p1_scratches) (C := RX1) (T := TX1) (N := 10) hx hb hts kX5_rows_0 hown hK hP 0 rfl rfl 3 (by decide) (hts _ kX5_rows_1) (fun _ h9 => h9) rfl dX5_rows_6 ?_
      obtain ⟨r19, hg20, hf⟩ := bd1_some hf
      refine CM_callV (C := RX4) (As := []) (rest := [.int x15]) (wc := [(h_p1_scratches, .inr (4, fX4 p1_scratches_limit h_p1_scratches_cells p1_scratches_size))]) (w1 := [(h_p1_scratches, .inr (4, fX4 p1_scratches_limit h_p1_scratches_cells p1_scratches_size))]) (wr := [(h_p1, .inr (1, fX1 h_p1_surfaces h_p1_cliffs h_p1_boulders h_p1_scratches h_p1_numbers h_p1_facts h_p1_signs h_p1_areas h_p1_heights p1_ridges)), (h_p1_scratches_cells, .inl (cI, n_p1_scratches_cells, .inl p1_scratches_cells)), (h_p1_surfaces, .inl (cI, 192, .inl p1_surfaces)), (h_p1_numbers, .inl (cI, 6, .inl p1_numbers))]) (wo := [(h_p1, .inr (1, fX1 h_p1_surfaces h_p1_cliffs h_p1_boulders h_p1_scratches h_p1_numbers h_p1_facts h_p1_signs h_p1_areas h_p1_heights p1_ridges)), (h_p1_scratches, .inr (4, fX4 p1_scratches_limit h_p1_scratches_cells p1_scratches_size)), (h_p1_scratches_cells, .inl (cI, n_p1_scratches_cells, .inl p1_scratches_cells)), (h_p1_surfaces, .inl (cI, 192, .inl p1_surfaces)), (h_p1_numbers, .inl (cI, 6, .inl p1_numbers))]) (v := (some (.int r19))) ⟨hx, hb, hml, hown, hts⟩ (c_X4_size l dC dI cI cZ te h_p1_scratches h_p1_scratches_cells p1_scratches_limit p1_scratches_size r19 hg20) (cwV 0 hts gX5_rows_X4_size rfl rfl rfl (by decide +kernel) ⟨Nat.le_of_ble_eq_true rfl, Nat.le_of_ble_eq_true rfl⟩) (kS_env te) hK hP hD hS hA hE [1] [0, 2, 3, 4] [0, 4, 1, 2, 3] rfl rfl (by decide) (by decide) (by decide) (by decide) rfl 1 4 rfl rfl rfl rfl hl.1 rfl (Nat.le_of_ble_eq_true rfl) dX5_rows_9 ⟨Nat.zero_le _, Nat.zero_le _⟩ (fun H locs hP hD hS => ?_)
      show W p l e rmX5_rows s m args below meth c H locs 0 0 Q (F0 m 12 ls [.int r19, .int x15])
      refine lv_icmp_ge (tgt := 37) hx hb dX5_rows_12 (by decide) (fun c21 => ?_) (fun c21 => ?_)
      · replace hf := ifp c21 hf
        obtain rfl := inj1 hf
        exact hX18 _ _ hP hD hS _ (lv_sub hl [1] rfl)
      · replace hf := ifn c21 hf
        refine lv_aload_n hx hb dX5_rows_15 rfl (lv_at hl 0 rfl) ?_
        refine lv_iload_n hx hb dX5_rows_16 rfl (lv_at hl 2 rfl) ?_
        obtain ⟨r22, hg23, hf⟩ := bd1_some hf
        refine CM_callS (As := [.ref h_p1, .int x15]) (rest := []) (wc := [(h_p1, .inr (1, fX1 h_p1_surfaces h_p1_cliffs h_p1_boulders h_p1_scratches h_p1_numbers h_p1_facts h_p1_signs h_p1_areas h_p1_heights p1_ridges)), (h_p1_scratches, .inr (4, fX4 p1_scratches_limit h_p1_scratches_cells p1_scratches_size)), (h_p1_scratches_cells, .inl (cI, n_p1_scratches_cells, .inl p1_scratches_cells))]) (w1 := [(h_p1, .inr (1, fX1 h_p1_surfaces h_p1_cliffs h_p1_boulders h_p1_scratches h_p1_numbers h_p1_facts h_p1_signs h_p1_areas h_p1_heights p1_ridges)), (h_p1_scratches, .inr (4, fX4 p1_scratches_limit h_p1_scratches_cells p1_scratches_size)), (h_p1_scratches_cells, .inl (cI, n_p1_scratches_cells, .inl p1_scratches_cells))]) (wr := [(h_p1_surfaces, .inl (cI, 192, .inl p1_surfaces)), (h_p1_numbers, .inl (cI, 6, .inl p1_numbers))]) (wo := [(h_p1, .inr (1, fX1 h_p1_surfaces h_p1_cliffs h_p1_boulders h_p1_scratches h_p1_numbers h_p1_facts h_p1_signs h_p1_areas h_p1_heights p1_ridges)), (h_p1_scratches, .inr (4, fX4 p1_scratches_limit h_p1_scratches_cells p1_scratches_size)), (h_p1_scratches_cells, .inl (cI, n_p1_scratches_cells, .inl p1_scratches_cells)), (h_p1_surfaces, .inl (cI, 192, .inl p1_surfaces)), (h_p1_numbers, .inl (cI, 6, .inl p1_numbers))]) (v := (some (.int r22))) ⟨hx, hb, hml, hown, hts⟩ (c_X5_isFirstAtItsPlace l dC dI cI cZ te h_p1 h_p1_surfaces h_p1_cliffs h_p1_boulders h_p1_scratches h_p1_numbers h_p1_facts h_p1_signs h_p1_areas h_p1_heights h_p1_scratches_cells p1_ridges p1_scratches_limit p1_scratches_size n_p1_scratches_cells p1_scratches_cells x15 r22 hg23) (va_cwS 2 hts gX5_rows_X5_isFirstAtItsPlace rfl rfl rfl (by decide +kernel) ⟨Nat.le_of_ble_eq_true rfl, Nat.le_of_ble_eq_true rfl⟩) (kS_env te) hK hP hD hS hA hE [0, 1, 2] [3, 4] [2, 3, 4, 0, 1] rfl rfl (by decide) (by decide) (by decide) (by decide) rfl rfl hl.1 rfl (Nat.le_of_ble_eq_true rfl) dX5_rows_17 ⟨Nat.zero_le _, Nat.zero_le _⟩ (fun H locs hP hD hS => ?_)
        show W p l e rmX5_rows s m args below meth c H locs 0 0 Q (F0 m 20 ls [.int r22])
        refine lv_if_eq (tgt := 31) hx hb dX5_rows_20 (by decide) (fun c24 => ?_) (fun c24 => ?_)
        · replace hf := ifp c24 hf
          refine lv_iinc (v := (x15 + (1 : Int32))) (lv' := [(2, .int (x15 + (1 : Int32))), (0, .ref h_p1), (1, .int x14)]) hx hb dX5_rows_31 hl (k := 2) rfl rfl (by decide) rfl (fun ls hl => ?_)
          refine lv_goto (tgt := 4) hx hb dX5_rows_34 (by decide) ?_
          exact ih16 _ _ _ hf hX18 _ _ hP hD hS _ (lv_sub hl [1, 2, 0] rfl)
        · replace hf := ifn c24 hf
          refine lv_iload_n hx hb dX5_rows_23 rfl (lv_at hl 1 rfl) ?_
          refine lv_aload_n hx hb dX5_rows_24 rfl (lv_at hl 0 rfl) ?_
          refine lv_iload_n hx hb dX5_rows_25 rfl (lv_at hl 2 rfl) ?_
          obtain ⟨r25, hg26, hf⟩ := bd1_some hf
          refine CM_callS (As := [.ref h_p1, .int x15]) (rest := [.int x14]) (wc := [(h_p1, .inr (1, fX1 h_p1_surfaces h_p1_cliffs h_p1_boulders h_p1_scratches h_p1_numbers h_p1_facts h_p1_signs h_p1_areas h_p1_heights p1_ridges)), (h_p1_scratches, .inr (4, fX4 p1_scratches_limit h_p1_scratches_cells p1_scratches_size)), (h_p1_scratches_cells, .inl (cI, n_p1_scratches_cells, .inl p1_scratches_cells)), (h_p1_surfaces, .inl (cI, 192, .inl p1_surfaces)), (h_p1_numbers, .inl (cI, 6, .inl p1_numbers))]) (w1 := [(h_p1, .inr (1, fX1 h_p1_surfaces h_p1_cliffs h_p1_boulders h_p1_scratches h_p1_numbers h_p1_facts h_p1_signs h_p1_areas h_p1_heights p1_ridges)), (h_p1_scratches, .inr (4, fX4 p1_scratches_limit h_p1_scratches_cells p1_scratches_size)), (h_p1_scratches_cells, .inl (cI, n_p1_scratches_cells, .inl p1_scratches_cells)), (h_p1_surfaces, .inl (cI, 192, .inl p1_surfaces)), (h_p1_numbers, .inl (cI, 6, .inl p1_numbers))]) (wr := []) (wo := [(h_p1, .inr (1, fX1 h_p1_surfaces h_p1_cliffs h_p1_boulders h_p1_scratches h_p1_numbers h_p1_facts h_p1_signs h_p1_areas h_p1_heights p1_ridges)), (h_p1_scratches, .inr (4, fX4 p1_scratches_limit h_p1_scratches_cells p1_scratches_size)), (h_p1_scratches_cells, .inl (cI, n_p1_scratches_cells, .inl p1_scratches_cells)), (h_p1_surfaces, .inl (cI, 192, .inl p1_surfaces)), (h_p1_numbers, .inl (cI, 6, .inl p1_numbers))]) (v := (some (.int r25))) ⟨hx, hb, hml, hown, hts⟩ (c_X5_rowsAtPlaceOf l dC dI cI cZ te h_p1 h_p1_surfaces h_p1_cliffs h_p1_boulders h_p1_scratches h_p1_numbers h_p1_facts h_p1_signs h_p1_areas h_p1_heights h_p1_scratches_cells p1_ridges p1_scratches_limit p1_scratches_size n_p1_scratches_cells p1_scratches_cells p1_surfaces p1_numbers x15 r25 hg26) (va_cwS 2 hts gX5_rows_X5_rowsAtPlaceOf rfl rfl rfl (by decide +kernel) ⟨Nat.le_of_ble_eq_true rfl, Nat.le_of_ble_eq_true rfl⟩) (kS_env te) hK hP hD hS hA hE [0, 1, 2, 3, 4] [] [0, 1, 2, 3, 4] rfl rfl (by decide) (by decide) (by decide) (by decide) rfl rfl hl.1 rfl (Nat.le_of_ble_eq_true rfl) dX5_rows_26 ⟨Nat.zero_le _, Nat.zero_le _⟩ (fun H locs hP hD hS => ?_)
          show W p l e rmX5_rows s m args below meth c H locs 0 0 Q (F0 m 29 ls [.int r25, .int x14])
          refine lv_imul hx hb dX5_rows_29 ?_
          obtain ⟨x27, e28, hf⟩ := nm_some hf
          refine lv_tope e28 ?_
          refine lv_istore_n (lv' := [(1, .int x27), (0, .ref h_p1), (2, .int x15)]) hx hb dX5_rows_30 rfl hl (by decide) rfl (fun ls hl => ?_)
          refine lv_iinc (v := (x15 + (1 : Int32))) (lv' := [(2, .int (x15 + (1 : Int32))), (1, .int x27), (0, .ref h_p1)]) hx hb dX5_rows_31 hl (k := 2) rfl rfl (by decide) rfl (fun ls hl => ?_)
          refine lv_goto (tgt := 4) hx hb dX5_rows_34 (by decide) ?_
          exact ih16 _ _ _ hf hX18 _ _ hP hD hS _ (lv_sub hl [2, 1, 0] rfl)
  obtain ⟨x13, hg, hf⟩ := bd1_some hf
  refine L29 FU _ _ _ hg ?_ _ _ hP hD hS _ (lv_sub hl [2, 1, 0] rfl)
  · intro H locs hP hD hS ls hl
    refine lv_iload_n hx hb dX5_rows_37 rfl (lv_at hl 0 rfl) ?_
    obtain rfl := inj1 hf
    subst hQ
    exact CM_iret hx hb hr rfl hlocks hAe hP hD hS dX5_rows_38
def rmX5_stageInFirstRow : Room := { frames := 5, cells := 0, slots := 0, locals := 124 }
set_option maxRecDepth 20000 in
theorem kX5_stageInFirstRow_0 : Cond.methodLink RX5 68 Lib.Math.min.name ∈ wsX5_stageInFirstRow := by decide +kernel
set_option maxRecDepth 20000 in
theorem kX5_stageInFirstRow_1 : Cond.static Lib.Math.min.name ∈ wsX5_stageInFirstRow := by decide +kernel
set_option maxRecDepth 20000 in
theorem kX5_stageInFirstRow_2 : Cond.initialized "java/lang/Math" ∈ wsX5_stageInFirstRow := by decide +kernel
set_option maxRecDepth 20000 in
theorem kX5_stageInFirstRow_3 : Cond.code Lib.Math.min.name Lib.Math.min.code 2 (some .int) ∈ wsX5_stageInFirstRow := by decide +kernel
set_option maxHeartbeats 4000000 in
set_option maxRecDepth 100000 in
theorem c_X5_stageInFirstRow (l : Launch) (dC : Nat → ClassId) (dI : Nat → Nat → Nat) (cI cZ : ClassId) (te : Nat → Nat) (h_p1 : Nat) (h_p1_surfaces : Nat) (h_p1_cliffs : Nat) (h_p1_boulders : Nat) (h_p1_scratches : Nat) (h_p1_numbers : Nat) (h_p1_facts : Nat) (h_p1_signs : Nat) (h_p1_areas : Nat) (h_p1_heights : Nat) (h_p1_scratches_cells : Nat) (p1_ridges : Int32) (p1_scratches_limit : Int32) (p1_scratches_size : Int32) (n_p1_scratches_cells : Nat) (p1_scratches_cells : Nat → Int32) (p1_surfaces : Nat → Int32) (p1_numbers : Nat → Int32) (p2 : Int32) (o0 : Int32) (hf : f_X5_stageInFirstRow p1_scratches_size n_p1_scratches_cells p1_scratches_cells p1_surfaces p1_numbers p2 = some o0) : CM l yX5_stageInFirstRow wsX5_stageInFirstRow rmX5_stageInFirstRow (kS te) dC dI cI cZ [.ref h_p1, .int p2] [(h_p1, .inr (1, fX1 h_p1_surfaces h_p1_cliffs h_p1_boulders h_p1_scratches h_p1_numbers h_p1_facts h_p1_signs h_p1_areas h_p1_heights p1_ridges)), (h_p1_scratches, .inr (4, fX4 p1_scratches_limit h_p1_scratches_cells p1_scratches_size)), (h_p1_scratches_cells, .inl (cI, n_p1_scratches_cells, .inl p1_scratches_cells)), (h_p1_surfaces, .inl (cI, 192, .inl p1_surfaces)), (h_p1_numbers, .inl (cI, 6, .inl p1_numbers))] [(h_p1, .inr (1, fX1 h_p1_surfaces h_p1_cliffs h_p1_boulders h_p1_scratches h_p1_numbers h_p1_facts h_p1_signs h_p1_areas h_p1_heights p1_ridges)), (h_p1_scratches, .inr (4, fX4 p1_scratches_limit h_p1_scratches_cells p1_scratches_size)), (h_p1_scratches_cells, .inl (cI, n_p1_scratches_cells, .inl p1_scratches_cells)), (h_p1_surfaces, .inl (cI, 192, .inl p1_surfaces)), (h_p1_numbers, .inl (cI, 6, .inl p1_numbers))] (some (.int o0)) := by
  refine CM_of (cc := cX5_stageInFirstRow) (maxL := 5) (ret := (some .int)) (by decide +kernel) rfl (Nat.le_of_ble_eq_true rfl) ?_
  intro p e s m args below meth c A Q hx hb hr hml hown hts hlocks hA hK hP hD hS hE hQ hAe ls hl
  have hown : s.vm.findClass RX5 = some m.cls := hown
  have hl : lv_has ls 5 [(0, .ref h_p1), (1, .int p2)] := hl
  unfold f_X5_stageInFirstRow at hf
  refine lv_aload_n hx hb dX5_stageInFirstRow_0 rfl (lv_at hl 0 rfl) ?_
  obtain ⟨r1, hg2, hf⟩ := bd1_some hf
  refine CM_callS (As := [.ref h_p1]) (rest := []) (wc := [(h_p1, .inr (1, fX1 h_p1_surfaces h_p1_cliffs h_p1_boulders h_p1_scratches h_p1_numbers h_p1_facts h_p1_signs h_p1_areas h_p1_heights p1_ridges)), (h_p1_scratches, .inr (4, fX4 p1_scratches_limit h_p1_scratches_cells p1_scratches_size)), (h_p1_scratches_cells, .inl (cI, n_p1_scratches_cells, .inl p1_scratches_cells)), (h_p1_surfaces, .inl (cI, 192, .inl p1_surfaces)), (h_p1_numbers, .inl (cI, 6, .inl p1_numbers))]) (w1 := [(h_p1, .inr (1, fX1 h_p1_surfaces h_p1_cliffs h_p1_boulders h_p1_scratches h_p1_numbers h_p1_facts h_p1_signs h_p1_areas h_p1_heights p1_ridges)), (h_p1_scratches, .inr (4, fX4 p1_scratches_limit h_p1_scratches_cells p1_scratches_size)), (h_p1_scratches_cells, .inl (cI, n_p1_scratches_cells, .inl p1_scratches_cells)), (h_p1_surfaces, .inl (cI, 192, .inl p1_surfaces)), (h_p1_numbers, .inl (cI, 6, .inl p1_numbers))]) (wr := []) (wo := [(h_p1, .inr (1, fX1 h_p1_surfaces h_p1_cliffs h_p1_boulders h_p1_scratches h_p1_numbers h_p1_facts h_p1_signs h_p1_areas h_p1_heights p1_ridges)), (h_p1_scratches, .inr (4, fX4 p1_scratches_limit h_p1_scratches_cells p1_scratches_size)), (h_p1_scratches_cells, .inl (cI, n_p1_scratches_cells, .inl p1_scratches_cells)), (h_p1_surfaces, .inl (cI, 192, .inl p1_surfaces)), (h_p1_numbers, .inl (cI, 6, .inl p1_numbers))]) (v := (some (.int r1))) ⟨hx, hb, hml, hown, hts⟩ (c_X5_rows l dC dI cI cZ te h_p1 h_p1_surfaces h_p1_cliffs h_p1_boulders h_p1_scratches h_p1_numbers h_p1_facts h_p1_signs h_p1_areas h_p1_heights h_p1_scratches_cells p1_ridges p1_scratches_limit p1_scratches_size n_p1_scratches_cells p1_scratches_cells p1_surfaces p1_numbers r1 hg2) (va_cwS 1 hts gX5_stageInFirstRow_X5_rows rfl rfl rfl (by decide +kernel) ⟨Nat.le_of_ble_eq_true rfl, Nat.le_of_ble_eq_true rfl⟩) (kS_env te) hK hP hD hS hA hE [0, 1, 2, 3, 4] [] [0, 1, 2, 3, 4] rfl rfl (by decide) (by decide) (by decide) (by decide) rfl rfl hl.1 rfl (Nat.le_of_ble_eq_true rfl) dX5_stageInFirstRow_1 ⟨Nat.zero_le _, Nat.zero_le _⟩ (fun H locs hP hD hS => ?_)
  show W p l e rmX5_stageInFirstRow s m args below meth c H locs 0 0 Q (F0 m 4 ls [.int r1])
  refine lv_if_ne (tgt := 9) hx hb dX5_stageInFirstRow_4 (by decide) (fun c3 => ?_) (fun c3 => ?_)
  · replace hf := ifn c3 hf
    refine lv_iconst (v := (0 : Int32)) hx hb dX5_stageInFirstRow_9 (by decide) ?_
    refine lv_istore_n (lv' := [(2, .int (0 : Int32)), (0, .ref h_p1), (1, .int p2)]) hx hb dX5_stageInFirstRow_10 rfl hl (by decide) rfl (fun ls hl => ?_)
    refine lv_iconst (v := (0 : Int32)) hx hb dX5_stageInFirstRow_11 (by decide) ?_
    refine lv_istore_n (lv' := [(3, .int (0 : Int32)), (2, .int (0 : Int32)), (0, .ref h_p1), (1, .int p2)]) hx hb dX5_stageInFirstRow_12 rfl hl (by decide) rfl (fun ls hl => ?_)
    have L36 : ∀ (fu22 : Nat) (x19 : Int32) (x20 : Int32) (x18 : Int32), f_X5_stageInFirstRow_L1 p2 p1_scratches_size n_p1_scratches_cells p1_scratches_cells p1_surfaces p1_numbers fu22 x19 x20 = some x18 → (∀ (H : Heap) (locs : List Loc), va_P (dC, dI) vwCl [(h_p1, .inr (1, fX1 h_p1_surfaces h_p1_cliffs h_p1_boulders h_p1_scratches h_p1_numbers h_p1_facts h_p1_signs h_p1_areas h_p1_heights p1_ridges)), (h_p1_scratches, .inr (4, fX4 p1_scratches_limit h_p1_scratches_cells p1_scratches_size)), (h_p1_scratches_cells, .inl (cI, n_p1_scratches_cells, .inl p1_scratches_cells)), (h_p1_surfaces, .inl (cI, 192, .inl p1_surfaces)), (h_p1_numbers, .inl (cI, 6, .inl p1_numbers))] H → va_D A [(h_p1, .inr (1, fX1 h_p1_surfaces h_p1_cliffs h_p1_boulders h_p1_scratches h_p1_numbers h_p1_facts h_p1_signs h_p1_areas h_p1_heights p1_ridges)), (h_p1_scratches, .inr (4, fX4 p1_scratches_limit h_p1_scratches_cells p1_scratches_size)), (h_p1_scratches_cells, .inl (cI, n_p1_scratches_cells, .inl p1_scratches_cells)), (h_p1_surfaces, .inl (cI, 192, .inl p1_surfaces)), (h_p1_numbers, .inl (cI, 6, .inl p1_numbers))] → va_S A s.heap H locs → ∀ ls : Array Slot, lv_has ls 5 [(2, .int x18)] → W p l e rmX5_stageInFirstRow s m args below meth c H locs 0 0 Q (F0 m 54 ls [])) → ∀ (H : Heap) (locs : List Loc), va_P (dC, dI) vwCl [(h_p1, .inr (1, fX1 h_p1_surfaces h_p1_cliffs h_p1_boulders h_p1_scratches h_p1_numbers h_p1_facts h_p1_signs h_p1_areas h_p1_heights p1_ridges)), (h_p1_scratches, .inr (4, fX4 p1_scratches_limit h_p1_scratches_cells p1_scratches_size)), (h_p1_scratches_cells, .inl (cI, n_p1_scratches_cells, .inl p1_scratches_cells)), (h_p1_surfaces, .inl (cI, 192, .inl p1_surfaces)), (h_p1_numbers, .inl (cI, 6, .inl p1_numbers))] H → va_D A [(h_p1, .inr (1, fX1 h_p1_surfaces h_p1_cliffs h_p1_boulders h_p1_scratches h_p1_numbers h_p1_facts h_p1_signs h_p1_areas h_p1_heights p1_ridges)), (h_p1_scratches, .inr (4, fX4 p1_scratches_limit h_p1_scratches_cells p1_scratches_size)), (h_p1_scratches_cells, .inl (cI, n_p1_scratches_cells, .inl p1_scratches_cells)), (h_p1_surfaces, .inl (cI, 192, .inl p1_surfaces)), (h_p1_numbers, .inl (cI, 6, .inl p1_numbers))] → va_S A s.heap H locs → ∀ ls : Array Slot, lv_has ls 5 [(0, .ref h_p1), (1, .int p2), (2, .int x19), (3, .int x20)] → W p l e rmX5_stageInFirstRow s m args below meth c H locs 0 0 Q (F0 m 13 ls []) := by
      intro fu22
      induction fu22 with
      | zero =>
        intro x19 x20 x18 hf
        unfold f_X5_stageInFirstRow_L1 at hf
        exact none_ne hf
      | succ fu22 ih21 =>
        intro x19 x20 x18 hf hX23 H locs hP hD hS ls hl
        unfold f_X5_stageInFirstRow_L1 at hf
        refine lv_iload_n hx hb dX5_stageInFirstRow_13 rfl (lv_at hl 3 rfl) ?_
        refine lv_iload_n hx hb dX5_stageInFirstRow_14 rfl (lv_at hl 1 rfl) ?_
        refine lv_icmp_gt (tgt := 54) hx hb dX5_stageInFirstRow_15 (by decide) (fun c24 => ?_) (fun c24 => ?_)
        · replace hf := ifp c24 hf
          obtain rfl := inj1 hf
          exact hX23 _ _ hP hD hS _ (lv_sub hl [2] rfl)
        · replace hf := ifn c24 hf
          refine lv_aload_n hx hb dX5_stageInFirstRow_18 rfl (lv_at hl 0 rfl) ?_
          refine lv_iload_n hx hb dX5_stageInFirstRow_19 rfl (lv_at hl 3 rfl) ?_
          refine lv_iload_n hx hb dX5_stageInFirstRow_20 rfl (lv_at hl 1 rfl) ?_
          obtain ⟨r25, hg26, hf⟩ := bd1_some hf
          refine CM_callS (As := [.ref h_p1, .int x20, .int p2]) (rest := []) (wc := [(h_p1, .inr (1, fX1 h_p1_surfaces h_p1_cliffs h_p1_boulders h_p1_scratches h_p1_numbers h_p1_facts h_p1_signs h_p1_areas h_p1_heights p1_ridges)), (h_p1_scratches, .inr (4, fX4 p1_scratches_limit h_p1_scratches_cells p1_scratches_size)), (h_p1_scratches_cells, .inl (cI, n_p1_scratches_cells, .inl p1_scratches_cells))]) (w1 := [(h_p1, .inr (1, fX1 h_p1_surfaces h_p1_cliffs h_p1_boulders h_p1_scratches h_p1_numbers h_p1_facts h_p1_signs h_p1_areas h_p1_heights p1_ridges)), (h_p1_scratches, .inr (4, fX4 p1_scratches_limit h_p1_scratches_cells p1_scratches_size)), (h_p1_scratches_cells, .inl (cI, n_p1_scratches_cells, .inl p1_scratches_cells))]) (wr := [(h_p1_surfaces, .inl (cI, 192, .inl p1_surfaces)), (h_p1_numbers, .inl (cI, 6, .inl p1_numbers))]) (wo := [(h_p1, .inr (1, fX1 h_p1_surfaces h_p1_cliffs h_p1_boulders h_p1_scratches h_p1_numbers h_p1_facts h_p1_signs h_p1_areas h_p1_heights p1_ridges)), (h_p1_scratches, .inr (4, fX4 p1_scratches_limit h_p1_scratches_cells p1_scratches_size)), (h_p1_scratches_cells, .inl (cI, n_p1_scratches_cells, .inl p1_scratches_cells)), (h_p1_surfaces, .inl (cI, 192, .inl p1_surfaces)), (h_p1_numbers, .inl (cI, 6, .inl p1_numbers))]) (v := (some (.int r25))) ⟨hx, hb, hml, hown, hts⟩ (c_X5_areAtOnePlace l dC dI cI cZ te h_p1 h_p1_surfaces h_p1_cliffs h_p1_boulders h_p1_scratches h_p1_numbers h_p1_facts h_p1_signs h_p1_areas h_p1_heights h_p1_scratches_cells p1_ridges p1_scratches_limit p1_scratches_size n_p1_scratches_cells p1_scratches_cells x20 p2 r25 hg26) (va_cwS 3 hts gX5_stageInFirstRow_X5_areAtOnePlace rfl rfl rfl (by decide +kernel) ⟨Nat.le_of_ble_eq_true rfl, Nat.le_of_ble_eq_true rfl⟩) (kS_env te) hK hP hD hS hA hE [0, 1, 2] [3, 4] [2, 3, 4, 0, 1] rfl rfl (by decide) (by decide) (by decide) (by decide) rfl rfl hl.1 rfl (Nat.le_of_ble_eq_true rfl) dX5_stageInFirstRow_21 ⟨Nat.zero_le _, Nat.zero_le _⟩ (fun H locs hP hD hS => ?_)
          show W p l e rmX5_stageInFirstRow s m args below meth c H locs 0 0 Q (F0 m 24 ls [.int r25])
          refine lv_if_eq (tgt := 48) hx hb dX5_stageInFirstRow_24 (by decide) (fun c27 => ?_) (fun c27 => ?_)
          · replace hf := ifp c27 hf
            refine lv_iinc (v := (x20 + (1 : Int32))) (lv' := [(3, .int (x20 + (1 : Int32))), (0, .ref h_p1), (1, .int p2), (2, .int x19)]) hx hb dX5_stageInFirstRow_48 hl (k := 3) rfl rfl (by decide) rfl (fun ls hl => ?_)
            refine lv_goto (tgt := 13) hx hb dX5_stageInFirstRow_51 (by decide) ?_
            exact ih21 _ _ _ hf hX23 _ _ hP hD hS _ (lv_sub hl [1, 2, 3, 0] rfl)
          · replace hf := ifn c27 hf
            refine lv_aload_n hx hb dX5_stageInFirstRow_27 rfl (lv_at hl 0 rfl) ?_
            refine lv_iload_n hx hb dX5_stageInFirstRow_28 rfl (lv_at hl 3 rfl) ?_
            obtain ⟨r28, hg29, hf⟩ := bd1_some hf
            refine CM_callS (As := [.ref h_p1, .int x20]) (rest := []) (wc := [(h_p1, .inr (1, fX1 h_p1_surfaces h_p1_cliffs h_p1_boulders h_p1_scratches h_p1_numbers h_p1_facts h_p1_signs h_p1_areas h_p1_heights p1_ridges)), (h_p1_scratches, .inr (4, fX4 p1_scratches_limit h_p1_scratches_cells p1_scratches_size)), (h_p1_scratches_cells, .inl (cI, n_p1_scratches_cells, .inl p1_scratches_cells)), (h_p1_surfaces, .inl (cI, 192, .inl p1_surfaces)), (h_p1_numbers, .inl (cI, 6, .inl p1_numbers))]) (w1 := [(h_p1, .inr (1, fX1 h_p1_surfaces h_p1_cliffs h_p1_boulders h_p1_scratches h_p1_numbers h_p1_facts h_p1_signs h_p1_areas h_p1_heights p1_ridges)), (h_p1_scratches, .inr (4, fX4 p1_scratches_limit h_p1_scratches_cells p1_scratches_size)), (h_p1_scratches_cells, .inl (cI, n_p1_scratches_cells, .inl p1_scratches_cells)), (h_p1_surfaces, .inl (cI, 192, .inl p1_surfaces)), (h_p1_numbers, .inl (cI, 6, .inl p1_numbers))]) (wr := []) (wo := [(h_p1, .inr (1, fX1 h_p1_surfaces h_p1_cliffs h_p1_boulders h_p1_scratches h_p1_numbers h_p1_facts h_p1_signs h_p1_areas h_p1_heights p1_ridges)), (h_p1_scratches, .inr (4, fX4 p1_scratches_limit h_p1_scratches_cells p1_scratches_size)), (h_p1_scratches_cells, .inl (cI, n_p1_scratches_cells, .inl p1_scratches_cells)), (h_p1_surfaces, .inl (cI, 192, .inl p1_surfaces)), (h_p1_numbers, .inl (cI, 6, .inl p1_numbers))]) (v := (some (.int r28))) ⟨hx, hb, hml, hown, hts⟩ (c_X5_stagesOf l dC dI cI cZ te h_p1 h_p1_surfaces h_p1_cliffs h_p1_boulders h_p1_scratches h_p1_numbers h_p1_facts h_p1_signs h_p1_areas h_p1_heights h_p1_scratches_cells p1_ridges p1_scratches_limit p1_scratches_size n_p1_scratches_cells p1_scratches_cells p1_surfaces p1_numbers x20 r28 hg29) (va_cwS 2 hts gX5_stageInFirstRow_X5_stagesOf rfl rfl rfl (by decide +kernel) ⟨Nat.le_of_ble_eq_true rfl, Nat.le_of_ble_eq_true rfl⟩) (kS_env te) hK hP hD hS hA hE [0, 1, 2, 3, 4] [] [0, 1, 2, 3, 4] rfl rfl (by decide) (by decide) (by decide) (by decide) rfl rfl hl.1 rfl (Nat.le_of_ble_eq_true rfl) dX5_stageInFirstRow_29 ⟨Nat.zero_le _, Nat.zero_le _⟩ (fun H locs hP hD hS => ?_)
            show W p l e rmX5_stageInFirstRow s m args below meth c H locs 0 0 Q (F0 m 32 ls [.int r28])
            refine lv_iload_n hx hb dX5_stageInFirstRow_32 rfl (lv_at hl 2 rfl) ?_
            refine lv_ishr hx hb dX5_stageInFirstRow_33 ?_
            refine lv_iload_n hx hb dX5_stageInFirstRow_34 rfl (lv_at hl 2 rfl) ?_
            refine lv_ishl hx hb dX5_stageInFirstRow_35 ?_
            obtain ⟨x30, e31, hf⟩ := nm_some hf
            refine lv_tope e31 ?_
            refine lv_istore (lv' := [(4, .int x30), (0, .ref h_p1), (1, .int p2), (2, .int x19), (3, .int x20)]) hx hb dX5_stageInFirstRow_36 hl (by decide) rfl (fun ls hl => ?_)
            refine lv_iconst (v := (2 : Int32)) hx hb dX5_stageInFirstRow_38 (by decide) ?_
            refine lv_iload hx hb dX5_stageInFirstRow_39 (lv_at hl 0 rfl) ?_
            obtain ⟨r32, hg33, hf⟩ := bd1_some hf
            refine CM_callS (As := [.int x30]) (rest := [.int (2 : Int32)]) (wc := []) (w1 := []) (wr := [(h_p1, .inr (1, fX1 h_p1_surfaces h_p1_cliffs h_p1_boulders h_p1_scratches h_p1_numbers h_p1_facts h_p1_signs h_p1_areas h_p1_heights p1_ridges)), (h_p1_scratches, .inr (4, fX4 p1_scratches_limit h_p1_scratches_cells p1_scratches_size)), (h_p1_scratches_cells, .inl (cI, n_p1_scratches_cells, .inl p1_scratches_cells)), (h_p1_surfaces, .inl (cI, 192, .inl p1_surfaces)), (h_p1_numbers, .inl (cI, 6, .inl p1_numbers))]) (wo := [(h_p1, .inr (1, fX1 h_p1_surfaces h_p1_cliffs h_p1_boulders h_p1_scratches h_p1_numbers h_p1_facts h_p1_signs h_p1_areas h_p1_heights p1_ridges)), (h_p1_scratches, .inr (4, fX4 p1_scratches_limit h_p1_scratches_cells p1_scratches_size)), (h_p1_scratches_cells, .inl (cI, n_p1_scratches_cells, .inl p1_scratches_cells)), (h_p1_surfaces, .inl (cI, 192, .inl p1_surfaces)), (h_p1_numbers, .inl (cI, 6, .inl p1_numbers))]) (v := (some (.int r32))) ⟨hx, hb, hml, hown, hts⟩ (c_J6_numberOfTrailingZeros_0f7a4 l dC dI cI cZ te x30 r32 hg33) (va_cwS 1 hts gX5_stageInFirstRow_J6_numberOfTrailingZeros_0f7a4 rfl rfl rfl (by decide +kernel) ⟨Nat.le_of_ble_eq_true rfl, Nat.le_of_ble_eq_true rfl⟩) (kS_env te) hK hP hD hS hA hE [] [0, 1, 2, 3, 4] [0, 1, 2, 3, 4] rfl rfl (by decide) (by decide) (by decide) (by decide) rfl rfl hl.1 rfl (Nat.le_of_ble_eq_true rfl) dX5_stageInFirstRow_41 ⟨Nat.zero_le _, Nat.zero_le _⟩ (fun H locs hP hD hS => ?_)
            show W p l e rmX5_stageInFirstRow s m args below meth c H locs 0 0 Q (F0 m 44 ls [.int r32, .int (2 : Int32)])
            refine va_mmin hx hb (hml.trans hl.1.symm) hown (hts _ kX5_stageInFirstRow_0) (hts _ kX5_stageInFirstRow_1) (hts _ kX5_stageInFirstRow_2) (hts _ kX5_stageInFirstRow_3) (Nat.le_of_ble_eq_true rfl) (Nat.le_of_ble_eq_true rfl) (Nat.zero_le _) (Nat.zero_le _) dX5_stageInFirstRow_44 ?_
            obtain ⟨x34, e35, hf⟩ := nm_some hf
            refine lv_tope e35 ?_
            refine lv_istore_n (lv' := [(2, .int x34), (4, .int x30), (0, .ref h_p1), (1, .int p2), (3, .int x20)]) hx hb dX5_stageInFirstRow_47 rfl hl (by decide) rfl (fun ls hl => ?_)
            refine lv_iinc (v := (x20 + (1 : Int32))) (lv' := [(3, .int (x20 + (1 : Int32))), (2, .int x34), (4, .int x30), (0, .ref h_p1), (1, .int p2)]) hx hb dX5_stageInFirstRow_48 hl (k := 4) rfl rfl (by decide) rfl (fun ls hl => ?_)
            refine lv_goto (tgt := 13) hx hb dX5_stageInFirstRow_51 (by decide) ?_
            exact ih21 _ _ _ hf hX23 _ _ hP hD hS _ (lv_sub hl [3, 4, 1, 0] rfl)
    obtain ⟨x18, hg, hf⟩ := bd1_some hf
    refine L36 FU _ _ _ hg ?_ _ _ hP hD hS _ (lv_sub hl [2, 3, 1, 0] rfl)
    · intro H locs hP hD hS ls hl
      refine lv_iload_n hx hb dX5_stageInFirstRow_54 rfl (lv_at hl 0 rfl) ?_
      obtain rfl := inj1 hf
      subst hQ
      exact CM_iret hx hb hr rfl hlocks hAe hP hD hS dX5_stageInFirstRow_55
  · replace hf := ifp c3 hf
    refine lv_iconst (v := (-1 : Int32)) hx hb dX5_stageInFirstRow_7 (by decide) ?_
    obtain rfl := inj1 hf
    subst hQ
    exact CM_iret hx hb hr rfl hlocks hAe hP hD hS dX5_stageInFirstRow_8
def rmX6_size : Room := { frames := 0, cells := 0, slots := 0, locals := 0 }
set_option maxRecDepth 20000 in
theorem kX6_size_0 : ∀ w ∈ u_ws RX6 TX6 7, w ∈ wsX6_size := by decide +kernel
set_option maxRecDepth 20000 in
theorem kX6_size_1 : Cond.fieldLink RX6 18 "StoneRiver$Text" "size" "I" ∈ wsX6_size := by decide +kernel
set_option maxHeartbeats 4000000 in
set_option maxRecDepth 100000 in
theorem c_X6_size (l : Launch) (dC : Nat → ClassId) (dI : Nat → Nat → Nat) (cI cZ : ClassId) (te : Nat → Nat) (h_t : Nat) (h_t_bytes : Nat) (h_t_numbers : Nat) (t_size : Int32) (t_start : Int32) (t_value : Int32) (t_next : Int32) (t_word : Int32) (o0 : Int32) (hf : f_X6_size t_size = some o0) : CM l yX6_size wsX6_size rmX6_size (kS te) dC dI cI cZ [.ref h_t] [(h_t, .inr (5, fX6 h_t_bytes t_size t_start t_value t_next t_word h_t_numbers))] [(h_t, .inr (5, fX6 h_t_bytes t_size t_start t_value t_next t_word h_t_numbers))] (some (.int o0)) := by
  refine CM_of (cc := cX6_size) (maxL := 1) (ret := (some .int)) (by decide +kernel) rfl (Nat.le_of_ble_eq_true rfl) ?_
  intro p e s m args below meth c A Q hx hb hr hml hown hts hlocks hA hK hP hD hS hE hQ hAe ls hl
  have hown : s.vm.findClass RX6 = some m.cls := hown
  have hl : lv_has ls 1 [(0, .ref h_t)] := hl
  unfold f_X6_size at hf
  refine lv_aload_n hx hb dX6_size_0 rfl (lv_at hl 0 rfl) ?_
  refine va_get (D := (dC, dI)) (ci := 5) (v := .int t_size) (C := RX6) (T := TX6) (N := 7) hx hb hts kX6_size_0 hown hK hP 0 rfl rfl 1 (by decide) (hts _ kX6_size_1) (fun _ h9 => h9) rfl dX6_size_1 ?_
  obtain rfl := inj1 hf
  subst hQ
  exact CM_iret hx hb hr rfl hlocks hAe hP hD hS dX6_size_4
def rmX6_empty : Room := { frames := 0, cells := 0, slots := 0, locals := 0 }
set_option maxRecDepth 20000 in
theorem kX6_empty_0 : ∀ w ∈ u_ws RX6 TX6 7, w ∈ wsX6_empty := by decide +kernel
set_option maxRecDepth 20000 in
theorem kX6_empty_1 : Cond.fieldLink RX6 18 "StoneRiver$Text" "size" "I" ∈ wsX6_empty := by decide +kernel
set_option maxHeartbeats 4000000 in
set_option maxRecDepth 100000 in
theorem c_X6_empty (l : Launch) (dC : Nat → ClassId) (dI : Nat → Nat → Nat) (cI cZ : ClassId) (te : Nat → Nat) (h_t : Nat) (h_t_bytes : Nat) (h_t_numbers : Nat) (t_size : Int32) (t_start : Int32) (t_value : Int32) (t_next : Int32) (t_word : Int32) (o0 : Int32) (hf : f_X6_empty = some o0) : CM l yX6_empty wsX6_empty rmX6_empty (kS te) dC dI cI cZ [.ref h_t] [(h_t, .inr (5, fX6 h_t_bytes t_size t_start t_value t_next t_word h_t_numbers))] [(h_t, .inr (5, fX6 h_t_bytes o0 t_start t_value t_next t_word h_t_numbers))] none := by
  refine CM_of (cc := cX6_empty) (maxL := 1) (ret := none) (by decide +kernel) rfl (Nat.le_of_ble_eq_true rfl) ?_
  intro p e s m args below meth c A Q hx hb hr hml hown hts hlocks hA hK hP hD hS hE hQ hAe ls hl
  have hown : s.vm.findClass RX6 = some m.cls := hown
  have hl : lv_has ls 1 [(0, .ref h_t)] := hl
  unfold f_X6_empty at hf
  refine lv_aload_n hx hb dX6_empty_0 rfl (lv_at hl 0 rfl) ?_
  refine lv_iconst (v := (0 : Int32)) hx hb dX6_empty_1 (by decide) ?_
  refine va_put (D := (dC, dI)) (ci := 5) (v := .int (0 : Int32)) (ty := tyX6 1) (C := RX6) (T := TX6) (N := 7) hx hb hts kX6_empty_0 tyX6 tyX6_ok nmX6 hown hK hP hD hS 0 rfl rfl 1 (by decide) (hts _ kX6_empty_1) (fun _ h9 => h9) rfl (tyX6_ok 1 (by decide)) rfl rfl (Nat.le_of_ble_eq_true rfl) dX6_empty_2 (fun H locs hP hD hS => ?_)
  have hP : va_P (dC, dI) vwCl [(h_t, .inr (5, fX6 h_t_bytes (0 : Int32) t_start t_value t_next t_word h_t_numbers))] H := hP
  have hD : va_D A [(h_t, .inr (5, fX6 h_t_bytes (0 : Int32) t_start t_value t_next t_word h_t_numbers))] := hD
  obtain rfl := inj1 hf
  subst hQ
  exact CM_vret hx hb hr hlocks hAe hP hD hS dX6_empty_5
def rmX6_append : Room := { frames := 0, cells := 0, slots := 0, locals := 0 }
set_option maxRecDepth 20000 in
theorem kX6_append_0 : ∀ w ∈ u_ws RX6 TX6 7, w ∈ wsX6_append := by decide +kernel
set_option maxRecDepth 20000 in
theorem kX6_append_1 : Cond.fieldLink RX6 18 "StoneRiver$Text" "size" "I" ∈ wsX6_append := by decide +kernel
set_option maxRecDepth 20000 in
theorem kX6_append_2 : Cond.fieldLink RX6 11 "StoneRiver$Text" "bytes" "[I" ∈ wsX6_append := by decide +kernel
set_option maxRecDepth 20000 in
theorem kX6_append_3 : Cond.constantLong RX6 22 (255) ∈ wsX6_append := by decide +kernel
set_option maxHeartbeats 4000000 in
set_option maxRecDepth 100000 in
theorem c_X6_append (l : Launch) (dC : Nat → ClassId) (dI : Nat → Nat → Nat) (cI cZ : ClassId) (te : Nat → Nat) (h_t : Nat) (h_t_bytes : Nat) (h_t_numbers : Nat) (t_size : Int32) (t_start : Int32) (t_value : Int32) (t_next : Int32) (t_word : Int32) (t_bytes : Nat → Int32) (p1 : Int64) (p2 : Int32) (o0 : Int32) (o1 : Int32) (o2 : Nat → Int32) (hf : f_X6_append t_size t_bytes p1 p2 = some (o0, o1, o2)) : CM l yX6_append wsX6_append rmX6_append (kS te) dC dI cI cZ [.ref h_t, .long p1, .int p2] [(h_t, .inr (5, fX6 h_t_bytes t_size t_start t_value t_next t_word h_t_numbers)), (h_t_bytes, .inl (cI, 240, .inl t_bytes))] [(h_t, .inr (5, fX6 h_t_bytes o1 t_start t_value t_next t_word h_t_numbers)), (h_t_bytes, .inl (cI, 240, .inl o2))] (some (.int o0)) := by
  refine CM_of (cc := cX6_append) (maxL := 5) (ret := (some .int)) (by decide +kernel) rfl (Nat.le_of_ble_eq_true rfl) ?_
  intro p e s m args below meth c A Q hx hb hr hml hown hts hlocks hA hK hP hD hS hE hQ hAe ls hl
  have hown : s.vm.findClass RX6 = some m.cls := hown
  have hl : lv_has ls 5 [(0, .ref h_t), (1, .long p1), (3, .int p2)] := hl
  unfold f_X6_append at hf
  refine lv_iload_n hx hb dX6_append_0 rfl (lv_at hl 2 rfl) ?_
  refine lv_sipush (v := (240 : Int32)) hx hb dX6_append_1 (by decide) ?_
  refine lv_aload_n hx hb dX6_append_4 rfl (lv_at hl 0 rfl) ?_
  refine va_get (D := (dC, dI)) (ci := 5) (v := .int t_size) (C := RX6) (T := TX6) (N := 7) hx hb hts kX6_append_0 hown hK hP 0 rfl rfl 1 (by decide) (hts _ kX6_append_1) (fun _ h9 => h9) rfl dX6_append_5 ?_
  refine lv_isub hx hb dX6_append_8 ?_
  refine lv_icmp_le (tgt := 15) hx hb dX6_append_9 (by decide) (fun c1 => ?_) (fun c1 => ?_)
  · replace hf := ifp c1 hf
    refine lv_bipush (v := (8 : Int32)) hx hb dX6_append_15 (by decide) ?_
    refine lv_iload_n hx hb dX6_append_17 rfl (lv_at hl 2 rfl) ?_
    refine lv_iconst (v := (1 : Int32)) hx hb dX6_append_18 (by decide) ?_
    refine lv_isub hx hb dX6_append_19 ?_
    refine lv_imul hx hb dX6_append_20 ?_
    obtain ⟨x2, e3, hf⟩ := nm_some hf
    refine lv_tope e3 ?_
    refine lv_istore (lv' := [(4, .int x2), (0, .ref h_t), (1, .long p1), (3, .int p2)]) hx hb dX6_append_21 hl (by decide) rfl (fun ls hl => ?_)
    have L31 : ∀ (fu21 : Nat) (y17 : Nat → Int32) (x18 : Int32) (x19 : Int32) (y15 : Nat → Int32) (x16 : Int32), f_X6_append_L1 p1 fu21 y17 x18 x19 = some (y15, x16) → (∀ (H : Heap) (locs : List Loc), va_P (dC, dI) vwCl [(h_t, .inr (5, fX6 h_t_bytes x16 t_start t_value t_next t_word h_t_numbers)), (h_t_bytes, .inl (cI, 240, .inl y15))] H → va_D A [(h_t, .inr (5, fX6 h_t_bytes x16 t_start t_value t_next t_word h_t_numbers)), (h_t_bytes, .inl (cI, 240, .inl y15))] → va_S A s.heap H locs → ∀ ls : Array Slot, lv_has ls 5 [(0, .ref h_t)] → W p l e rmX6_append s m args below meth c H locs 0 0 Q (F0 m 62 ls [])) → ∀ (H : Heap) (locs : List Loc), va_P (dC, dI) vwCl [(h_t, .inr (5, fX6 h_t_bytes x18 t_start t_value t_next t_word h_t_numbers)), (h_t_bytes, .inl (cI, 240, .inl y17))] H → va_D A [(h_t, .inr (5, fX6 h_t_bytes x18 t_start t_value t_next t_word h_t_numbers)), (h_t_bytes, .inl (cI, 240, .inl y17))] → va_S A s.heap H locs → ∀ ls : Array Slot, lv_has ls 5 [(0, .ref h_t), (1, .long p1), (4, .int x19)] → W p l e rmX6_append s m args below meth c H locs 0 0 Q (F0 m 23 ls []) := by
      intro fu21
      induction fu21 with
      | zero =>
        intro y17 x18 x19 y15 x16 hf
        unfold f_X6_append_L1 at hf
        exact none_ne hf
      | succ fu21 ih20 =>
        intro y17 x18 x19 y15 x16 hf hX22 H locs hP hD hS ls hl
        unfold f_X6_append_L1 at hf
        refine lv_iload hx hb dX6_append_23 (lv_at hl 2 rfl) ?_
        refine lv_if_lt (tgt := 62) hx hb dX6_append_25 (by decide) (fun c23 => ?_) (fun c23 => ?_)
        · replace hf := ifp c23 hf
          obtain ⟨rfl, rfl⟩ := inj2 hf
          exact hX22 _ _ hP hD hS _ (lv_sub hl [0] rfl)
        · replace hf := ifn c23 hf
          refine lv_aload_n hx hb dX6_append_28 rfl (lv_at hl 0 rfl) ?_
          refine va_get (D := (dC, dI)) (ci := 5) (v := .ref h_t_bytes) (C := RX6) (T := TX6) (N := 7) hx hb hts kX6_append_0 hown hK hP 0 rfl rfl 0 (by decide) (hts _ kX6_append_2) (fun _ h9 => h9) rfl dX6_append_29 ?_
          refine lv_aload_n hx hb dX6_append_32 rfl (lv_at hl 0 rfl) ?_
          refine va_get (D := (dC, dI)) (ci := 5) (v := .int x18) (C := RX6) (T := TX6) (N := 7) hx hb hts kX6_append_0 hown hK hP 0 rfl rfl 1 (by decide) (hts _ kX6_append_1) (fun _ h9 => h9) rfl dX6_append_33 ?_
          refine lv_lload_n hx hb dX6_append_36 rfl (lv_at hl 1 rfl) ?_
          refine lv_iload hx hb dX6_append_37 (lv_at hl 2 rfl) ?_
          refine lv_lshr hx hb dX6_append_39 rfl ?_
          refine lv_ldc2 (v := (255 : Int64)) hx hb hown (hts _ kX6_append_3) dX6_append_40 ?_
          refine lv_land hx hb dX6_append_43 ?_
          refine lv_l2i hx hb dX6_append_44 rfl ?_
          obtain ⟨x24, e25, hf⟩ := nm_some hf
          refine lv_tope e25 ?_
          obtain ⟨g26, hf⟩ := chk_some hf
          obtain ⟨y27, e28, hf⟩ := nm_some hf
          refine va_iast hx hb hK hP hD hS 1 0 rfl rfl (gin_in g26) dX6_append_45 (fun H locs hP hD hS => ?_)
          have hP : va_P (dC, dI) vwCl [(h_t, .inr (5, fX6 h_t_bytes x18 t_start t_value t_next t_word h_t_numbers)), (h_t_bytes, .inl (cI, 240, .inl y27))] H := by rw [e28]; exact hP
          have hD : va_D A [(h_t, .inr (5, fX6 h_t_bytes x18 t_start t_value t_next t_word h_t_numbers)), (h_t_bytes, .inl (cI, 240, .inl y27))] := by rw [e28]; exact hD
          refine lv_aload_n hx hb dX6_append_46 rfl (lv_at hl 0 rfl) ?_
          refine lv_dup hx hb dX6_append_47 rfl ?_
          refine va_get (D := (dC, dI)) (ci := 5) (v := .int x18) (C := RX6) (T := TX6) (N := 7) hx hb hts kX6_append_0 hown hK hP 0 rfl rfl 1 (by decide) (hts _ kX6_append_1) (fun _ h9 => h9) rfl dX6_append_48 ?_
          refine lv_iconst (v := (1 : Int32)) hx hb dX6_append_51 (by decide) ?_
          refine lv_iadd hx hb dX6_append_52 ?_
          obtain ⟨x29, e30, hf⟩ := nm_some hf
          refine lv_tope e30 ?_
          refine va_put (D := (dC, dI)) (ci := 5) (v := .int x29) (ty := tyX6 1) (C := RX6) (T := TX6) (N := 7) hx hb hts kX6_append_0 tyX6 tyX6_ok nmX6 hown hK hP hD hS 0 rfl rfl 1 (by decide) (hts _ kX6_append_1) (fun _ h9 => h9) rfl (tyX6_ok 1 (by decide)) rfl rfl (Nat.le_of_ble_eq_true rfl) dX6_append_53 (fun H locs hP hD hS => ?_)
          have hP : va_P (dC, dI) vwCl [(h_t, .inr (5, fX6 h_t_bytes x29 t_start t_value t_next t_word h_t_numbers)), (h_t_bytes, .inl (cI, 240, .inl y27))] H := hP
          have hD : va_D A [(h_t, .inr (5, fX6 h_t_bytes x29 t_start t_value t_next t_word h_t_numbers)), (h_t_bytes, .inl (cI, 240, .inl y27))] := hD
          refine lv_iinc (v := (x19 + (-8 : Int32))) (lv' := [(4, .int (x19 + (-8 : Int32))), (0, .ref h_t), (1, .long p1)]) hx hb dX6_append_56 hl (k := 2) rfl rfl (by decide) rfl (fun ls hl => ?_)
          refine lv_goto (tgt := 23) hx hb dX6_append_59 (by decide) ?_
          exact ih20 _ _ _ _ _ hf hX22 _ _ hP hD hS _ (lv_sub hl [1, 2, 0] rfl)
    obtain ⟨y15, x16, hg, hf⟩ := bd2_some hf
    refine L31 FU _ _ _ _ _ hg ?_ _ _ hP hD hS _ (lv_sub hl [1, 2, 0] rfl)
    · intro H locs hP hD hS ls hl
      refine lv_aload_n hx hb dX6_append_62 rfl (lv_at hl 0 rfl) ?_
      refine va_get (D := (dC, dI)) (ci := 5) (v := .int x16) (C := RX6) (T := TX6) (N := 7) hx hb hts kX6_append_0 hown hK hP 0 rfl rfl 1 (by decide) (hts _ kX6_append_1) (fun _ h9 => h9) rfl dX6_append_63 ?_
      obtain ⟨rfl, rfl, rfl⟩ := inj3 hf
      subst hQ
      exact CM_iret hx hb hr rfl hlocks hAe hP hD hS dX6_append_66
  · replace hf := ifn c1 hf
    refine lv_bipush (v := (-4 : Int32)) hx hb dX6_append_12 (by decide) ?_
    obtain ⟨rfl, rfl, rfl⟩ := inj3 hf
    subst hQ
    exact CM_iret hx hb hr rfl hlocks hAe hP hD hS dX6_append_14
def rmX6_goToStart : Room := { frames := 0, cells := 0, slots := 0, locals := 0 }
set_option maxRecDepth 20000 in
theorem kX6_goToStart_0 : ∀ w ∈ u_ws RX6 TX6 7, w ∈ wsX6_goToStart := by decide +kernel
set_option maxRecDepth 20000 in
theorem kX6_goToStart_1 : Cond.fieldLink RX6 34 "StoneRiver$Text" "next" "I" ∈ wsX6_goToStart := by decide +kernel
set_option maxHeartbeats 4000000 in
set_option maxRecDepth 100000 in
theorem c_X6_goToStart (l : Launch) (dC : Nat → ClassId) (dI : Nat → Nat → Nat) (cI cZ : ClassId) (te : Nat → Nat) (h_t : Nat) (h_t_bytes : Nat) (h_t_numbers : Nat) (t_size : Int32) (t_start : Int32) (t_value : Int32) (t_next : Int32) (t_word : Int32) (o0 : Int32) (hf : f_X6_goToStart = some o0) : CM l yX6_goToStart wsX6_goToStart rmX6_goToStart (kS te) dC dI cI cZ [.ref h_t] [(h_t, .inr (5, fX6 h_t_bytes t_size t_start t_value t_next t_word h_t_numbers))] [(h_t, .inr (5, fX6 h_t_bytes t_size t_start t_value o0 t_word h_t_numbers))] none := by
  refine CM_of (cc := cX6_goToStart) (maxL := 1) (ret := none) (by decide +kernel) rfl (Nat.le_of_ble_eq_true rfl) ?_
  intro p e s m args below meth c A Q hx hb hr hml hown hts hlocks hA hK hP hD hS hE hQ hAe ls hl
  have hown : s.vm.findClass RX6 = some m.cls := hown
  have hl : lv_has ls 1 [(0, .ref h_t)] := hl
  unfold f_X6_goToStart at hf
  refine lv_aload_n hx hb dX6_goToStart_0 rfl (lv_at hl 0 rfl) ?_
  refine lv_iconst (v := (0 : Int32)) hx hb dX6_goToStart_1 (by decide) ?_
  refine va_put (D := (dC, dI)) (ci := 5) (v := .int (0 : Int32)) (ty := tyX6 4) (C := RX6) (T := TX6) (N := 7) hx hb hts kX6_goToStart_0 tyX6 tyX6_ok nmX6 hown hK hP hD hS 0 rfl rfl 4 (by decide) (hts _ kX6_goToStart_1) (fun _ h9 => h9) rfl (tyX6_ok 4 (by decide)) rfl rfl (Nat.le_of_ble_eq_true rfl) dX6_goToStart_2 (fun H locs hP hD hS => ?_)
  have hP : va_P (dC, dI) vwCl [(h_t, .inr (5, fX6 h_t_bytes t_size t_start t_value (0 : Int32) t_word h_t_numbers))] H := hP
  have hD : va_D A [(h_t, .inr (5, fX6 h_t_bytes t_size t_start t_value (0 : Int32) t_word h_t_numbers))] := hD
  obtain rfl := inj1 hf
  subst hQ
  exact CM_vret hx hb hr hlocks hAe hP hD hS dX6_goToStart_5
def rmX6_isLetter : Room := { frames := 0, cells := 0, slots := 0, locals := 0 }
set_option maxHeartbeats 4000000 in
set_option maxRecDepth 100000 in
theorem c_X6_isLetter (l : Launch) (dC : Nat → ClassId) (dI : Nat → Nat → Nat) (cI cZ : ClassId) (te : Nat → Nat) (p1 : Int32) (o0 : Int32) (hf : f_X6_isLetter p1 = some o0) : CM l yX6_isLetter wsX6_isLetter rmX6_isLetter (kS te) dC dI cI cZ [.int p1] [] [] (some (.int o0)) := by
  refine CM_of (cc := cX6_isLetter) (maxL := 1) (ret := (some .boolean)) (by decide +kernel) rfl (Nat.le_of_ble_eq_true rfl) ?_
  intro p e s m args below meth c A Q hx hb hr hml hown hts hlocks hA hK hP hD hS hE hQ hAe ls hl
  have hown : s.vm.findClass RX6 = some m.cls := hown
  have hl : lv_has ls 1 [(0, .int p1)] := hl
  unfold f_X6_isLetter at hf
  refine lv_iload_n hx hb dX6_isLetter_0 rfl (lv_at hl 0 rfl) ?_
  refine lv_bipush (v := (97 : Int32)) hx hb dX6_isLetter_1 (by decide) ?_
  refine lv_icmp_lt (tgt := 16) hx hb dX6_isLetter_3 (by decide) (fun c1 => ?_) (fun c1 => ?_)
  · replace hf := ifp c1 hf
    refine lv_iconst (v := (0 : Int32)) hx hb dX6_isLetter_16 (by decide) ?_
    obtain rfl := inj1 hf
    subst hQ
    exact CM_iret hx hb hr rfl hlocks hAe hP hD hS dX6_isLetter_17
  · replace hf := ifn c1 hf
    refine lv_iload_n hx hb dX6_isLetter_6 rfl (lv_at hl 0 rfl) ?_
    refine lv_bipush (v := (122 : Int32)) hx hb dX6_isLetter_7 (by decide) ?_
    refine lv_icmp_gt (tgt := 16) hx hb dX6_isLetter_9 (by decide) (fun c2 => ?_) (fun c2 => ?_)
    · replace hf := ifp c2 hf
      refine lv_iconst (v := (0 : Int32)) hx hb dX6_isLetter_16 (by decide) ?_
      obtain rfl := inj1 hf
      subst hQ
      exact CM_iret hx hb hr rfl hlocks hAe hP hD hS dX6_isLetter_17
    · replace hf := ifn c2 hf
      refine lv_iconst (v := (1 : Int32)) hx hb dX6_isLetter_12 (by decide) ?_
      refine lv_goto (tgt := 17) hx hb dX6_isLetter_13 (by decide) ?_
      obtain rfl := inj1 hf
      subst hQ
      exact CM_iret hx hb hr rfl hlocks hAe hP hD hS dX6_isLetter_17
def rmX6_isTokenTheWord : Room := { frames := 4, cells := 0, slots := 0, locals := 85 }
set_option maxRecDepth 20000 in
theorem kX6_isTokenTheWord_0 : ∀ w ∈ u_ws RX6 TX6 7, w ∈ wsX6_isTokenTheWord := by decide +kernel
set_option maxRecDepth 20000 in
theorem kX6_isTokenTheWord_1 : Cond.fieldLink RX6 34 "StoneRiver$Text" "next" "I" ∈ wsX6_isTokenTheWord := by decide +kernel
set_option maxRecDepth 20000 in
theorem kX6_isTokenTheWord_2 : Cond.fieldLink RX6 31 "StoneRiver$Text" "start" "I" ∈ wsX6_isTokenTheWord := by decide +kernel
set_option maxRecDepth 20000 in
theorem kX6_isTokenTheWord_3 : Cond.fieldLink RX6 11 "StoneRiver$Text" "bytes" "[I" ∈ wsX6_isTokenTheWord := by decide +kernel
set_option maxHeartbeats 4000000 in
set_option maxRecDepth 100000 in
theorem c_X6_isTokenTheWord (l : Launch) (dC : Nat → ClassId) (dI : Nat → Nat → Nat) (cI cZ : ClassId) (te : Nat → Nat) (h_t : Nat) (h_t_bytes : Nat) (h_t_numbers : Nat) (t_size : Int32) (t_start : Int32) (t_value : Int32) (t_next : Int32) (t_word : Int32) (t_bytes : Nat → Int32) (p1 : Int32) (o0 : Int32) (hf : f_X6_isTokenTheWord t_start t_next t_bytes p1 = some o0) : CM l yX6_isTokenTheWord wsX6_isTokenTheWord rmX6_isTokenTheWord (kS te) dC dI cI cZ [.ref h_t, .int p1] [(h_t, .inr (5, fX6 h_t_bytes t_size t_start t_value t_next t_word h_t_numbers)), (h_t_bytes, .inl (cI, 240, .inl t_bytes))] [(h_t, .inr (5, fX6 h_t_bytes t_size t_start t_value t_next t_word h_t_numbers)), (h_t_bytes, .inl (cI, 240, .inl t_bytes))] (some (.int o0)) := by
  refine CM_of (cc := cX6_isTokenTheWord) (maxL := 4) (ret := (some .boolean)) (by decide +kernel) rfl (Nat.le_of_ble_eq_true rfl) ?_
  intro p e s m args below meth c A Q hx hb hr hml hown hts hlocks hA hK hP hD hS hE hQ hAe ls hl
  have hown : s.vm.findClass RX6 = some m.cls := hown
  have hl : lv_has ls 4 [(0, .ref h_t), (1, .int p1)] := hl
  unfold f_X6_isTokenTheWord at hf
  refine lv_aload_n hx hb dX6_isTokenTheWord_0 rfl (lv_at hl 0 rfl) ?_
  refine va_get (D := (dC, dI)) (ci := 5) (v := .int t_next) (C := RX6) (T := TX6) (N := 7) hx hb hts kX6_isTokenTheWord_0 hown hK hP 0 rfl rfl 4 (by decide) (hts _ kX6_isTokenTheWord_1) (fun _ h9 => h9) rfl dX6_isTokenTheWord_1 ?_
  refine lv_aload_n hx hb dX6_isTokenTheWord_4 rfl (lv_at hl 0 rfl) ?_
  refine va_get (D := (dC, dI)) (ci := 5) (v := .int t_start) (C := RX6) (T := TX6) (N := 7) hx hb hts kX6_isTokenTheWord_0 hown hK hP 0 rfl rfl 2 (by decide) (hts _ kX6_isTokenTheWord_2) (fun _ h9 => h9) rfl dX6_isTokenTheWord_5 ?_
  refine lv_isub hx hb dX6_isTokenTheWord_8 ?_
  refine lv_bipush (v := (8 : Int32)) hx hb dX6_isTokenTheWord_9 (by decide) ?_
  refine lv_icmp_le (tgt := 16) hx hb dX6_isTokenTheWord_11 (by decide) (fun c1 => ?_) (fun c1 => ?_)
  · replace hf := ifp c1 hf
    refine lv_iconst (v := (0 : Int32)) hx hb dX6_isTokenTheWord_16 (by decide) ?_
    refine lv_istore_n (lv' := [(2, .int (0 : Int32)), (0, .ref h_t), (1, .int p1)]) hx hb dX6_isTokenTheWord_17 rfl hl (by decide) rfl (fun ls hl => ?_)
    have L25 : ∀ (fu14 : Nat) (x12 : Int32) (q11 : Nat), f_X6_isTokenTheWord_L1 t_next t_start t_bytes p1 fu14 x12 = some q11 → (q11 = 0 → ∀ (H : Heap) (locs : List Loc), va_P (dC, dI) vwCl [(h_t, .inr (5, fX6 h_t_bytes t_size t_start t_value t_next t_word h_t_numbers)), (h_t_bytes, .inl (cI, 240, .inl t_bytes))] H → va_D A [(h_t, .inr (5, fX6 h_t_bytes t_size t_start t_value t_next t_word h_t_numbers)), (h_t_bytes, .inl (cI, 240, .inl t_bytes))] → va_S A s.heap H locs → ∀ ls : Array Slot, lv_has ls 4 [] → W p l e rmX6_isTokenTheWord s m args below meth c H locs 0 0 Q (F0 m 69 ls [])) → (q11 = 1 → ∀ (H : Heap) (locs : List Loc), va_P (dC, dI) vwCl [(h_t, .inr (5, fX6 h_t_bytes t_size t_start t_value t_next t_word h_t_numbers)), (h_t_bytes, .inl (cI, 240, .inl t_bytes))] H → va_D A [(h_t, .inr (5, fX6 h_t_bytes t_size t_start t_value t_next t_word h_t_numbers)), (h_t_bytes, .inl (cI, 240, .inl t_bytes))] → va_S A s.heap H locs → ∀ ls : Array Slot, lv_has ls 4 [] → W p l e rmX6_isTokenTheWord s m args below meth c H locs 0 0 Q (F0 m 77 ls [])) → ∀ (H : Heap) (locs : List Loc), va_P (dC, dI) vwCl [(h_t, .inr (5, fX6 h_t_bytes t_size t_start t_value t_next t_word h_t_numbers)), (h_t_bytes, .inl (cI, 240, .inl t_bytes))] H → va_D A [(h_t, .inr (5, fX6 h_t_bytes t_size t_start t_value t_next t_word h_t_numbers)), (h_t_bytes, .inl (cI, 240, .inl t_bytes))] → va_S A s.heap H locs → ∀ ls : Array Slot, lv_has ls 4 [(0, .ref h_t), (1, .int p1), (2, .int x12)] → W p l e rmX6_isTokenTheWord s m args below meth c H locs 0 0 Q (F0 m 18 ls []) := by
      intro fu14
      induction fu14 with
      | zero =>
        intro x12 q11 hf
        unfold f_X6_isTokenTheWord_L1 at hf
        exact none_ne hf
      | succ fu14 ih13 =>
        intro x12 q11 hf hX15 hX16 H locs hP hD hS ls hl
        unfold f_X6_isTokenTheWord_L1 at hf
        refine lv_iload_n hx hb dX6_isTokenTheWord_18 rfl (lv_at hl 2 rfl) ?_
        refine lv_bipush (v := (8 : Int32)) hx hb dX6_isTokenTheWord_19 (by decide) ?_
        refine lv_icmp_ge (tgt := 77) hx hb dX6_isTokenTheWord_21 (by decide) (fun c17 => ?_) (fun c17 => ?_)
        · replace hf := ifp c17 hf
          obtain rfl := inj1 hf
          exact hX16 rfl _ _ hP hD hS _ (lv_sub hl [] rfl)
        · replace hf := ifn c17 hf
          refine lv_aload_n hx hb dX6_isTokenTheWord_24 rfl (lv_at hl 0 rfl) ?_
          refine va_get (D := (dC, dI)) (ci := 5) (v := .int t_start) (C := RX6) (T := TX6) (N := 7) hx hb hts kX6_isTokenTheWord_0 hown hK hP 0 rfl rfl 2 (by decide) (hts _ kX6_isTokenTheWord_2) (fun _ h9 => h9) rfl dX6_isTokenTheWord_25 ?_
          refine lv_iload_n hx hb dX6_isTokenTheWord_28 rfl (lv_at hl 2 rfl) ?_
          refine lv_iadd hx hb dX6_isTokenTheWord_29 ?_
          refine lv_aload_n hx hb dX6_isTokenTheWord_30 rfl (lv_at hl 0 rfl) ?_
          refine va_get (D := (dC, dI)) (ci := 5) (v := .int t_next) (C := RX6) (T := TX6) (N := 7) hx hb hts kX6_isTokenTheWord_0 hown hK hP 0 rfl rfl 4 (by decide) (hts _ kX6_isTokenTheWord_1) (fun _ h9 => h9) rfl dX6_isTokenTheWord_31 ?_
          obtain ⟨x18, hg, hf⟩ := bd1_some hf
          have J19 : ∀ (H : Heap) (locs : List Loc), va_P (dC, dI) vwCl [(h_t, .inr (5, fX6 h_t_bytes t_size t_start t_value t_next t_word h_t_numbers)), (h_t_bytes, .inl (cI, 240, .inl t_bytes))] H → va_D A [(h_t, .inr (5, fX6 h_t_bytes t_size t_start t_value t_next t_word h_t_numbers)), (h_t_bytes, .inl (cI, 240, .inl t_bytes))] → va_S A s.heap H locs → ∀ ls : Array Slot, lv_has ls 4 [(0, .ref h_t), (1, .int p1), (2, .int x12)] → W p l e rmX6_isTokenTheWord s m args below meth c H locs 0 0 Q (F0 m 53 ls [.int x18]) := by
            intro H locs hP hD hS ls hl
            refine lv_istore_n (lv' := [(3, .int x18), (0, .ref h_t), (1, .int p1), (2, .int x12)]) hx hb dX6_isTokenTheWord_53 rfl hl (by decide) rfl (fun ls hl => ?_)
            refine va_ldcS hx hb hown (kS_str hE) dX6_isTokenTheWord_54 ?_
            refine lv_bipush (v := (8 : Int32)) hx hb dX6_isTokenTheWord_56 (by decide) ?_
            refine lv_iload_n hx hb dX6_isTokenTheWord_58 rfl (lv_at hl 2 rfl) ?_
            refine lv_imul hx hb dX6_isTokenTheWord_59 ?_
            refine lv_iload_n hx hb dX6_isTokenTheWord_60 rfl (lv_at hl 3 rfl) ?_
            refine lv_iadd hx hb dX6_isTokenTheWord_61 ?_
            obtain ⟨r20, hg21, hf⟩ := bd1_some hf
            refine CM_callVs (C := RJ0) (As := [.int (((8 : Int32) * p1) + x12)]) (rest := []) (wc := []) (w1 := []) (wr := [(h_t, .inr (5, fX6 h_t_bytes t_size t_start t_value t_next t_word h_t_numbers)), (h_t_bytes, .inl (cI, 240, .inl t_bytes))]) (wo := [(h_t, .inr (5, fX6 h_t_bytes t_size t_start t_value t_next t_word h_t_numbers)), (h_t_bytes, .inl (cI, 240, .inl t_bytes))]) (v := (some (.int r20))) ⟨hx, hb, hml, hown, hts⟩ (c_J0_charAt_5068e l dC dI cI cZ te (((8 : Int32) * p1) + x12) r20 hg21) (cwV 1 hts gX6_isTokenTheWord_J0_charAt_5068e rfl rfl rfl (by decide +kernel) ⟨Nat.le_of_ble_eq_true rfl, Nat.le_of_ble_eq_true rfl⟩) (kS_env te) hK hP hD hS hA hE [] [0, 1] [0, 1] rfl rfl (by decide) (by decide) (by decide) (by decide) rfl (kS_rc hE hS) rfl hl.1 rfl (Nat.le_of_ble_eq_true rfl) dX6_isTokenTheWord_62 ⟨Nat.zero_le _, Nat.zero_le _⟩ (fun H locs hP hD hS => ?_)
            show W p l e rmX6_isTokenTheWord s m args below meth c H locs 0 0 Q (F0 m 65 ls [.int r20])
            refine lv_iload_n hx hb dX6_isTokenTheWord_65 rfl (lv_at hl 0 rfl) ?_
            refine lv_icmp_eq (tgt := 71) hx hb dX6_isTokenTheWord_66 (by decide) (fun c22 => ?_) (fun c22 => ?_)
            · replace hf := ifp c22 hf
              refine lv_iinc (v := (x12 + (1 : Int32))) (lv' := [(2, .int (x12 + (1 : Int32))), (3, .int x18), (0, .ref h_t), (1, .int p1)]) hx hb dX6_isTokenTheWord_71 hl (k := 3) rfl rfl (by decide) rfl (fun ls hl => ?_)
              refine lv_goto (tgt := 18) hx hb dX6_isTokenTheWord_74 (by decide) ?_
              exact ih13 _ _ hf hX15 hX16 _ _ hP hD hS _ (lv_sub hl [2, 3, 0] rfl)
            · replace hf := ifn c22 hf
              obtain rfl := inj1 hf
              exact hX15 rfl _ _ hP hD hS _ (lv_sub hl [] rfl)
          clear hf
          have hf := hg
          refine lv_icmp_ge (tgt := 51) hx hb dX6_isTokenTheWord_34 (by decide) (fun c23 => ?_) (fun c23 => ?_)
          · replace hf := ifp c23 hf
            refine lv_bipush (v := (32 : Int32)) hx hb dX6_isTokenTheWord_51 (by decide) ?_
            obtain rfl := inj1 hf
            exact J19 _ _ hP hD hS _ (lv_sub hl [0, 1, 2] rfl)
          · replace hf := ifn c23 hf
            refine lv_aload_n hx hb dX6_isTokenTheWord_37 rfl (lv_at hl 0 rfl) ?_
            refine va_get (D := (dC, dI)) (ci := 5) (v := .ref h_t_bytes) (C := RX6) (T := TX6) (N := 7) hx hb hts kX6_isTokenTheWord_0 hown hK hP 0 rfl rfl 0 (by decide) (hts _ kX6_isTokenTheWord_3) (fun _ h9 => h9) rfl dX6_isTokenTheWord_38 ?_
            refine lv_aload_n hx hb dX6_isTokenTheWord_41 rfl (lv_at hl 0 rfl) ?_
            refine va_get (D := (dC, dI)) (ci := 5) (v := .int t_start) (C := RX6) (T := TX6) (N := 7) hx hb hts kX6_isTokenTheWord_0 hown hK hP 0 rfl rfl 2 (by decide) (hts _ kX6_isTokenTheWord_2) (fun _ h9 => h9) rfl dX6_isTokenTheWord_42 ?_
            refine lv_iload_n hx hb dX6_isTokenTheWord_45 rfl (lv_at hl 2 rfl) ?_
            refine lv_iadd hx hb dX6_isTokenTheWord_46 ?_
            obtain ⟨g24, hf⟩ := chk_some hf
            refine va_iald hx hb hK hP 1 0 rfl rfl (gin_in g24) dX6_isTokenTheWord_47 ?_
            refine lv_goto (tgt := 53) hx hb dX6_isTokenTheWord_48 (by decide) ?_
            obtain rfl := inj1 hf
            exact J19 _ _ hP hD hS _ (lv_sub hl [0, 1, 2] rfl)
    obtain ⟨q11, hg, hf⟩ := bd1_some hf
    refine L25 FU _ _ hg ?_ ?_ _ _ hP hD hS _ (lv_sub hl [1, 2, 0] rfl)
    · intro hq
      subst hq
      replace hf := ifp rfl hf
      intro H locs hP hD hS ls hl
      refine lv_iconst (v := (0 : Int32)) hx hb dX6_isTokenTheWord_69 (by decide) ?_
      obtain rfl := inj1 hf
      subst hQ
      exact CM_iret hx hb hr rfl hlocks hAe hP hD hS dX6_isTokenTheWord_70
    · intro hq
      subst hq
      replace hf := ifn (by decide) hf
      intro H locs hP hD hS ls hl
      refine lv_iconst (v := (1 : Int32)) hx hb dX6_isTokenTheWord_77 (by decide) ?_
      obtain rfl := inj1 hf
      subst hQ
      exact CM_iret hx hb hr rfl hlocks hAe hP hD hS dX6_isTokenTheWord_78
  · replace hf := ifn c1 hf
    refine lv_iconst (v := (0 : Int32)) hx hb dX6_isTokenTheWord_14 (by decide) ?_
    obtain rfl := inj1 hf
    subst hQ
    exact CM_iret hx hb hr rfl hlocks hAe hP hD hS dX6_isTokenTheWord_15
def rmX6_takeWord : Room := { frames := 5, cells := 0, slots := 0, locals := 108 }
set_option maxRecDepth 20000 in
theorem kX6_takeWord_0 : ∀ w ∈ u_ws RX6 TX6 7, w ∈ wsX6_takeWord := by decide +kernel
set_option maxRecDepth 20000 in
theorem kX6_takeWord_1 : Cond.fieldLink RX6 34 "StoneRiver$Text" "next" "I" ∈ wsX6_takeWord := by decide +kernel
set_option maxRecDepth 20000 in
theorem kX6_takeWord_2 : Cond.fieldLink RX6 18 "StoneRiver$Text" "size" "I" ∈ wsX6_takeWord := by decide +kernel
set_option maxRecDepth 20000 in
theorem kX6_takeWord_3 : Cond.fieldLink RX6 11 "StoneRiver$Text" "bytes" "[I" ∈ wsX6_takeWord := by decide +kernel
set_option maxRecDepth 20000 in
theorem kX6_takeWord_4 : Cond.fieldLink RX6 43 "StoneRiver$Text" "value" "I" ∈ wsX6_takeWord := by decide +kernel
set_option maxHeartbeats 4000000 in
set_option maxRecDepth 100000 in
theorem c_X6_takeWord (l : Launch) (dC : Nat → ClassId) (dI : Nat → Nat → Nat) (cI cZ : ClassId) (te : Nat → Nat) (h_t : Nat) (h_t_bytes : Nat) (h_t_numbers : Nat) (t_size : Int32) (t_start : Int32) (t_value : Int32) (t_next : Int32) (t_word : Int32) (t_bytes : Nat → Int32) (o0 : Int32) (o1 : Int32) (o2 : Int32) (hf : f_X6_takeWord t_size t_start t_next t_bytes = some (o0, o1, o2)) : CM l yX6_takeWord wsX6_takeWord rmX6_takeWord (kS te) dC dI cI cZ [.ref h_t] [(h_t, .inr (5, fX6 h_t_bytes t_size t_start t_value t_next t_word h_t_numbers)), (h_t_bytes, .inl (cI, 240, .inl t_bytes))] [(h_t, .inr (5, fX6 h_t_bytes t_size t_start o1 o2 t_word h_t_numbers)), (h_t_bytes, .inl (cI, 240, .inl t_bytes))] (some (.int o0)) := by
  refine CM_of (cc := cX6_takeWord) (maxL := 2) (ret := (some .int)) (by decide +kernel) rfl (Nat.le_of_ble_eq_true rfl) ?_
  intro p e s m args below meth c A Q hx hb hr hml hown hts hlocks hA hK hP hD hS hE hQ hAe ls hl
  have hown : s.vm.findClass RX6 = some m.cls := hown
  have hl : lv_has ls 2 [(0, .ref h_t)] := hl
  unfold f_X6_takeWord at hf
  have L21 : ∀ (fu12 : Nat) (x10 : Int32) (x9 : Int32), f_X6_takeWord_L1 t_size t_bytes fu12 x10 = some x9 → (∀ (H : Heap) (locs : List Loc), va_P (dC, dI) vwCl [(h_t, .inr (5, fX6 h_t_bytes t_size t_start t_value x9 t_word h_t_numbers)), (h_t_bytes, .inl (cI, 240, .inl t_bytes))] H → va_D A [(h_t, .inr (5, fX6 h_t_bytes t_size t_start t_value x9 t_word h_t_numbers)), (h_t_bytes, .inl (cI, 240, .inl t_bytes))] → va_S A s.heap H locs → ∀ ls : Array Slot, lv_has ls 2 [(0, .ref h_t)] → W p l e rmX6_takeWord s m args below meth c H locs 0 0 Q (F0 m 39 ls [])) → ∀ (H : Heap) (locs : List Loc), va_P (dC, dI) vwCl [(h_t, .inr (5, fX6 h_t_bytes t_size t_start t_value x10 t_word h_t_numbers)), (h_t_bytes, .inl (cI, 240, .inl t_bytes))] H → va_D A [(h_t, .inr (5, fX6 h_t_bytes t_size t_start t_value x10 t_word h_t_numbers)), (h_t_bytes, .inl (cI, 240, .inl t_bytes))] → va_S A s.heap H locs → ∀ ls : Array Slot, lv_has ls 2 [(0, .ref h_t)] → W p l e rmX6_takeWord s m args below meth c H locs 0 0 Q (F0 m 0 ls []) := by
    intro fu12
    induction fu12 with
    | zero =>
      intro x10 x9 hf
      unfold f_X6_takeWord_L1 at hf
      exact none_ne hf
    | succ fu12 ih11 =>
      intro x10 x9 hf hX13 H locs hP hD hS ls hl
      unfold f_X6_takeWord_L1 at hf
      refine lv_aload_n hx hb dX6_takeWord_0 rfl (lv_at hl 0 rfl) ?_
      refine va_get (D := (dC, dI)) (ci := 5) (v := .int x10) (C := RX6) (T := TX6) (N := 7) hx hb hts kX6_takeWord_0 hown hK hP 0 rfl rfl 4 (by decide) (hts _ kX6_takeWord_1) (fun _ h9 => h9) rfl dX6_takeWord_1 ?_
      refine lv_aload_n hx hb dX6_takeWord_4 rfl (lv_at hl 0 rfl) ?_
      refine va_get (D := (dC, dI)) (ci := 5) (v := .int t_size) (C := RX6) (T := TX6) (N := 7) hx hb hts kX6_takeWord_0 hown hK hP 0 rfl rfl 1 (by decide) (hts _ kX6_takeWord_2) (fun _ h9 => h9) rfl dX6_takeWord_5 ?_
      refine lv_icmp_ge (tgt := 39) hx hb dX6_takeWord_8 (by decide) (fun c14 => ?_) (fun c14 => ?_)
      · replace hf := ifp c14 hf
        obtain rfl := inj1 hf
        exact hX13 _ _ hP hD hS _ (lv_sub hl [0] rfl)
      · replace hf := ifn c14 hf
        refine lv_aload_n hx hb dX6_takeWord_11 rfl (lv_at hl 0 rfl) ?_
        refine va_get (D := (dC, dI)) (ci := 5) (v := .ref h_t_bytes) (C := RX6) (T := TX6) (N := 7) hx hb hts kX6_takeWord_0 hown hK hP 0 rfl rfl 0 (by decide) (hts _ kX6_takeWord_3) (fun _ h9 => h9) rfl dX6_takeWord_12 ?_
        refine lv_aload_n hx hb dX6_takeWord_15 rfl (lv_at hl 0 rfl) ?_
        refine va_get (D := (dC, dI)) (ci := 5) (v := .int x10) (C := RX6) (T := TX6) (N := 7) hx hb hts kX6_takeWord_0 hown hK hP 0 rfl rfl 4 (by decide) (hts _ kX6_takeWord_1) (fun _ h9 => h9) rfl dX6_takeWord_16 ?_
        obtain ⟨g15, hf⟩ := chk_some hf
        refine va_iald hx hb hK hP 1 0 rfl rfl (gin_in g15) dX6_takeWord_19 ?_
        obtain ⟨r16, hg17, hf⟩ := bd1_some hf
        refine CM_callS (As := [.int (t_bytes x10.toNatClampNeg)]) (rest := []) (wc := []) (w1 := []) (wr := [(h_t, .inr (5, fX6 h_t_bytes t_size t_start t_value x10 t_word h_t_numbers)), (h_t_bytes, .inl (cI, 240, .inl t_bytes))]) (wo := [(h_t, .inr (5, fX6 h_t_bytes t_size t_start t_value x10 t_word h_t_numbers)), (h_t_bytes, .inl (cI, 240, .inl t_bytes))]) (v := (some (.int r16))) ⟨hx, hb, hml, hown, hts⟩ (c_X6_isLetter l dC dI cI cZ te (t_bytes x10.toNatClampNeg) r16 hg17) (va_cwS 1 hts gX6_takeWord_X6_isLetter rfl rfl rfl (by decide +kernel) ⟨Nat.le_of_ble_eq_true rfl, Nat.le_of_ble_eq_true rfl⟩) (kS_env te) hK hP hD hS hA hE [] [0, 1] [0, 1] rfl rfl (by decide) (by decide) (by decide) (by decide) rfl rfl hl.1 rfl (Nat.le_of_ble_eq_true rfl) dX6_takeWord_20 ⟨Nat.zero_le _, Nat.zero_le _⟩ (fun H locs hP hD hS => ?_)
        show W p l e rmX6_takeWord s m args below meth c H locs 0 0 Q (F0 m 23 ls [.int r16])
        refine lv_if_eq (tgt := 39) hx hb dX6_takeWord_23 (by decide) (fun c18 => ?_) (fun c18 => ?_)
        · replace hf := ifp c18 hf
          obtain rfl := inj1 hf
          exact hX13 _ _ hP hD hS _ (lv_sub hl [0] rfl)
        · replace hf := ifn c18 hf
          refine lv_aload_n hx hb dX6_takeWord_26 rfl (lv_at hl 0 rfl) ?_
          refine lv_dup hx hb dX6_takeWord_27 rfl ?_
          refine va_get (D := (dC, dI)) (ci := 5) (v := .int x10) (C := RX6) (T := TX6) (N := 7) hx hb hts kX6_takeWord_0 hown hK hP 0 rfl rfl 4 (by decide) (hts _ kX6_takeWord_1) (fun _ h9 => h9) rfl dX6_takeWord_28 ?_
          refine lv_iconst (v := (1 : Int32)) hx hb dX6_takeWord_31 (by decide) ?_
          refine lv_iadd hx hb dX6_takeWord_32 ?_
          obtain ⟨x19, e20, hf⟩ := nm_some hf
          refine lv_tope e20 ?_
          refine va_put (D := (dC, dI)) (ci := 5) (v := .int x19) (ty := tyX6 4) (C := RX6) (T := TX6) (N := 7) hx hb hts kX6_takeWord_0 tyX6 tyX6_ok nmX6 hown hK hP hD hS 0 rfl rfl 4 (by decide) (hts _ kX6_takeWord_1) (fun _ h9 => h9) rfl (tyX6_ok 4 (by decide)) rfl rfl (Nat.le_of_ble_eq_true rfl) dX6_takeWord_33 (fun H locs hP hD hS => ?_)
          have hP : va_P (dC, dI) vwCl [(h_t, .inr (5, fX6 h_t_bytes t_size t_start t_value x19 t_word h_t_numbers)), (h_t_bytes, .inl (cI, 240, .inl t_bytes))] H := hP
          have hD : va_D A [(h_t, .inr (5, fX6 h_t_bytes t_size t_start t_value x19 t_word h_t_numbers)), (h_t_bytes, .inl (cI, 240, .inl t_bytes))] := hD
          refine lv_goto (tgt := 0) hx hb dX6_takeWord_36 (by decide) ?_
          exact ih11 _ _ hf hX13 _ _ hP hD hS _ (lv_sub hl [0] rfl)
  obtain ⟨x9, hg, hf⟩ := bd1_some hf
  refine L21 FU _ _ hg ?_ _ _ hP hD hS _ (lv_sub hl [0] rfl)
  · intro H locs hP hD hS ls hl
    refine lv_aload_n hx hb dX6_takeWord_39 rfl (lv_at hl 0 rfl) ?_
    refine lv_iconst (v := (-1 : Int32)) hx hb dX6_takeWord_40 (by decide) ?_
    refine va_put (D := (dC, dI)) (ci := 5) (v := .int (-1 : Int32)) (ty := tyX6 3) (C := RX6) (T := TX6) (N := 7) hx hb hts kX6_takeWord_0 tyX6 tyX6_ok nmX6 hown hK hP hD hS 0 rfl rfl 3 (by decide) (hts _ kX6_takeWord_4) (fun _ h9 => h9) rfl (tyX6_ok 3 (by decide)) rfl rfl (Nat.le_of_ble_eq_true rfl) dX6_takeWord_41 (fun H locs hP hD hS => ?_)
    have hP : va_P (dC, dI) vwCl [(h_t, .inr (5, fX6 h_t_bytes t_size t_start (-1 : Int32) x9 t_word h_t_numbers)), (h_t_bytes, .inl (cI, 240, .inl t_bytes))] H := hP
    have hD : va_D A [(h_t, .inr (5, fX6 h_t_bytes t_size t_start (-1 : Int32) x9 t_word h_t_numbers)), (h_t_bytes, .inl (cI, 240, .inl t_bytes))] := hD
    refine lv_iconst (v := (0 : Int32)) hx hb dX6_takeWord_44 (by decide) ?_
    refine lv_istore_n (lv' := [(1, .int (0 : Int32)), (0, .ref h_t)]) hx hb dX6_takeWord_45 rfl hl (by decide) rfl (fun ls hl => ?_)
    have L38 : ∀ (fu32 : Nat) (x29 : Int32) (x30 : Int32) (x28 : Int32), f_X6_takeWord_L2 t_start x9 t_bytes fu32 x29 x30 = some x28 → (∀ (H : Heap) (locs : List Loc), va_P (dC, dI) vwCl [(h_t, .inr (5, fX6 h_t_bytes t_size t_start x28 x9 t_word h_t_numbers)), (h_t_bytes, .inl (cI, 240, .inl t_bytes))] H → va_D A [(h_t, .inr (5, fX6 h_t_bytes t_size t_start x28 x9 t_word h_t_numbers)), (h_t_bytes, .inl (cI, 240, .inl t_bytes))] → va_S A s.heap H locs → ∀ ls : Array Slot, lv_has ls 2 [(0, .ref h_t)] → W p l e rmX6_takeWord s m args below meth c H locs 0 0 Q (F0 m 71 ls [])) → ∀ (H : Heap) (locs : List Loc), va_P (dC, dI) vwCl [(h_t, .inr (5, fX6 h_t_bytes t_size t_start x29 x9 t_word h_t_numbers)), (h_t_bytes, .inl (cI, 240, .inl t_bytes))] H → va_D A [(h_t, .inr (5, fX6 h_t_bytes t_size t_start x29 x9 t_word h_t_numbers)), (h_t_bytes, .inl (cI, 240, .inl t_bytes))] → va_S A s.heap H locs → ∀ ls : Array Slot, lv_has ls 2 [(0, .ref h_t), (1, .int x30)] → W p l e rmX6_takeWord s m args below meth c H locs 0 0 Q (F0 m 46 ls []) := by
      intro fu32
      induction fu32 with
      | zero =>
        intro x29 x30 x28 hf
        unfold f_X6_takeWord_L2 at hf
        exact none_ne hf
      | succ fu32 ih31 =>
        intro x29 x30 x28 hf hX33 H locs hP hD hS ls hl
        unfold f_X6_takeWord_L2 at hf
        refine lv_iload_n hx hb dX6_takeWord_46 rfl (lv_at hl 1 rfl) ?_
        refine lv_bipush (v := (12 : Int32)) hx hb dX6_takeWord_47 (by decide) ?_
        refine lv_icmp_ge (tgt := 71) hx hb dX6_takeWord_49 (by decide) (fun c34 => ?_) (fun c34 => ?_)
        · replace hf := ifp c34 hf
          obtain rfl := inj1 hf
          exact hX33 _ _ hP hD hS _ (lv_sub hl [0] rfl)
        · replace hf := ifn c34 hf
          refine lv_aload_n hx hb dX6_takeWord_52 rfl (lv_at hl 0 rfl) ?_
          refine lv_iload_n hx hb dX6_takeWord_53 rfl (lv_at hl 1 rfl) ?_
          obtain ⟨r35, hg36, hf⟩ := bd1_some hf
          refine CM_callV (C := RX6) (As := [.int x30]) (rest := []) (wc := [(h_t, .inr (5, fX6 h_t_bytes t_size t_start x29 x9 t_word h_t_numbers)), (h_t_bytes, .inl (cI, 240, .inl t_bytes))]) (w1 := [(h_t, .inr (5, fX6 h_t_bytes t_size t_start x29 x9 t_word h_t_numbers)), (h_t_bytes, .inl (cI, 240, .inl t_bytes))]) (wr := []) (wo := [(h_t, .inr (5, fX6 h_t_bytes t_size t_start x29 x9 t_word h_t_numbers)), (h_t_bytes, .inl (cI, 240, .inl t_bytes))]) (v := (some (.int r35))) ⟨hx, hb, hml, hown, hts⟩ (c_X6_isTokenTheWord l dC dI cI cZ te h_t h_t_bytes h_t_numbers t_size t_start x29 x9 t_word t_bytes x30 r35 hg36) (cwV 1 hts gX6_takeWord_X6_isTokenTheWord rfl rfl rfl (by decide +kernel) ⟨Nat.le_of_ble_eq_true rfl, Nat.le_of_ble_eq_true rfl⟩) (kS_env te) hK hP hD hS hA hE [0, 1] [] [0, 1] rfl rfl (by decide) (by decide) (by decide) (by decide) rfl 0 5 rfl rfl rfl rfl hl.1 rfl (Nat.le_of_ble_eq_true rfl) dX6_takeWord_54 ⟨Nat.zero_le _, Nat.zero_le _⟩ (fun H locs hP hD hS => ?_)
          show W p l e rmX6_takeWord s m args below meth c H locs 0 0 Q (F0 m 57 ls [.int r35])
          refine lv_if_eq (tgt := 65) hx hb dX6_takeWord_57 (by decide) (fun c37 => ?_) (fun c37 => ?_)
          · replace hf := ifp c37 hf
            refine lv_iinc (v := (x30 + (1 : Int32))) (lv' := [(1, .int (x30 + (1 : Int32))), (0, .ref h_t)]) hx hb dX6_takeWord_65 hl (k := 1) rfl rfl (by decide) rfl (fun ls hl => ?_)
            refine lv_goto (tgt := 46) hx hb dX6_takeWord_68 (by decide) ?_
            exact ih31 _ _ _ hf hX33 _ _ hP hD hS _ (lv_sub hl [1, 0] rfl)
          · replace hf := ifn c37 hf
            refine lv_aload_n hx hb dX6_takeWord_60 rfl (lv_at hl 0 rfl) ?_
            refine lv_iload_n hx hb dX6_takeWord_61 rfl (lv_at hl 1 rfl) ?_
            refine va_put (D := (dC, dI)) (ci := 5) (v := .int x30) (ty := tyX6 3) (C := RX6) (T := TX6) (N := 7) hx hb hts kX6_takeWord_0 tyX6 tyX6_ok nmX6 hown hK hP hD hS 0 rfl rfl 3 (by decide) (hts _ kX6_takeWord_4) (fun _ h9 => h9) rfl (tyX6_ok 3 (by decide)) rfl rfl (Nat.le_of_ble_eq_true rfl) dX6_takeWord_62 (fun H locs hP hD hS => ?_)
            have hP : va_P (dC, dI) vwCl [(h_t, .inr (5, fX6 h_t_bytes t_size t_start x30 x9 t_word h_t_numbers)), (h_t_bytes, .inl (cI, 240, .inl t_bytes))] H := hP
            have hD : va_D A [(h_t, .inr (5, fX6 h_t_bytes t_size t_start x30 x9 t_word h_t_numbers)), (h_t_bytes, .inl (cI, 240, .inl t_bytes))] := hD
            refine lv_iinc (v := (x30 + (1 : Int32))) (lv' := [(1, .int (x30 + (1 : Int32))), (0, .ref h_t)]) hx hb dX6_takeWord_65 hl (k := 1) rfl rfl (by decide) rfl (fun ls hl => ?_)
            refine lv_goto (tgt := 46) hx hb dX6_takeWord_68 (by decide) ?_
            exact ih31 _ _ _ hf hX33 _ _ hP hD hS _ (lv_sub hl [1, 0] rfl)
    obtain ⟨x28, hg, hf⟩ := bd1_some hf
    refine L38 FU _ _ _ hg ?_ _ _ hP hD hS _ (lv_sub hl [1, 0] rfl)
    · intro H locs hP hD hS ls hl
      refine lv_aload_n hx hb dX6_takeWord_71 rfl (lv_at hl 0 rfl) ?_
      refine va_get (D := (dC, dI)) (ci := 5) (v := .int x28) (C := RX6) (T := TX6) (N := 7) hx hb hts kX6_takeWord_0 hown hK hP 0 rfl rfl 3 (by decide) (hts _ kX6_takeWord_4) (fun _ h9 => h9) rfl dX6_takeWord_72 ?_
      refine lv_iconst (v := (-1 : Int32)) hx hb dX6_takeWord_75 (by decide) ?_
      refine lv_icmp_ne (tgt := 83) hx hb dX6_takeWord_76 (by decide) (fun c39 => ?_) (fun c39 => ?_)
      · replace hf := ifn c39 hf
        refine lv_iconst (v := (1 : Int32)) hx hb dX6_takeWord_83 (by decide) ?_
        obtain ⟨rfl, rfl, rfl⟩ := inj3 hf
        subst hQ
        exact CM_iret hx hb hr rfl hlocks hAe hP hD hS dX6_takeWord_84
      · replace hf := ifp c39 hf
        refine lv_iconst (v := (4 : Int32)) hx hb dX6_takeWord_79 (by decide) ?_
        refine lv_goto (tgt := 84) hx hb dX6_takeWord_80 (by decide) ?_
        obtain ⟨rfl, rfl, rfl⟩ := inj3 hf
        subst hQ
        exact CM_iret hx hb hr rfl hlocks hAe hP hD hS dX6_takeWord_84
def rmX6_isFigure : Room := { frames := 0, cells := 0, slots := 0, locals := 0 }
set_option maxHeartbeats 4000000 in
set_option maxRecDepth 100000 in
theorem c_X6_isFigure (l : Launch) (dC : Nat → ClassId) (dI : Nat → Nat → Nat) (cI cZ : ClassId) (te : Nat → Nat) (p1 : Int32) (o0 : Int32) (hf : f_X6_isFigure p1 = some o0) : CM l yX6_isFigure wsX6_isFigure rmX6_isFigure (kS te) dC dI cI cZ [.int p1] [] [] (some (.int o0)) := by
  refine CM_of (cc := cX6_isFigure) (maxL := 1) (ret := (some .boolean)) (by decide +kernel) rfl (Nat.le_of_ble_eq_true rfl) ?_
  intro p e s m args below meth c A Q hx hb hr hml hown hts hlocks hA hK hP hD hS hE hQ hAe ls hl
  have hown : s.vm.findClass RX6 = some m.cls := hown
  have hl : lv_has ls 1 [(0, .int p1)] := hl
  unfold f_X6_isFigure at hf
  refine lv_iload_n hx hb dX6_isFigure_0 rfl (lv_at hl 0 rfl) ?_
  refine lv_bipush (v := (48 : Int32)) hx hb dX6_isFigure_1 (by decide) ?_
  refine lv_icmp_lt (tgt := 16) hx hb dX6_isFigure_3 (by decide) (fun c1 => ?_) (fun c1 => ?_)
  · replace hf := ifp c1 hf
    refine lv_iconst (v := (0 : Int32)) hx hb dX6_isFigure_16 (by decide) ?_
    obtain rfl := inj1 hf
    subst hQ
    exact CM_iret hx hb hr rfl hlocks hAe hP hD hS dX6_isFigure_17
  · replace hf := ifn c1 hf
    refine lv_iload_n hx hb dX6_isFigure_6 rfl (lv_at hl 0 rfl) ?_
    refine lv_bipush (v := (57 : Int32)) hx hb dX6_isFigure_7 (by decide) ?_
    refine lv_icmp_gt (tgt := 16) hx hb dX6_isFigure_9 (by decide) (fun c2 => ?_) (fun c2 => ?_)
    · replace hf := ifp c2 hf
      refine lv_iconst (v := (0 : Int32)) hx hb dX6_isFigure_16 (by decide) ?_
      obtain rfl := inj1 hf
      subst hQ
      exact CM_iret hx hb hr rfl hlocks hAe hP hD hS dX6_isFigure_17
    · replace hf := ifn c2 hf
      refine lv_iconst (v := (1 : Int32)) hx hb dX6_isFigure_12 (by decide) ?_
      refine lv_goto (tgt := 17) hx hb dX6_isFigure_13 (by decide) ?_
      obtain rfl := inj1 hf
      subst hQ
      exact CM_iret hx hb hr rfl hlocks hAe hP hD hS dX6_isFigure_17
def rmX6_takeNumber : Room := { frames := 1, cells := 0, slots := 0, locals := 20 }
set_option maxRecDepth 20000 in
theorem kX6_takeNumber_0 : ∀ w ∈ u_ws RX6 TX6 7, w ∈ wsX6_takeNumber := by decide +kernel
set_option maxRecDepth 20000 in
theorem kX6_takeNumber_1 : Cond.fieldLink RX6 43 "StoneRiver$Text" "value" "I" ∈ wsX6_takeNumber := by decide +kernel
set_option maxRecDepth 20000 in
theorem kX6_takeNumber_2 : Cond.fieldLink RX6 34 "StoneRiver$Text" "next" "I" ∈ wsX6_takeNumber := by decide +kernel
set_option maxRecDepth 20000 in
theorem kX6_takeNumber_3 : Cond.fieldLink RX6 18 "StoneRiver$Text" "size" "I" ∈ wsX6_takeNumber := by decide +kernel
set_option maxRecDepth 20000 in
theorem kX6_takeNumber_4 : Cond.fieldLink RX6 11 "StoneRiver$Text" "bytes" "[I" ∈ wsX6_takeNumber := by decide +kernel
set_option maxRecDepth 20000 in
theorem kX6_takeNumber_5 : Cond.fieldLink RX6 31 "StoneRiver$Text" "start" "I" ∈ wsX6_takeNumber := by decide +kernel
set_option maxHeartbeats 4000000 in
set_option maxRecDepth 100000 in
theorem c_X6_takeNumber (l : Launch) (dC : Nat → ClassId) (dI : Nat → Nat → Nat) (cI cZ : ClassId) (te : Nat → Nat) (h_t : Nat) (h_t_bytes : Nat) (h_t_numbers : Nat) (t_size : Int32) (t_start : Int32) (t_value : Int32) (t_next : Int32) (t_word : Int32) (t_bytes : Nat → Int32) (o0 : Int32) (o1 : Int32) (o2 : Int32) (hf : f_X6_takeNumber t_size t_start t_next t_bytes = some (o0, o1, o2)) : CM l yX6_takeNumber wsX6_takeNumber rmX6_takeNumber (kS te) dC dI cI cZ [.ref h_t] [(h_t, .inr (5, fX6 h_t_bytes t_size t_start t_value t_next t_word h_t_numbers)), (h_t_bytes, .inl (cI, 240, .inl t_bytes))] [(h_t, .inr (5, fX6 h_t_bytes t_size t_start o1 o2 t_word h_t_numbers)), (h_t_bytes, .inl (cI, 240, .inl t_bytes))] (some (.int o0)) := by
  refine CM_of (cc := cX6_takeNumber) (maxL := 1) (ret := (some .int)) (by decide +kernel) rfl (Nat.le_of_ble_eq_true rfl) ?_
  intro p e s m args below meth c A Q hx hb hr hml hown hts hlocks hA hK hP hD hS hE hQ hAe ls hl
  have hown : s.vm.findClass RX6 = some m.cls := hown
  have hl : lv_has ls 1 [(0, .ref h_t)] := hl
  unfold f_X6_takeNumber at hf
  refine lv_aload_n hx hb dX6_takeNumber_0 rfl (lv_at hl 0 rfl) ?_
  refine lv_iconst (v := (0 : Int32)) hx hb dX6_takeNumber_1 (by decide) ?_
  refine va_put (D := (dC, dI)) (ci := 5) (v := .int (0 : Int32)) (ty := tyX6 3) (C := RX6) (T := TX6) (N := 7) hx hb hts kX6_takeNumber_0 tyX6 tyX6_ok nmX6 hown hK hP hD hS 0 rfl rfl 3 (by decide) (hts _ kX6_takeNumber_1) (fun _ h9 => h9) rfl (tyX6_ok 3 (by decide)) rfl rfl (Nat.le_of_ble_eq_true rfl) dX6_takeNumber_2 (fun H locs hP hD hS => ?_)
  have hP : va_P (dC, dI) vwCl [(h_t, .inr (5, fX6 h_t_bytes t_size t_start (0 : Int32) t_next t_word h_t_numbers)), (h_t_bytes, .inl (cI, 240, .inl t_bytes))] H := hP
  have hD : va_D A [(h_t, .inr (5, fX6 h_t_bytes t_size t_start (0 : Int32) t_next t_word h_t_numbers)), (h_t_bytes, .inl (cI, 240, .inl t_bytes))] := hD
  have L30 : ∀ (fu18 : Nat) (x15 : Int32) (x16 : Int32) (x13 : Int32) (x14 : Int32), f_X6_takeNumber_L1 t_size t_bytes fu18 x15 x16 = some (x13, x14) → (∀ (H : Heap) (locs : List Loc), va_P (dC, dI) vwCl [(h_t, .inr (5, fX6 h_t_bytes t_size t_start x13 x14 t_word h_t_numbers)), (h_t_bytes, .inl (cI, 240, .inl t_bytes))] H → va_D A [(h_t, .inr (5, fX6 h_t_bytes t_size t_start x13 x14 t_word h_t_numbers)), (h_t_bytes, .inl (cI, 240, .inl t_bytes))] → va_S A s.heap H locs → ∀ ls : Array Slot, lv_has ls 1 [(0, .ref h_t)] → W p l e rmX6_takeNumber s m args below meth c H locs 0 0 Q (F0 m 68 ls [])) → ∀ (H : Heap) (locs : List Loc), va_P (dC, dI) vwCl [(h_t, .inr (5, fX6 h_t_bytes t_size t_start x15 x16 t_word h_t_numbers)), (h_t_bytes, .inl (cI, 240, .inl t_bytes))] H → va_D A [(h_t, .inr (5, fX6 h_t_bytes t_size t_start x15 x16 t_word h_t_numbers)), (h_t_bytes, .inl (cI, 240, .inl t_bytes))] → va_S A s.heap H locs → ∀ ls : Array Slot, lv_has ls 1 [(0, .ref h_t)] → W p l e rmX6_takeNumber s m args below meth c H locs 0 0 Q (F0 m 5 ls []) := by
    intro fu18
    induction fu18 with
    | zero =>
      intro x15 x16 x13 x14 hf
      unfold f_X6_takeNumber_L1 at hf
      exact none_ne hf
    | succ fu18 ih17 =>
      intro x15 x16 x13 x14 hf hX19 H locs hP hD hS ls hl
      unfold f_X6_takeNumber_L1 at hf
      refine lv_aload_n hx hb dX6_takeNumber_5 rfl (lv_at hl 0 rfl) ?_
      refine va_get (D := (dC, dI)) (ci := 5) (v := .int x16) (C := RX6) (T := TX6) (N := 7) hx hb hts kX6_takeNumber_0 hown hK hP 0 rfl rfl 4 (by decide) (hts _ kX6_takeNumber_2) (fun _ h9 => h9) rfl dX6_takeNumber_6 ?_
      refine lv_aload_n hx hb dX6_takeNumber_9 rfl (lv_at hl 0 rfl) ?_
      refine va_get (D := (dC, dI)) (ci := 5) (v := .int t_size) (C := RX6) (T := TX6) (N := 7) hx hb hts kX6_takeNumber_0 hown hK hP 0 rfl rfl 1 (by decide) (hts _ kX6_takeNumber_3) (fun _ h9 => h9) rfl dX6_takeNumber_10 ?_
      refine lv_icmp_ge (tgt := 68) hx hb dX6_takeNumber_13 (by decide) (fun c20 => ?_) (fun c20 => ?_)
      · replace hf := ifp c20 hf
        obtain ⟨rfl, rfl⟩ := inj2 hf
        exact hX19 _ _ hP hD hS _ (lv_sub hl [0] rfl)
      · replace hf := ifn c20 hf
        refine lv_aload_n hx hb dX6_takeNumber_16 rfl (lv_at hl 0 rfl) ?_
        refine va_get (D := (dC, dI)) (ci := 5) (v := .ref h_t_bytes) (C := RX6) (T := TX6) (N := 7) hx hb hts kX6_takeNumber_0 hown hK hP 0 rfl rfl 0 (by decide) (hts _ kX6_takeNumber_4) (fun _ h9 => h9) rfl dX6_takeNumber_17 ?_
        refine lv_aload_n hx hb dX6_takeNumber_20 rfl (lv_at hl 0 rfl) ?_
        refine va_get (D := (dC, dI)) (ci := 5) (v := .int x16) (C := RX6) (T := TX6) (N := 7) hx hb hts kX6_takeNumber_0 hown hK hP 0 rfl rfl 4 (by decide) (hts _ kX6_takeNumber_2) (fun _ h9 => h9) rfl dX6_takeNumber_21 ?_
        obtain ⟨g21, hf⟩ := chk_some hf
        refine va_iald hx hb hK hP 1 0 rfl rfl (gin_in g21) dX6_takeNumber_24 ?_
        obtain ⟨r22, hg23, hf⟩ := bd1_some hf
        refine CM_callS (As := [.int (t_bytes x16.toNatClampNeg)]) (rest := []) (wc := []) (w1 := []) (wr := [(h_t, .inr (5, fX6 h_t_bytes t_size t_start x15 x16 t_word h_t_numbers)), (h_t_bytes, .inl (cI, 240, .inl t_bytes))]) (wo := [(h_t, .inr (5, fX6 h_t_bytes t_size t_start x15 x16 t_word h_t_numbers)), (h_t_bytes, .inl (cI, 240, .inl t_bytes))]) (v := (some (.int r22))) ⟨hx, hb, hml, hown, hts⟩ (c_X6_isFigure l dC dI cI cZ te (t_bytes x16.toNatClampNeg) r22 hg23) (va_cwS 1 hts gX6_takeNumber_X6_isFigure rfl rfl rfl (by decide +kernel) ⟨Nat.le_of_ble_eq_true rfl, Nat.le_of_ble_eq_true rfl⟩) (kS_env te) hK hP hD hS hA hE [] [0, 1] [0, 1] rfl rfl (by decide) (by decide) (by decide) (by decide) rfl rfl hl.1 rfl (Nat.le_of_ble_eq_true rfl) dX6_takeNumber_25 ⟨Nat.zero_le _, Nat.zero_le _⟩ (fun H locs hP hD hS => ?_)
        show W p l e rmX6_takeNumber s m args below meth c H locs 0 0 Q (F0 m 28 ls [.int r22])
        refine lv_if_eq (tgt := 68) hx hb dX6_takeNumber_28 (by decide) (fun c24 => ?_) (fun c24 => ?_)
        · replace hf := ifp c24 hf
          obtain ⟨rfl, rfl⟩ := inj2 hf
          exact hX19 _ _ hP hD hS _ (lv_sub hl [0] rfl)
        · replace hf := ifn c24 hf
          refine lv_aload_n hx hb dX6_takeNumber_31 rfl (lv_at hl 0 rfl) ?_
          refine lv_bipush (v := (10 : Int32)) hx hb dX6_takeNumber_32 (by decide) ?_
          refine lv_aload_n hx hb dX6_takeNumber_34 rfl (lv_at hl 0 rfl) ?_
          refine va_get (D := (dC, dI)) (ci := 5) (v := .int x15) (C := RX6) (T := TX6) (N := 7) hx hb hts kX6_takeNumber_0 hown hK hP 0 rfl rfl 3 (by decide) (hts _ kX6_takeNumber_1) (fun _ h9 => h9) rfl dX6_takeNumber_35 ?_
          refine lv_imul hx hb dX6_takeNumber_38 ?_
          refine lv_aload_n hx hb dX6_takeNumber_39 rfl (lv_at hl 0 rfl) ?_
          refine va_get (D := (dC, dI)) (ci := 5) (v := .ref h_t_bytes) (C := RX6) (T := TX6) (N := 7) hx hb hts kX6_takeNumber_0 hown hK hP 0 rfl rfl 0 (by decide) (hts _ kX6_takeNumber_4) (fun _ h9 => h9) rfl dX6_takeNumber_40 ?_
          refine lv_aload_n hx hb dX6_takeNumber_43 rfl (lv_at hl 0 rfl) ?_
          refine va_get (D := (dC, dI)) (ci := 5) (v := .int x16) (C := RX6) (T := TX6) (N := 7) hx hb hts kX6_takeNumber_0 hown hK hP 0 rfl rfl 4 (by decide) (hts _ kX6_takeNumber_2) (fun _ h9 => h9) rfl dX6_takeNumber_44 ?_
          obtain ⟨g25, hf⟩ := chk_some hf
          refine va_iald hx hb hK hP 1 0 rfl rfl (gin_in g25) dX6_takeNumber_47 ?_
          refine lv_iadd hx hb dX6_takeNumber_48 ?_
          refine lv_bipush (v := (48 : Int32)) hx hb dX6_takeNumber_49 (by decide) ?_
          refine lv_isub hx hb dX6_takeNumber_51 ?_
          obtain ⟨x26, e27, hf⟩ := nm_some hf
          refine lv_tope e27 ?_
          refine va_put (D := (dC, dI)) (ci := 5) (v := .int x26) (ty := tyX6 3) (C := RX6) (T := TX6) (N := 7) hx hb hts kX6_takeNumber_0 tyX6 tyX6_ok nmX6 hown hK hP hD hS 0 rfl rfl 3 (by decide) (hts _ kX6_takeNumber_1) (fun _ h9 => h9) rfl (tyX6_ok 3 (by decide)) rfl rfl (Nat.le_of_ble_eq_true rfl) dX6_takeNumber_52 (fun H locs hP hD hS => ?_)
          have hP : va_P (dC, dI) vwCl [(h_t, .inr (5, fX6 h_t_bytes t_size t_start x26 x16 t_word h_t_numbers)), (h_t_bytes, .inl (cI, 240, .inl t_bytes))] H := hP
          have hD : va_D A [(h_t, .inr (5, fX6 h_t_bytes t_size t_start x26 x16 t_word h_t_numbers)), (h_t_bytes, .inl (cI, 240, .inl t_bytes))] := hD
          refine lv_aload_n hx hb dX6_takeNumber_55 rfl (lv_at hl 0 rfl) ?_
          refine lv_dup hx hb dX6_takeNumber_56 rfl ?_
          refine va_get (D := (dC, dI)) (ci := 5) (v := .int x16) (C := RX6) (T := TX6) (N := 7) hx hb hts kX6_takeNumber_0 hown hK hP 0 rfl rfl 4 (by decide) (hts _ kX6_takeNumber_2) (fun _ h9 => h9) rfl dX6_takeNumber_57 ?_
          refine lv_iconst (v := (1 : Int32)) hx hb dX6_takeNumber_60 (by decide) ?_
          refine lv_iadd hx hb dX6_takeNumber_61 ?_
          obtain ⟨x28, e29, hf⟩ := nm_some hf
          refine lv_tope e29 ?_
          refine va_put (D := (dC, dI)) (ci := 5) (v := .int x28) (ty := tyX6 4) (C := RX6) (T := TX6) (N := 7) hx hb hts kX6_takeNumber_0 tyX6 tyX6_ok nmX6 hown hK hP hD hS 0 rfl rfl 4 (by decide) (hts _ kX6_takeNumber_2) (fun _ h9 => h9) rfl (tyX6_ok 4 (by decide)) rfl rfl (Nat.le_of_ble_eq_true rfl) dX6_takeNumber_62 (fun H locs hP hD hS => ?_)
          have hP : va_P (dC, dI) vwCl [(h_t, .inr (5, fX6 h_t_bytes t_size t_start x26 x28 t_word h_t_numbers)), (h_t_bytes, .inl (cI, 240, .inl t_bytes))] H := hP
          have hD : va_D A [(h_t, .inr (5, fX6 h_t_bytes t_size t_start x26 x28 t_word h_t_numbers)), (h_t_bytes, .inl (cI, 240, .inl t_bytes))] := hD
          refine lv_goto (tgt := 5) hx hb dX6_takeNumber_65 (by decide) ?_
          exact ih17 _ _ _ _ hf hX19 _ _ hP hD hS _ (lv_sub hl [0] rfl)
  obtain ⟨x13, x14, hg, hf⟩ := bd2_some hf
  refine L30 FU _ _ _ _ hg ?_ _ _ hP hD hS _ (lv_sub hl [0] rfl)
  · intro H locs hP hD hS ls hl
    refine lv_aload_n hx hb dX6_takeNumber_68 rfl (lv_at hl 0 rfl) ?_
    refine va_get (D := (dC, dI)) (ci := 5) (v := .int x14) (C := RX6) (T := TX6) (N := 7) hx hb hts kX6_takeNumber_0 hown hK hP 0 rfl rfl 4 (by decide) (hts _ kX6_takeNumber_2) (fun _ h9 => h9) rfl dX6_takeNumber_69 ?_
    refine lv_aload_n hx hb dX6_takeNumber_72 rfl (lv_at hl 0 rfl) ?_
    refine va_get (D := (dC, dI)) (ci := 5) (v := .int t_start) (C := RX6) (T := TX6) (N := 7) hx hb hts kX6_takeNumber_0 hown hK hP 0 rfl rfl 2 (by decide) (hts _ kX6_takeNumber_5) (fun _ h9 => h9) rfl dX6_takeNumber_73 ?_
    refine lv_isub hx hb dX6_takeNumber_76 ?_
    refine lv_iconst (v := (4 : Int32)) hx hb dX6_takeNumber_77 (by decide) ?_
    refine lv_icmp_le (tgt := 85) hx hb dX6_takeNumber_78 (by decide) (fun c31 => ?_) (fun c31 => ?_)
    · replace hf := ifp c31 hf
      refine lv_iconst (v := (2 : Int32)) hx hb dX6_takeNumber_85 (by decide) ?_
      obtain ⟨rfl, rfl, rfl⟩ := inj3 hf
      subst hQ
      exact CM_iret hx hb hr rfl hlocks hAe hP hD hS dX6_takeNumber_86
    · replace hf := ifn c31 hf
      refine lv_iconst (v := (4 : Int32)) hx hb dX6_takeNumber_81 (by decide) ?_
      refine lv_goto (tgt := 86) hx hb dX6_takeNumber_82 (by decide) ?_
      obtain ⟨rfl, rfl, rfl⟩ := inj3 hf
      subst hQ
      exact CM_iret hx hb hr rfl hlocks hAe hP hD hS dX6_takeNumber_86
def rmX6_takeToken : Room := { frames := 6, cells := 0, slots := 0, locals := 129 }
set_option maxRecDepth 20000 in
theorem kX6_takeToken_0 : ∀ w ∈ u_ws RX6 TX6 7, w ∈ wsX6_takeToken := by decide +kernel
set_option maxRecDepth 20000 in
theorem kX6_takeToken_1 : Cond.fieldLink RX6 34 "StoneRiver$Text" "next" "I" ∈ wsX6_takeToken := by decide +kernel
set_option maxRecDepth 20000 in
theorem kX6_takeToken_2 : Cond.fieldLink RX6 18 "StoneRiver$Text" "size" "I" ∈ wsX6_takeToken := by decide +kernel
set_option maxRecDepth 20000 in
theorem kX6_takeToken_3 : Cond.fieldLink RX6 11 "StoneRiver$Text" "bytes" "[I" ∈ wsX6_takeToken := by decide +kernel
set_option maxRecDepth 20000 in
theorem kX6_takeToken_4 : Cond.fieldLink RX6 31 "StoneRiver$Text" "start" "I" ∈ wsX6_takeToken := by decide +kernel
set_option maxHeartbeats 4000000 in
set_option maxRecDepth 100000 in
theorem c_X6_takeToken (l : Launch) (dC : Nat → ClassId) (dI : Nat → Nat → Nat) (cI cZ : ClassId) (te : Nat → Nat) (h_t : Nat) (h_t_bytes : Nat) (h_t_numbers : Nat) (t_size : Int32) (t_start : Int32) (t_value : Int32) (t_next : Int32) (t_word : Int32) (t_bytes : Nat → Int32) (o0 : Int32) (o1 : Int32) (o2 : Int32) (o3 : Int32) (hf : f_X6_takeToken t_size t_value t_next t_bytes = some (o0, o1, o2, o3)) : CM l yX6_takeToken wsX6_takeToken rmX6_takeToken (kS te) dC dI cI cZ [.ref h_t] [(h_t, .inr (5, fX6 h_t_bytes t_size t_start t_value t_next t_word h_t_numbers)), (h_t_bytes, .inl (cI, 240, .inl t_bytes))] [(h_t, .inr (5, fX6 h_t_bytes t_size o1 o2 o3 t_word h_t_numbers)), (h_t_bytes, .inl (cI, 240, .inl t_bytes))] (some (.int o0)) := by
  refine CM_of (cc := cX6_takeToken) (maxL := 1) (ret := (some .int)) (by decide +kernel) rfl (Nat.le_of_ble_eq_true rfl) ?_
  intro p e s m args below meth c A Q hx hb hr hml hown hts hlocks hA hK hP hD hS hE hQ hAe ls hl
  have hown : s.vm.findClass RX6 = some m.cls := hown
  have hl : lv_has ls 1 [(0, .ref h_t)] := hl
  unfold f_X6_takeToken at hf
  have L17 : ∀ (fu10 : Nat) (x8 : Int32) (x7 : Int32), f_X6_takeToken_L1 t_size t_bytes fu10 x8 = some x7 → (∀ (H : Heap) (locs : List Loc), va_P (dC, dI) vwCl [(h_t, .inr (5, fX6 h_t_bytes t_size t_start t_value x7 t_word h_t_numbers)), (h_t_bytes, .inl (cI, 240, .inl t_bytes))] H → va_D A [(h_t, .inr (5, fX6 h_t_bytes t_size t_start t_value x7 t_word h_t_numbers)), (h_t_bytes, .inl (cI, 240, .inl t_bytes))] → va_S A s.heap H locs → ∀ ls : Array Slot, lv_has ls 1 [(0, .ref h_t)] → W p l e rmX6_takeToken s m args below meth c H locs 0 0 Q (F0 m 38 ls [])) → ∀ (H : Heap) (locs : List Loc), va_P (dC, dI) vwCl [(h_t, .inr (5, fX6 h_t_bytes t_size t_start t_value x8 t_word h_t_numbers)), (h_t_bytes, .inl (cI, 240, .inl t_bytes))] H → va_D A [(h_t, .inr (5, fX6 h_t_bytes t_size t_start t_value x8 t_word h_t_numbers)), (h_t_bytes, .inl (cI, 240, .inl t_bytes))] → va_S A s.heap H locs → ∀ ls : Array Slot, lv_has ls 1 [(0, .ref h_t)] → W p l e rmX6_takeToken s m args below meth c H locs 0 0 Q (F0 m 0 ls []) := by
    intro fu10
    induction fu10 with
    | zero =>
      intro x8 x7 hf
      unfold f_X6_takeToken_L1 at hf
      exact none_ne hf
    | succ fu10 ih9 =>
      intro x8 x7 hf hX11 H locs hP hD hS ls hl
      unfold f_X6_takeToken_L1 at hf
      refine lv_aload_n hx hb dX6_takeToken_0 rfl (lv_at hl 0 rfl) ?_
      refine va_get (D := (dC, dI)) (ci := 5) (v := .int x8) (C := RX6) (T := TX6) (N := 7) hx hb hts kX6_takeToken_0 hown hK hP 0 rfl rfl 4 (by decide) (hts _ kX6_takeToken_1) (fun _ h9 => h9) rfl dX6_takeToken_1 ?_
      refine lv_aload_n hx hb dX6_takeToken_4 rfl (lv_at hl 0 rfl) ?_
      refine va_get (D := (dC, dI)) (ci := 5) (v := .int t_size) (C := RX6) (T := TX6) (N := 7) hx hb hts kX6_takeToken_0 hown hK hP 0 rfl rfl 1 (by decide) (hts _ kX6_takeToken_2) (fun _ h9 => h9) rfl dX6_takeToken_5 ?_
      refine lv_icmp_ge (tgt := 38) hx hb dX6_takeToken_8 (by decide) (fun c12 => ?_) (fun c12 => ?_)
      · replace hf := ifp c12 hf
        obtain rfl := inj1 hf
        exact hX11 _ _ hP hD hS _ (lv_sub hl [0] rfl)
      · replace hf := ifn c12 hf
        refine lv_aload_n hx hb dX6_takeToken_11 rfl (lv_at hl 0 rfl) ?_
        refine va_get (D := (dC, dI)) (ci := 5) (v := .ref h_t_bytes) (C := RX6) (T := TX6) (N := 7) hx hb hts kX6_takeToken_0 hown hK hP 0 rfl rfl 0 (by decide) (hts _ kX6_takeToken_3) (fun _ h9 => h9) rfl dX6_takeToken_12 ?_
        refine lv_aload_n hx hb dX6_takeToken_15 rfl (lv_at hl 0 rfl) ?_
        refine va_get (D := (dC, dI)) (ci := 5) (v := .int x8) (C := RX6) (T := TX6) (N := 7) hx hb hts kX6_takeToken_0 hown hK hP 0 rfl rfl 4 (by decide) (hts _ kX6_takeToken_1) (fun _ h9 => h9) rfl dX6_takeToken_16 ?_
        obtain ⟨g13, hf⟩ := chk_some hf
        refine va_iald hx hb hK hP 1 0 rfl rfl (gin_in g13) dX6_takeToken_19 ?_
        refine lv_bipush (v := (32 : Int32)) hx hb dX6_takeToken_20 (by decide) ?_
        refine lv_icmp_ne (tgt := 38) hx hb dX6_takeToken_22 (by decide) (fun c14 => ?_) (fun c14 => ?_)
        · replace hf := ifn c14 hf
          obtain rfl := inj1 hf
          exact hX11 _ _ hP hD hS _ (lv_sub hl [0] rfl)
        · replace hf := ifp c14 hf
          refine lv_aload_n hx hb dX6_takeToken_25 rfl (lv_at hl 0 rfl) ?_
          refine lv_dup hx hb dX6_takeToken_26 rfl ?_
          refine va_get (D := (dC, dI)) (ci := 5) (v := .int x8) (C := RX6) (T := TX6) (N := 7) hx hb hts kX6_takeToken_0 hown hK hP 0 rfl rfl 4 (by decide) (hts _ kX6_takeToken_1) (fun _ h9 => h9) rfl dX6_takeToken_27 ?_
          refine lv_iconst (v := (1 : Int32)) hx hb dX6_takeToken_30 (by decide) ?_
          refine lv_iadd hx hb dX6_takeToken_31 ?_
          obtain ⟨x15, e16, hf⟩ := nm_some hf
          refine lv_tope e16 ?_
          refine va_put (D := (dC, dI)) (ci := 5) (v := .int x15) (ty := tyX6 4) (C := RX6) (T := TX6) (N := 7) hx hb hts kX6_takeToken_0 tyX6 tyX6_ok nmX6 hown hK hP hD hS 0 rfl rfl 4 (by decide) (hts _ kX6_takeToken_1) (fun _ h9 => h9) rfl (tyX6_ok 4 (by decide)) rfl rfl (Nat.le_of_ble_eq_true rfl) dX6_takeToken_32 (fun H locs hP hD hS => ?_)
          have hP : va_P (dC, dI) vwCl [(h_t, .inr (5, fX6 h_t_bytes t_size t_start t_value x15 t_word h_t_numbers)), (h_t_bytes, .inl (cI, 240, .inl t_bytes))] H := hP
          have hD : va_D A [(h_t, .inr (5, fX6 h_t_bytes t_size t_start t_value x15 t_word h_t_numbers)), (h_t_bytes, .inl (cI, 240, .inl t_bytes))] := hD
          refine lv_goto (tgt := 0) hx hb dX6_takeToken_35 (by decide) ?_
          exact ih9 _ _ hf hX11 _ _ hP hD hS _ (lv_sub hl [0] rfl)
  obtain ⟨x7, hg, hf⟩ := bd1_some hf
  refine L17 FU _ _ hg ?_ _ _ hP hD hS _ (lv_sub hl [0] rfl)
  · intro H locs hP hD hS ls hl
    refine lv_aload_n hx hb dX6_takeToken_38 rfl (lv_at hl 0 rfl) ?_
    refine lv_aload_n hx hb dX6_takeToken_39 rfl (lv_at hl 0 rfl) ?_
    refine va_get (D := (dC, dI)) (ci := 5) (v := .int x7) (C := RX6) (T := TX6) (N := 7) hx hb hts kX6_takeToken_0 hown hK hP 0 rfl rfl 4 (by decide) (hts _ kX6_takeToken_1) (fun _ h9 => h9) rfl dX6_takeToken_40 ?_
    refine va_put (D := (dC, dI)) (ci := 5) (v := .int x7) (ty := tyX6 2) (C := RX6) (T := TX6) (N := 7) hx hb hts kX6_takeToken_0 tyX6 tyX6_ok nmX6 hown hK hP hD hS 0 rfl rfl 2 (by decide) (hts _ kX6_takeToken_4) (fun _ h9 => h9) rfl (tyX6_ok 2 (by decide)) rfl rfl (Nat.le_of_ble_eq_true rfl) dX6_takeToken_43 (fun H locs hP hD hS => ?_)
    have hP : va_P (dC, dI) vwCl [(h_t, .inr (5, fX6 h_t_bytes t_size x7 t_value x7 t_word h_t_numbers)), (h_t_bytes, .inl (cI, 240, .inl t_bytes))] H := hP
    have hD : va_D A [(h_t, .inr (5, fX6 h_t_bytes t_size x7 t_value x7 t_word h_t_numbers)), (h_t_bytes, .inl (cI, 240, .inl t_bytes))] := hD
    refine lv_aload_n hx hb dX6_takeToken_46 rfl (lv_at hl 0 rfl) ?_
    refine va_get (D := (dC, dI)) (ci := 5) (v := .int x7) (C := RX6) (T := TX6) (N := 7) hx hb hts kX6_takeToken_0 hown hK hP 0 rfl rfl 4 (by decide) (hts _ kX6_takeToken_1) (fun _ h9 => h9) rfl dX6_takeToken_47 ?_
    refine lv_aload_n hx hb dX6_takeToken_50 rfl (lv_at hl 0 rfl) ?_
    refine va_get (D := (dC, dI)) (ci := 5) (v := .int t_size) (C := RX6) (T := TX6) (N := 7) hx hb hts kX6_takeToken_0 hown hK hP 0 rfl rfl 1 (by decide) (hts _ kX6_takeToken_2) (fun _ h9 => h9) rfl dX6_takeToken_51 ?_
    refine lv_icmp_lt (tgt := 59) hx hb dX6_takeToken_54 (by decide) (fun c18 => ?_) (fun c18 => ?_)
    · replace hf := ifp c18 hf
      refine lv_aload_n hx hb dX6_takeToken_59 rfl (lv_at hl 0 rfl) ?_
      refine va_get (D := (dC, dI)) (ci := 5) (v := .ref h_t_bytes) (C := RX6) (T := TX6) (N := 7) hx hb hts kX6_takeToken_0 hown hK hP 0 rfl rfl 0 (by decide) (hts _ kX6_takeToken_3) (fun _ h9 => h9) rfl dX6_takeToken_60 ?_
      refine lv_aload_n hx hb dX6_takeToken_63 rfl (lv_at hl 0 rfl) ?_
      refine va_get (D := (dC, dI)) (ci := 5) (v := .int x7) (C := RX6) (T := TX6) (N := 7) hx hb hts kX6_takeToken_0 hown hK hP 0 rfl rfl 4 (by decide) (hts _ kX6_takeToken_1) (fun _ h9 => h9) rfl dX6_takeToken_64 ?_
      obtain ⟨g19, hf⟩ := chk_some hf
      refine va_iald hx hb hK hP 1 0 rfl rfl (gin_in g19) dX6_takeToken_67 ?_
      refine lv_bipush (v := (59 : Int32)) hx hb dX6_takeToken_68 (by decide) ?_
      refine lv_icmp_ne (tgt := 85) hx hb dX6_takeToken_70 (by decide) (fun c20 => ?_) (fun c20 => ?_)
      · replace hf := ifn c20 hf
        refine lv_aload_n hx hb dX6_takeToken_85 rfl (lv_at hl 0 rfl) ?_
        refine va_get (D := (dC, dI)) (ci := 5) (v := .ref h_t_bytes) (C := RX6) (T := TX6) (N := 7) hx hb hts kX6_takeToken_0 hown hK hP 0 rfl rfl 0 (by decide) (hts _ kX6_takeToken_3) (fun _ h9 => h9) rfl dX6_takeToken_86 ?_
        refine lv_aload_n hx hb dX6_takeToken_89 rfl (lv_at hl 0 rfl) ?_
        refine va_get (D := (dC, dI)) (ci := 5) (v := .int x7) (C := RX6) (T := TX6) (N := 7) hx hb hts kX6_takeToken_0 hown hK hP 0 rfl rfl 4 (by decide) (hts _ kX6_takeToken_1) (fun _ h9 => h9) rfl dX6_takeToken_90 ?_
        obtain ⟨g21, hf⟩ := chk_some hf
        refine va_iald hx hb hK hP 1 0 rfl rfl (gin_in g21) dX6_takeToken_93 ?_
        obtain ⟨r22, hg23, hf⟩ := bd1_some hf
        refine CM_callS (As := [.int (t_bytes x7.toNatClampNeg)]) (rest := []) (wc := []) (w1 := []) (wr := [(h_t, .inr (5, fX6 h_t_bytes t_size x7 t_value x7 t_word h_t_numbers)), (h_t_bytes, .inl (cI, 240, .inl t_bytes))]) (wo := [(h_t, .inr (5, fX6 h_t_bytes t_size x7 t_value x7 t_word h_t_numbers)), (h_t_bytes, .inl (cI, 240, .inl t_bytes))]) (v := (some (.int r22))) ⟨hx, hb, hml, hown, hts⟩ (c_X6_isLetter l dC dI cI cZ te (t_bytes x7.toNatClampNeg) r22 hg23) (va_cwS 1 hts gX6_takeToken_X6_isLetter rfl rfl rfl (by decide +kernel) ⟨Nat.le_of_ble_eq_true rfl, Nat.le_of_ble_eq_true rfl⟩) (kS_env te) hK hP hD hS hA hE [] [0, 1] [0, 1] rfl rfl (by decide) (by decide) (by decide) (by decide) rfl rfl hl.1 rfl (Nat.le_of_ble_eq_true rfl) dX6_takeToken_94 ⟨Nat.zero_le _, Nat.zero_le _⟩ (fun H locs hP hD hS => ?_)
        show W p l e rmX6_takeToken s m args below meth c H locs 0 0 Q (F0 m 97 ls [.int r22])
        refine lv_if_eq (tgt := 105) hx hb dX6_takeToken_97 (by decide) (fun c24 => ?_) (fun c24 => ?_)
        · replace hf := ifp c24 hf
          refine lv_aload_n hx hb dX6_takeToken_105 rfl (lv_at hl 0 rfl) ?_
          refine va_get (D := (dC, dI)) (ci := 5) (v := .ref h_t_bytes) (C := RX6) (T := TX6) (N := 7) hx hb hts kX6_takeToken_0 hown hK hP 0 rfl rfl 0 (by decide) (hts _ kX6_takeToken_3) (fun _ h9 => h9) rfl dX6_takeToken_106 ?_
          refine lv_aload_n hx hb dX6_takeToken_109 rfl (lv_at hl 0 rfl) ?_
          refine va_get (D := (dC, dI)) (ci := 5) (v := .int x7) (C := RX6) (T := TX6) (N := 7) hx hb hts kX6_takeToken_0 hown hK hP 0 rfl rfl 4 (by decide) (hts _ kX6_takeToken_1) (fun _ h9 => h9) rfl dX6_takeToken_110 ?_
          obtain ⟨g25, hf⟩ := chk_some hf
          refine va_iald hx hb hK hP 1 0 rfl rfl (gin_in g25) dX6_takeToken_113 ?_
          obtain ⟨r26, hg27, hf⟩ := bd1_some hf
          refine CM_callS (As := [.int (t_bytes x7.toNatClampNeg)]) (rest := []) (wc := []) (w1 := []) (wr := [(h_t, .inr (5, fX6 h_t_bytes t_size x7 t_value x7 t_word h_t_numbers)), (h_t_bytes, .inl (cI, 240, .inl t_bytes))]) (wo := [(h_t, .inr (5, fX6 h_t_bytes t_size x7 t_value x7 t_word h_t_numbers)), (h_t_bytes, .inl (cI, 240, .inl t_bytes))]) (v := (some (.int r26))) ⟨hx, hb, hml, hown, hts⟩ (c_X6_isFigure l dC dI cI cZ te (t_bytes x7.toNatClampNeg) r26 hg27) (va_cwS 1 hts gX6_takeToken_X6_isFigure rfl rfl rfl (by decide +kernel) ⟨Nat.le_of_ble_eq_true rfl, Nat.le_of_ble_eq_true rfl⟩) (kS_env te) hK hP hD hS hA hE [] [0, 1] [0, 1] rfl rfl (by decide) (by decide) (by decide) (by decide) rfl rfl hl.1 rfl (Nat.le_of_ble_eq_true rfl) dX6_takeToken_114 ⟨Nat.zero_le _, Nat.zero_le _⟩ (fun H locs hP hD hS => ?_)
          show W p l e rmX6_takeToken s m args below meth c H locs 0 0 Q (F0 m 117 ls [.int r26])
          refine lv_if_eq (tgt := 127) hx hb dX6_takeToken_117 (by decide) (fun c28 => ?_) (fun c28 => ?_)
          · replace hf := ifp c28 hf
            refine lv_iconst (v := (4 : Int32)) hx hb dX6_takeToken_127 (by decide) ?_
            obtain ⟨rfl, rfl, rfl, rfl⟩ := inj4 hf
            subst hQ
            exact CM_iret hx hb hr rfl hlocks hAe hP hD hS dX6_takeToken_128
          · replace hf := ifn c28 hf
            refine lv_aload_n hx hb dX6_takeToken_120 rfl (lv_at hl 0 rfl) ?_
            obtain ⟨r29, x30, x31, hg32, hf⟩ := bd3_some hf
            refine CM_callV (C := RX6) (As := []) (rest := []) (wc := [(h_t, .inr (5, fX6 h_t_bytes t_size x7 t_value x7 t_word h_t_numbers)), (h_t_bytes, .inl (cI, 240, .inl t_bytes))]) (w1 := [(h_t, .inr (5, fX6 h_t_bytes t_size x7 x30 x31 t_word h_t_numbers)), (h_t_bytes, .inl (cI, 240, .inl t_bytes))]) (wr := []) (wo := [(h_t, .inr (5, fX6 h_t_bytes t_size x7 x30 x31 t_word h_t_numbers)), (h_t_bytes, .inl (cI, 240, .inl t_bytes))]) (v := (some (.int r29))) ⟨hx, hb, hml, hown, hts⟩ (c_X6_takeNumber l dC dI cI cZ te h_t h_t_bytes h_t_numbers t_size x7 t_value x7 t_word t_bytes r29 x30 x31 hg32) (cwV 0 hts gX6_takeToken_X6_takeNumber rfl rfl rfl (by decide +kernel) ⟨Nat.le_of_ble_eq_true rfl, Nat.le_of_ble_eq_true rfl⟩) (kS_env te) hK hP hD hS hA hE [0, 1] [] [0, 1] rfl rfl (by decide) (by decide) (by decide) (by decide) rfl 0 5 rfl rfl rfl rfl hl.1 rfl (Nat.le_of_ble_eq_true rfl) dX6_takeToken_121 ⟨Nat.zero_le _, Nat.zero_le _⟩ (fun H locs hP hD hS => ?_)
            show W p l e rmX6_takeToken s m args below meth c H locs 0 0 Q (F0 m 124 ls [.int r29])
            refine lv_goto (tgt := 128) hx hb dX6_takeToken_124 (by decide) ?_
            obtain ⟨rfl, rfl, rfl, rfl⟩ := inj4 hf
            subst hQ
            exact CM_iret hx hb hr rfl hlocks hAe hP hD hS dX6_takeToken_128
        · replace hf := ifn c24 hf
          refine lv_aload_n hx hb dX6_takeToken_100 rfl (lv_at hl 0 rfl) ?_
          obtain ⟨r33, x34, x35, hg36, hf⟩ := bd3_some hf
          refine CM_callV (C := RX6) (As := []) (rest := []) (wc := [(h_t, .inr (5, fX6 h_t_bytes t_size x7 t_value x7 t_word h_t_numbers)), (h_t_bytes, .inl (cI, 240, .inl t_bytes))]) (w1 := [(h_t, .inr (5, fX6 h_t_bytes t_size x7 x34 x35 t_word h_t_numbers)), (h_t_bytes, .inl (cI, 240, .inl t_bytes))]) (wr := []) (wo := [(h_t, .inr (5, fX6 h_t_bytes t_size x7 x34 x35 t_word h_t_numbers)), (h_t_bytes, .inl (cI, 240, .inl t_bytes))]) (v := (some (.int r33))) ⟨hx, hb, hml, hown, hts⟩ (c_X6_takeWord l dC dI cI cZ te h_t h_t_bytes h_t_numbers t_size x7 t_value x7 t_word t_bytes r33 x34 x35 hg36) (cwV 0 hts gX6_takeToken_X6_takeWord rfl rfl rfl (by decide +kernel) ⟨Nat.le_of_ble_eq_true rfl, Nat.le_of_ble_eq_true rfl⟩) (kS_env te) hK hP hD hS hA hE [0, 1] [] [0, 1] rfl rfl (by decide) (by decide) (by decide) (by decide) rfl 0 5 rfl rfl rfl rfl hl.1 rfl (Nat.le_of_ble_eq_true rfl) dX6_takeToken_101 ⟨Nat.zero_le _, Nat.zero_le _⟩ (fun H locs hP hD hS => ?_)
          show W p l e rmX6_takeToken s m args below meth c H locs 0 0 Q (F0 m 104 ls [.int r33])
          obtain ⟨rfl, rfl, rfl, rfl⟩ := inj4 hf
          subst hQ
          exact CM_iret hx hb hr rfl hlocks hAe hP hD hS dX6_takeToken_104
      · replace hf := ifp c20 hf
        refine lv_aload_n hx hb dX6_takeToken_73 rfl (lv_at hl 0 rfl) ?_
        refine lv_dup hx hb dX6_takeToken_74 rfl ?_
        refine va_get (D := (dC, dI)) (ci := 5) (v := .int x7) (C := RX6) (T := TX6) (N := 7) hx hb hts kX6_takeToken_0 hown hK hP 0 rfl rfl 4 (by decide) (hts _ kX6_takeToken_1) (fun _ h9 => h9) rfl dX6_takeToken_75 ?_
        refine lv_iconst (v := (1 : Int32)) hx hb dX6_takeToken_78 (by decide) ?_
        refine lv_iadd hx hb dX6_takeToken_79 ?_
        obtain ⟨x37, e38, hf⟩ := nm_some hf
        refine lv_tope e38 ?_
        refine va_put (D := (dC, dI)) (ci := 5) (v := .int x37) (ty := tyX6 4) (C := RX6) (T := TX6) (N := 7) hx hb hts kX6_takeToken_0 tyX6 tyX6_ok nmX6 hown hK hP hD hS 0 rfl rfl 4 (by decide) (hts _ kX6_takeToken_1) (fun _ h9 => h9) rfl (tyX6_ok 4 (by decide)) rfl rfl (Nat.le_of_ble_eq_true rfl) dX6_takeToken_80 (fun H locs hP hD hS => ?_)
        have hP : va_P (dC, dI) vwCl [(h_t, .inr (5, fX6 h_t_bytes t_size x7 t_value x37 t_word h_t_numbers)), (h_t_bytes, .inl (cI, 240, .inl t_bytes))] H := hP
        have hD : va_D A [(h_t, .inr (5, fX6 h_t_bytes t_size x7 t_value x37 t_word h_t_numbers)), (h_t_bytes, .inl (cI, 240, .inl t_bytes))] := hD
        refine lv_iconst (v := (3 : Int32)) hx hb dX6_takeToken_83 (by decide) ?_
        obtain ⟨rfl, rfl, rfl, rfl⟩ := inj4 hf
        subst hQ
        exact CM_iret hx hb hr rfl hlocks hAe hP hD hS dX6_takeToken_84
    · replace hf := ifn c18 hf
      refine lv_iconst (v := (0 : Int32)) hx hb dX6_takeToken_57 (by decide) ?_
      obtain ⟨rfl, rfl, rfl, rfl⟩ := inj4 hf
      subst hQ
      exact CM_iret hx hb hr rfl hlocks hAe hP hD hS dX6_takeToken_58
def rmX6_takeItem : Room := { frames := 7, cells := 0, slots := 0, locals := 149 }
set_option maxRecDepth 20000 in
theorem kX6_takeItem_0 : ∀ w ∈ u_ws RX6 TX6 7, w ∈ wsX6_takeItem := by decide +kernel
set_option maxRecDepth 20000 in
theorem kX6_takeItem_1 : Cond.fieldLink RX6 43 "StoneRiver$Text" "value" "I" ∈ wsX6_takeItem := by decide +kernel
set_option maxRecDepth 20000 in
theorem kX6_takeItem_2 : Cond.fieldLink RX6 37 "StoneRiver$Text" "word" "I" ∈ wsX6_takeItem := by decide +kernel
set_option maxRecDepth 20000 in
theorem kX6_takeItem_3 : Cond.fieldLink RX6 46 "StoneRiver$Text" "NUMBERS_AFTER" "[I" ∈ wsX6_takeItem := by decide +kernel
set_option maxRecDepth 20000 in
theorem kX6_takeItem_4 : Cond.fieldLink RX6 15 "StoneRiver$Text" "numbers" "[I" ∈ wsX6_takeItem := by decide +kernel
set_option maxRecDepth 20000 in
theorem kX6_takeItem_5 : Cond.methodLink RX6 49 Lib.Math.min.name ∈ wsX6_takeItem := by decide +kernel
set_option maxRecDepth 20000 in
theorem kX6_takeItem_6 : Cond.static Lib.Math.min.name ∈ wsX6_takeItem := by decide +kernel
set_option maxRecDepth 20000 in
theorem kX6_takeItem_7 : Cond.initialized "java/lang/Math" ∈ wsX6_takeItem := by decide +kernel
set_option maxRecDepth 20000 in
theorem kX6_takeItem_8 : Cond.code Lib.Math.min.name Lib.Math.min.code 2 (some .int) ∈ wsX6_takeItem := by decide +kernel
set_option maxHeartbeats 4000000 in
set_option maxRecDepth 100000 in
theorem c_X6_takeItem (l : Launch) (dC : Nat → ClassId) (dI : Nat → Nat → Nat) (cI cZ : ClassId) (te : Nat → Nat) (h_t : Nat) (h_t_bytes : Nat) (h_t_numbers : Nat) (t_size : Int32) (t_start : Int32) (t_value : Int32) (t_next : Int32) (t_word : Int32) (t_bytes : Nat → Int32) (t_numbers : Nat → Int32) (o0 : Int32) (o1 : Int32) (o2 : Int32) (o3 : Int32) (o4 : Int32) (o5 : Nat → Int32) (hf : f_X6_takeItem t_size t_value t_next t_word t_bytes t_numbers = some (o0, o1, o2, o3, o4, o5)) : CM l yX6_takeItem wsX6_takeItem rmX6_takeItem (kS te) dC dI cI cZ [.ref h_t] [(h_t, .inr (5, fX6 h_t_bytes t_size t_start t_value t_next t_word h_t_numbers)), (h_t_bytes, .inl (cI, 240, .inl t_bytes)), (h_t_numbers, .inl (cI, 4, .inl t_numbers))] [(h_t, .inr (5, fX6 h_t_bytes t_size o1 o2 o3 o4 h_t_numbers)), (h_t_bytes, .inl (cI, 240, .inl t_bytes)), (h_t_numbers, .inl (cI, 4, .inl o5))] (some (.int o0)) := by
  refine CM_of (cc := cX6_takeItem) (maxL := 4) (ret := (some .int)) (by decide +kernel) rfl (Nat.le_of_ble_eq_true rfl) ?_
  intro p e s m args below meth c A Q hx hb hr hml hown hts hlocks hA hK hP hD hS hE hQ hAe ls hl
  have hown : s.vm.findClass RX6 = some m.cls := hown
  have hl : lv_has ls 4 [(0, .ref h_t)] := hl
  unfold f_X6_takeItem at hf
  refine lv_aload_n hx hb dX6_takeItem_0 rfl (lv_at hl 0 rfl) ?_
  obtain ⟨r1, x2, x3, x4, hg5, hf⟩ := bd4_some hf
  refine CM_callV (C := RX6) (As := []) (rest := []) (wc := [(h_t, .inr (5, fX6 h_t_bytes t_size t_start t_value t_next t_word h_t_numbers)), (h_t_bytes, .inl (cI, 240, .inl t_bytes))]) (w1 := [(h_t, .inr (5, fX6 h_t_bytes t_size x2 x3 x4 t_word h_t_numbers)), (h_t_bytes, .inl (cI, 240, .inl t_bytes))]) (wr := [(h_t_numbers, .inl (cI, 4, .inl t_numbers))]) (wo := [(h_t, .inr (5, fX6 h_t_bytes t_size x2 x3 x4 t_word h_t_numbers)), (h_t_bytes, .inl (cI, 240, .inl t_bytes)), (h_t_numbers, .inl (cI, 4, .inl t_numbers))]) (v := (some (.int r1))) ⟨hx, hb, hml, hown, hts⟩ (c_X6_takeToken l dC dI cI cZ te h_t h_t_bytes h_t_numbers t_size t_start t_value t_next t_word t_bytes r1 x2 x3 x4 hg5) (cwV 0 hts gX6_takeItem_X6_takeToken rfl rfl rfl (by decide +kernel) ⟨Nat.le_of_ble_eq_true rfl, Nat.le_of_ble_eq_true rfl⟩) (kS_env te) hK hP hD hS hA hE [0, 1] [2] [1, 2, 0] rfl rfl (by decide) (by decide) (by decide) (by decide) rfl 0 5 rfl rfl rfl rfl hl.1 rfl (Nat.le_of_ble_eq_true rfl) dX6_takeItem_1 ⟨Nat.zero_le _, Nat.zero_le _⟩ (fun H locs hP hD hS => ?_)
  show W p l e rmX6_takeItem s m args below meth c H locs 0 0 Q (F0 m 4 ls [.int r1])
  refine lv_istore_n (lv' := [(1, .int r1), (0, .ref h_t)]) hx hb dX6_takeItem_4 rfl hl (by decide) rfl (fun ls hl => ?_)
  refine lv_iload_n hx hb dX6_takeItem_5 rfl (lv_at hl 0 rfl) ?_
  refine lv_if_ne (tgt := 11) hx hb dX6_takeItem_6 (by decide) (fun c6 => ?_) (fun c6 => ?_)
  · replace hf := ifn c6 hf
    refine lv_iload_n hx hb dX6_takeItem_11 rfl (lv_at hl 0 rfl) ?_
    refine lv_iconst (v := (1 : Int32)) hx hb dX6_takeItem_12 (by decide) ?_
    refine lv_icmp_ne (tgt := 32) hx hb dX6_takeItem_13 (by decide) (fun c7 => ?_) (fun c7 => ?_)
    · replace hf := ifn c7 hf
      refine lv_iconst (v := (-1 : Int32)) hx hb dX6_takeItem_32 (by decide) ?_
      obtain ⟨rfl, rfl, rfl, rfl, rfl, rfl⟩ := inj6 hf
      subst hQ
      exact CM_iret hx hb hr rfl hlocks hAe hP hD hS dX6_takeItem_33
    · replace hf := ifp c7 hf
      refine lv_aload_n hx hb dX6_takeItem_16 rfl (lv_at hl 1 rfl) ?_
      refine va_get (D := (dC, dI)) (ci := 5) (v := .int x3) (C := RX6) (T := TX6) (N := 7) hx hb hts kX6_takeItem_0 hown hK hP 0 rfl rfl 3 (by decide) (hts _ kX6_takeItem_1) (fun _ h9 => h9) rfl dX6_takeItem_17 ?_
      refine lv_if_lt (tgt := 32) hx hb dX6_takeItem_20 (by decide) (fun c8 => ?_) (fun c8 => ?_)
      · replace hf := ifp c8 hf
        refine lv_iconst (v := (-1 : Int32)) hx hb dX6_takeItem_32 (by decide) ?_
        obtain ⟨rfl, rfl, rfl, rfl, rfl, rfl⟩ := inj6 hf
        subst hQ
        exact CM_iret hx hb hr rfl hlocks hAe hP hD hS dX6_takeItem_33
      · replace hf := ifn c8 hf
        refine lv_aload_n hx hb dX6_takeItem_23 rfl (lv_at hl 1 rfl) ?_
        refine va_get (D := (dC, dI)) (ci := 5) (v := .int x3) (C := RX6) (T := TX6) (N := 7) hx hb hts kX6_takeItem_0 hown hK hP 0 rfl rfl 3 (by decide) (hts _ kX6_takeItem_1) (fun _ h9 => h9) rfl dX6_takeItem_24 ?_
        refine lv_bipush (v := (12 : Int32)) hx hb dX6_takeItem_27 (by decide) ?_
        refine lv_icmp_lt (tgt := 34) hx hb dX6_takeItem_29 (by decide) (fun c9 => ?_) (fun c9 => ?_)
        · replace hf := ifp c9 hf
          refine lv_aload_n hx hb dX6_takeItem_34 rfl (lv_at hl 1 rfl) ?_
          refine lv_aload_n hx hb dX6_takeItem_35 rfl (lv_at hl 1 rfl) ?_
          refine va_get (D := (dC, dI)) (ci := 5) (v := .int x3) (C := RX6) (T := TX6) (N := 7) hx hb hts kX6_takeItem_0 hown hK hP 0 rfl rfl 3 (by decide) (hts _ kX6_takeItem_1) (fun _ h9 => h9) rfl dX6_takeItem_36 ?_
          refine va_put (D := (dC, dI)) (ci := 5) (v := .int x3) (ty := tyX6 5) (C := RX6) (T := TX6) (N := 7) hx hb hts kX6_takeItem_0 tyX6 tyX6_ok nmX6 hown hK hP hD hS 0 rfl rfl 5 (by decide) (hts _ kX6_takeItem_2) (fun _ h9 => h9) rfl (tyX6_ok 5 (by decide)) rfl rfl (Nat.le_of_ble_eq_true rfl) dX6_takeItem_39 (fun H locs hP hD hS => ?_)
          have hP : va_P (dC, dI) vwCl [(h_t, .inr (5, fX6 h_t_bytes t_size x2 x3 x4 x3 h_t_numbers)), (h_t_bytes, .inl (cI, 240, .inl t_bytes)), (h_t_numbers, .inl (cI, 4, .inl t_numbers))] H := hP
          have hD : va_D A [(h_t, .inr (5, fX6 h_t_bytes t_size x2 x3 x4 x3 h_t_numbers)), (h_t_bytes, .inl (cI, 240, .inl t_bytes)), (h_t_numbers, .inl (cI, 4, .inl t_numbers))] := hD
          refine va_gets hx hb (C := "StoneRiver$Text") (n := "NUMBERS_AFTER") (d := "[I") (kS_z4 hE) hS hown (hts _ kX6_takeItem_3) (fun _ h9 => h9) dX6_takeItem_42 ?_
          refine lv_aload_n hx hb dX6_takeItem_45 rfl (lv_at hl 1 rfl) ?_
          refine va_get (D := (dC, dI)) (ci := 5) (v := .int x3) (C := RX6) (T := TX6) (N := 7) hx hb hts kX6_takeItem_0 hown hK hP 0 rfl rfl 5 (by decide) (hts _ kX6_takeItem_2) (fun _ h9 => h9) rfl dX6_takeItem_46 ?_
          obtain ⟨g10, hf⟩ := chk_some hf
          refine va_ti hx hb (kS_t4 hE) hS (gin_in g10) (v := .int (tb4 x3.toNatClampNeg)) rfl dX6_takeItem_49 ?_
          refine lv_aload_n hx hb dX6_takeItem_50 rfl (lv_at hl 1 rfl) ?_
          refine va_get (D := (dC, dI)) (ci := 5) (v := .ref h_t_numbers) (C := RX6) (T := TX6) (N := 7) hx hb hts kX6_takeItem_0 hown hK hP 0 rfl rfl 6 (by decide) (hts _ kX6_takeItem_4) (fun _ h9 => h9) rfl dX6_takeItem_51 ?_
          refine va_alen hx hb hK hP 2 0 rfl rfl (v := (4 : Int32)) (show Int32.ofNat 4 = (4 : Int32) from by decide) dX6_takeItem_54 ?_
          refine va_mmin hx hb (hml.trans hl.1.symm) hown (hts _ kX6_takeItem_5) (hts _ kX6_takeItem_6) (hts _ kX6_takeItem_7) (hts _ kX6_takeItem_8) (Nat.le_of_ble_eq_true rfl) (Nat.le_of_ble_eq_true rfl) (Nat.zero_le _) (Nat.zero_le _) dX6_takeItem_55 ?_
          obtain ⟨x11, e12, hf⟩ := nm_some hf
          refine lv_tope e12 ?_
          refine lv_istore_n (lv' := [(2, .int x11), (1, .int r1), (0, .ref h_t)]) hx hb dX6_takeItem_58 rfl hl (by decide) rfl (fun ls hl => ?_)
          refine lv_iconst (v := (0 : Int32)) hx hb dX6_takeItem_59 (by decide) ?_
          refine lv_istore_n (lv' := [(3, .int (0 : Int32)), (2, .int x11), (1, .int r1), (0, .ref h_t)]) hx hb dX6_takeItem_60 rfl hl (by decide) rfl (fun ls hl => ?_)
          have L52 : ∀ (fu39 : Nat) (y33 : Nat → Int32) (x34 : Int32) (x35 : Int32) (x36 : Int32) (x37 : Int32) (q32 : Nat) (y28 : Nat → Int32) (x29 : Int32) (x30 : Int32) (x31 : Int32), f_X6_takeItem_L1 x11 t_size t_bytes fu39 y33 x34 x35 x36 x37 = some (q32, y28, x29, x30, x31) → (q32 = 0 → ∀ (H : Heap) (locs : List Loc), va_P (dC, dI) vwCl [(h_t, .inr (5, fX6 h_t_bytes t_size x29 x30 x31 x3 h_t_numbers)), (h_t_bytes, .inl (cI, 240, .inl t_bytes)), (h_t_numbers, .inl (cI, 4, .inl y28))] H → va_D A [(h_t, .inr (5, fX6 h_t_bytes t_size x29 x30 x31 x3 h_t_numbers)), (h_t_bytes, .inl (cI, 240, .inl t_bytes)), (h_t_numbers, .inl (cI, 4, .inl y28))] → va_S A s.heap H locs → ∀ ls : Array Slot, lv_has ls 4 [] → W p l e rmX6_takeItem s m args below meth c H locs 0 0 Q (F0 m 74 ls [])) → (q32 = 1 → ∀ (H : Heap) (locs : List Loc), va_P (dC, dI) vwCl [(h_t, .inr (5, fX6 h_t_bytes t_size x29 x30 x31 x3 h_t_numbers)), (h_t_bytes, .inl (cI, 240, .inl t_bytes)), (h_t_numbers, .inl (cI, 4, .inl y28))] H → va_D A [(h_t, .inr (5, fX6 h_t_bytes t_size x29 x30 x31 x3 h_t_numbers)), (h_t_bytes, .inl (cI, 240, .inl t_bytes)), (h_t_numbers, .inl (cI, 4, .inl y28))] → va_S A s.heap H locs → ∀ ls : Array Slot, lv_has ls 4 [(0, .ref h_t)] → W p l e rmX6_takeItem s m args below meth c H locs 0 0 Q (F0 m 92 ls [])) → ∀ (H : Heap) (locs : List Loc), va_P (dC, dI) vwCl [(h_t, .inr (5, fX6 h_t_bytes t_size x34 x35 x36 x3 h_t_numbers)), (h_t_bytes, .inl (cI, 240, .inl t_bytes)), (h_t_numbers, .inl (cI, 4, .inl y33))] H → va_D A [(h_t, .inr (5, fX6 h_t_bytes t_size x34 x35 x36 x3 h_t_numbers)), (h_t_bytes, .inl (cI, 240, .inl t_bytes)), (h_t_numbers, .inl (cI, 4, .inl y33))] → va_S A s.heap H locs → ∀ ls : Array Slot, lv_has ls 4 [(0, .ref h_t), (2, .int x11), (3, .int x37)] → W p l e rmX6_takeItem s m args below meth c H locs 0 0 Q (F0 m 61 ls []) := by
            intro fu39
            induction fu39 with
            | zero =>
              intro y33 x34 x35 x36 x37 q32 y28 x29 x30 x31 hf
              unfold f_X6_takeItem_L1 at hf
              exact none_ne hf
            | succ fu39 ih38 =>
              intro y33 x34 x35 x36 x37 q32 y28 x29 x30 x31 hf hX40 hX41 H locs hP hD hS ls hl
              unfold f_X6_takeItem_L1 at hf
              refine lv_iload_n hx hb dX6_takeItem_61 rfl (lv_at hl 2 rfl) ?_
              refine lv_iload_n hx hb dX6_takeItem_62 rfl (lv_at hl 1 rfl) ?_
              refine lv_icmp_ge (tgt := 92) hx hb dX6_takeItem_63 (by decide) (fun c42 => ?_) (fun c42 => ?_)
              · replace hf := ifp c42 hf
                obtain ⟨rfl, rfl, rfl, rfl, rfl⟩ := inj5 hf
                exact hX41 rfl _ _ hP hD hS _ (lv_sub hl [0] rfl)
              · replace hf := ifn c42 hf
                refine lv_aload_n hx hb dX6_takeItem_66 rfl (lv_at hl 0 rfl) ?_
                obtain ⟨r43, x44, x45, x46, hg47, hf⟩ := bd4_some hf
                refine CM_callV (C := RX6) (As := []) (rest := []) (wc := [(h_t, .inr (5, fX6 h_t_bytes t_size x34 x35 x36 x3 h_t_numbers)), (h_t_bytes, .inl (cI, 240, .inl t_bytes))]) (w1 := [(h_t, .inr (5, fX6 h_t_bytes t_size x44 x45 x46 x3 h_t_numbers)), (h_t_bytes, .inl (cI, 240, .inl t_bytes))]) (wr := [(h_t_numbers, .inl (cI, 4, .inl y33))]) (wo := [(h_t, .inr (5, fX6 h_t_bytes t_size x44 x45 x46 x3 h_t_numbers)), (h_t_bytes, .inl (cI, 240, .inl t_bytes)), (h_t_numbers, .inl (cI, 4, .inl y33))]) (v := (some (.int r43))) ⟨hx, hb, hml, hown, hts⟩ (c_X6_takeToken l dC dI cI cZ te h_t h_t_bytes h_t_numbers t_size x34 x35 x36 x3 t_bytes r43 x44 x45 x46 hg47) (cwV 0 hts gX6_takeItem_X6_takeToken rfl rfl rfl (by decide +kernel) ⟨Nat.le_of_ble_eq_true rfl, Nat.le_of_ble_eq_true rfl⟩) (kS_env te) hK hP hD hS hA hE [0, 1] [2] [1, 2, 0] rfl rfl (by decide) (by decide) (by decide) (by decide) rfl 0 5 rfl rfl rfl rfl hl.1 rfl (Nat.le_of_ble_eq_true rfl) dX6_takeItem_67 ⟨Nat.zero_le _, Nat.zero_le _⟩ (fun H locs hP hD hS => ?_)
                show W p l e rmX6_takeItem s m args below meth c H locs 0 0 Q (F0 m 70 ls [.int r43])
                refine lv_iconst (v := (2 : Int32)) hx hb dX6_takeItem_70 (by decide) ?_
                refine lv_icmp_eq (tgt := 76) hx hb dX6_takeItem_71 (by decide) (fun c48 => ?_) (fun c48 => ?_)
                · replace hf := ifp c48 hf
                  refine lv_aload_n hx hb dX6_takeItem_76 rfl (lv_at hl 0 rfl) ?_
                  refine va_get (D := (dC, dI)) (ci := 5) (v := .ref h_t_numbers) (C := RX6) (T := TX6) (N := 7) hx hb hts kX6_takeItem_0 hown hK hP 0 rfl rfl 6 (by decide) (hts _ kX6_takeItem_4) (fun _ h9 => h9) rfl dX6_takeItem_77 ?_
                  refine lv_iload_n hx hb dX6_takeItem_80 rfl (lv_at hl 2 rfl) ?_
                  refine lv_aload_n hx hb dX6_takeItem_81 rfl (lv_at hl 0 rfl) ?_
                  refine va_get (D := (dC, dI)) (ci := 5) (v := .int x45) (C := RX6) (T := TX6) (N := 7) hx hb hts kX6_takeItem_0 hown hK hP 0 rfl rfl 3 (by decide) (hts _ kX6_takeItem_1) (fun _ h9 => h9) rfl dX6_takeItem_82 ?_
                  obtain ⟨g49, hf⟩ := chk_some hf
                  obtain ⟨y50, e51, hf⟩ := nm_some hf
                  refine va_iast hx hb hK hP hD hS 2 0 rfl rfl (gin_in g49) dX6_takeItem_85 (fun H locs hP hD hS => ?_)
                  have hP : va_P (dC, dI) vwCl [(h_t, .inr (5, fX6 h_t_bytes t_size x44 x45 x46 x3 h_t_numbers)), (h_t_bytes, .inl (cI, 240, .inl t_bytes)), (h_t_numbers, .inl (cI, 4, .inl y50))] H := by rw [e51]; exact hP
                  have hD : va_D A [(h_t, .inr (5, fX6 h_t_bytes t_size x44 x45 x46 x3 h_t_numbers)), (h_t_bytes, .inl (cI, 240, .inl t_bytes)), (h_t_numbers, .inl (cI, 4, .inl y50))] := by rw [e51]; exact hD
                  refine lv_iinc (v := (x37 + (1 : Int32))) (lv' := [(3, .int (x37 + (1 : Int32))), (0, .ref h_t), (2, .int x11)]) hx hb dX6_takeItem_86 hl (k := 2) rfl rfl (by decide) rfl (fun ls hl => ?_)
                  refine lv_goto (tgt := 61) hx hb dX6_takeItem_89 (by decide) ?_
                  exact ih38 _ _ _ _ _ _ _ _ _ _ hf hX40 hX41 _ _ hP hD hS _ (lv_sub hl [1, 2, 0] rfl)
                · replace hf := ifn c48 hf
                  obtain ⟨rfl, rfl, rfl, rfl, rfl⟩ := inj5 hf
                  exact hX40 rfl _ _ hP hD hS _ (lv_sub hl [] rfl)
          obtain ⟨q32, y28, x29, x30, x31, hg, hf⟩ := bd5_some hf
          refine L52 FU _ _ _ _ _ _ _ _ _ _ hg ?_ ?_ _ _ hP hD hS _ (lv_sub hl [3, 1, 0] rfl)
          · intro hq
            subst hq
            replace hf := ifp rfl hf
            intro H locs hP hD hS ls hl
            refine lv_iconst (v := (-1 : Int32)) hx hb dX6_takeItem_74 (by decide) ?_
            obtain ⟨rfl, rfl, rfl, rfl, rfl, rfl⟩ := inj6 hf
            subst hQ
            exact CM_iret hx hb hr rfl hlocks hAe hP hD hS dX6_takeItem_75
          · intro hq
            subst hq
            replace hf := ifn (by decide) hf
            intro H locs hP hD hS ls hl
            refine lv_aload_n hx hb dX6_takeItem_92 rfl (lv_at hl 0 rfl) ?_
            obtain ⟨r53, x54, x55, x56, hg57, hf⟩ := bd4_some hf
            refine CM_callV (C := RX6) (As := []) (rest := []) (wc := [(h_t, .inr (5, fX6 h_t_bytes t_size x29 x30 x31 x3 h_t_numbers)), (h_t_bytes, .inl (cI, 240, .inl t_bytes))]) (w1 := [(h_t, .inr (5, fX6 h_t_bytes t_size x54 x55 x56 x3 h_t_numbers)), (h_t_bytes, .inl (cI, 240, .inl t_bytes))]) (wr := [(h_t_numbers, .inl (cI, 4, .inl y28))]) (wo := [(h_t, .inr (5, fX6 h_t_bytes t_size x54 x55 x56 x3 h_t_numbers)), (h_t_bytes, .inl (cI, 240, .inl t_bytes)), (h_t_numbers, .inl (cI, 4, .inl y28))]) (v := (some (.int r53))) ⟨hx, hb, hml, hown, hts⟩ (c_X6_takeToken l dC dI cI cZ te h_t h_t_bytes h_t_numbers t_size x29 x30 x31 x3 t_bytes r53 x54 x55 x56 hg57) (cwV 0 hts gX6_takeItem_X6_takeToken rfl rfl rfl (by decide +kernel) ⟨Nat.le_of_ble_eq_true rfl, Nat.le_of_ble_eq_true rfl⟩) (kS_env te) hK hP hD hS hA hE [0, 1] [2] [1, 2, 0] rfl rfl (by decide) (by decide) (by decide) (by decide) rfl 0 5 rfl rfl rfl rfl hl.1 rfl (Nat.le_of_ble_eq_true rfl) dX6_takeItem_93 ⟨Nat.zero_le _, Nat.zero_le _⟩ (fun H locs hP hD hS => ?_)
            show W p l e rmX6_takeItem s m args below meth c H locs 0 0 Q (F0 m 96 ls [.int r53])
            refine lv_iconst (v := (3 : Int32)) hx hb dX6_takeItem_96 (by decide) ?_
            refine lv_icmp_ne (tgt := 104) hx hb dX6_takeItem_97 (by decide) (fun c58 => ?_) (fun c58 => ?_)
            · replace hf := ifn c58 hf
              refine lv_iconst (v := (-1 : Int32)) hx hb dX6_takeItem_104 (by decide) ?_
              obtain ⟨rfl, rfl, rfl, rfl, rfl, rfl⟩ := inj6 hf
              subst hQ
              exact CM_iret hx hb hr rfl hlocks hAe hP hD hS dX6_takeItem_105
            · replace hf := ifp c58 hf
              refine lv_iconst (v := (1 : Int32)) hx hb dX6_takeItem_100 (by decide) ?_
              refine lv_goto (tgt := 105) hx hb dX6_takeItem_101 (by decide) ?_
              obtain ⟨rfl, rfl, rfl, rfl, rfl, rfl⟩ := inj6 hf
              subst hQ
              exact CM_iret hx hb hr rfl hlocks hAe hP hD hS dX6_takeItem_105
        · replace hf := ifn c9 hf
          refine lv_iconst (v := (-1 : Int32)) hx hb dX6_takeItem_32 (by decide) ?_
          obtain ⟨rfl, rfl, rfl, rfl, rfl, rfl⟩ := inj6 hf
          subst hQ
          exact CM_iret hx hb hr rfl hlocks hAe hP hD hS dX6_takeItem_33
  · replace hf := ifp c6 hf
    refine lv_iconst (v := (0 : Int32)) hx hb dX6_takeItem_9 (by decide) ?_
    obtain ⟨rfl, rfl, rfl, rfl, rfl, rfl⟩ := inj6 hf
    subst hQ
    exact CM_iret hx hb hr rfl hlocks hAe hP hD hS dX6_takeItem_10
