def rmX2_takeSigns : Room := { frames := 3, cells := 0, slots := 0, locals := 70 }
abbrev wqX2_takeSigns : List Cond := Cond.code yX2_takeSigns cX2_takeSigns 4 none :: tG
set_option maxHeartbeats 4000000 in
set_option maxRecDepth 100000 in
theorem c_X2_takeSigns (l : Launch) (dC : Nat → ClassId) (dI : Nat → Nat → Nat) (cI cZ : ClassId) (te : Nat → Nat) (h_t : Nat) (h_p1 : Nat) (h_t_wayOn : Nat) (h_t_lowest : Nat) (h_t_highest : Nat) (h_t_seenAt : Nat) (h_t_firstRow : Nat) (h_t_drawnFor : Nat) (h_p1_cells : Nat) (t_allSeen : Int32) (t_stride : Int32) (t_travel : Int32) (t_drawnStride : Int32) (t_lowest : Nat → Int32) (t_highest : Nat → Int32) (t_seenAt : Nat → Int32) (p1_limit : Int32) (p1_size : Int32) (n_p1_cells : Nat) (p1_cells : Nat → Int32) (o0 : Int32) (o1 : Nat → Int32) (o2 : Nat → Int32) (o3 : Nat → Int32) (hf : f_X2_takeSigns t_lowest t_highest t_seenAt p1_size n_p1_cells p1_cells = some (o0, o1, o2, o3)) : CM l yX2_takeSigns wqX2_takeSigns rmX2_takeSigns (kS te) dC dI cI cZ [.ref h_t, .ref h_p1] [(h_t, .inr (2, fX2 h_t_wayOn h_t_lowest h_t_highest h_t_seenAt h_t_firstRow t_allSeen t_stride t_travel h_t_drawnFor t_drawnStride)), (h_t_lowest, .inl (cI, 40, .inl t_lowest)), (h_t_highest, .inl (cI, 40, .inl t_highest)), (h_t_seenAt, .inl (cI, 840, .inl t_seenAt)), (h_p1, .inr (4, fX4 p1_limit h_p1_cells p1_size)), (h_p1_cells, .inl (cI, n_p1_cells, .inl p1_cells))] [(h_t, .inr (2, fX2 h_t_wayOn h_t_lowest h_t_highest h_t_seenAt h_t_firstRow o0 t_stride t_travel h_t_drawnFor t_drawnStride)), (h_t_lowest, .inl (cI, 40, .inl o1)), (h_t_highest, .inl (cI, 40, .inl o2)), (h_t_seenAt, .inl (cI, 840, .inl o3)), (h_p1, .inr (4, fX4 p1_limit h_p1_cells p1_size)), (h_p1_cells, .inl (cI, n_p1_cells, .inl p1_cells))] none := by
  refine CM_of (cc := cX2_takeSigns) (maxL := 4) (ret := none) (by decide +kernel) rfl (Nat.le_of_ble_eq_true rfl) ?_
  intro p e s m args below meth c A Q hx hb hr hml hown hts hlocks hA hK hP hD hS hE hQ hAe ls hl
  have hown : s.vm.findClass RX2 = some m.cls := hown
  have hl : lv_has ls 4 [(0, .ref h_t), (1, .ref h_p1)] := hl
  unfold f_X2_takeSigns at hf
  refine lv_aload_n hx hb dX2_takeSigns_0 rfl (lv_at hl 0 rfl) ?_
  refine va_get (D := (dC, dI)) (ci := 2) (v := .ref h_t_lowest) (C := RX2) (T := TX2) (N := 10) hx hb hts (in1 tw_X2) hown hK hP 0 rfl rfl 1 (by decide) (hts _ (List.mem_cons_of_mem _ kw_53)) (fun _ h9 => h9) rfl dX2_takeSigns_1 ?_
  refine lv_iconst (v := (0 : Int32)) hx hb dX2_takeSigns_4 (by decide) ?_
  obtain ⟨y1, hg2, hf⟩ := bd1_some hf
  refine CM_callS (As := [.ref h_t_lowest, .int (0 : Int32)]) (rest := []) (wc := [(h_t_lowest, .inl (cI, 40, .inl t_lowest))]) (w1 := [(h_t_lowest, .inl (cI, 40, .inl y1))]) (wr := [(h_t, .inr (2, fX2 h_t_wayOn h_t_lowest h_t_highest h_t_seenAt h_t_firstRow t_allSeen t_stride t_travel h_t_drawnFor t_drawnStride)), (h_t_highest, .inl (cI, 40, .inl t_highest)), (h_t_seenAt, .inl (cI, 840, .inl t_seenAt)), (h_p1, .inr (4, fX4 p1_limit h_p1_cells p1_size)), (h_p1_cells, .inl (cI, n_p1_cells, .inl p1_cells))]) (wo := [(h_t, .inr (2, fX2 h_t_wayOn h_t_lowest h_t_highest h_t_seenAt h_t_firstRow t_allSeen t_stride t_travel h_t_drawnFor t_drawnStride)), (h_t_lowest, .inl (cI, 40, .inl y1)), (h_t_highest, .inl (cI, 40, .inl t_highest)), (h_t_seenAt, .inl (cI, 840, .inl t_seenAt)), (h_p1, .inr (4, fX4 p1_limit h_p1_cells p1_size)), (h_p1_cells, .inl (cI, n_p1_cells, .inl p1_cells))]) (v := (none)) ⟨hx, hb, hml, hown, hts⟩ (c_J7_fill_53178 l dC dI cI cZ te h_t_lowest (40) t_lowest (0 : Int32) y1 hg2) (va_cwS 2 hts (gS kw_522 kw_419 kw_420 kw_421) rfl rfl rfl (by decide +kernel) ⟨Nat.le_of_ble_eq_true rfl, Nat.le_of_ble_eq_true rfl⟩) (kS_env te) hK hP hD hS hA hE [1] [0, 2, 3, 4, 5] [0, 5, 1, 2, 3, 4] rfl rfl (by decide) (by decide) (by decide) (by decide) rfl rfl hl.1 rfl (Nat.le_of_ble_eq_true rfl) dX2_takeSigns_5 ⟨Nat.zero_le _, Nat.zero_le _⟩ (fun H locs hP hD hS => ?_)
  show W p l e rmX2_takeSigns s m args below meth c H locs 0 0 Q (F0 m 8 ls [])
  refine lv_aload_n hx hb dX2_takeSigns_8 rfl (lv_at hl 0 rfl) ?_
  refine va_get (D := (dC, dI)) (ci := 2) (v := .ref h_t_highest) (C := RX2) (T := TX2) (N := 10) hx hb hts (in1 tw_X2) hown hK hP 0 rfl rfl 2 (by decide) (hts _ (List.mem_cons_of_mem _ kw_54)) (fun _ h9 => h9) rfl dX2_takeSigns_9 ?_
  refine lv_bipush (v := (20 : Int32)) hx hb dX2_takeSigns_12 (by decide) ?_
  obtain ⟨y3, hg4, hf⟩ := bd1_some hf
  refine CM_callS (As := [.ref h_t_highest, .int (20 : Int32)]) (rest := []) (wc := [(h_t_highest, .inl (cI, 40, .inl t_highest))]) (w1 := [(h_t_highest, .inl (cI, 40, .inl y3))]) (wr := [(h_t, .inr (2, fX2 h_t_wayOn h_t_lowest h_t_highest h_t_seenAt h_t_firstRow t_allSeen t_stride t_travel h_t_drawnFor t_drawnStride)), (h_t_lowest, .inl (cI, 40, .inl y1)), (h_t_seenAt, .inl (cI, 840, .inl t_seenAt)), (h_p1, .inr (4, fX4 p1_limit h_p1_cells p1_size)), (h_p1_cells, .inl (cI, n_p1_cells, .inl p1_cells))]) (wo := [(h_t, .inr (2, fX2 h_t_wayOn h_t_lowest h_t_highest h_t_seenAt h_t_firstRow t_allSeen t_stride t_travel h_t_drawnFor t_drawnStride)), (h_t_lowest, .inl (cI, 40, .inl y1)), (h_t_highest, .inl (cI, 40, .inl y3)), (h_t_seenAt, .inl (cI, 840, .inl t_seenAt)), (h_p1, .inr (4, fX4 p1_limit h_p1_cells p1_size)), (h_p1_cells, .inl (cI, n_p1_cells, .inl p1_cells))]) (v := (none)) ⟨hx, hb, hml, hown, hts⟩ (c_J7_fill_53178 l dC dI cI cZ te h_t_highest (40) t_highest (20 : Int32) y3 hg4) (va_cwS 2 hts (gS kw_522 kw_419 kw_420 kw_421) rfl rfl rfl (by decide +kernel) ⟨Nat.le_of_ble_eq_true rfl, Nat.le_of_ble_eq_true rfl⟩) (kS_env te) hK hP hD hS hA hE [2] [0, 1, 3, 4, 5] [0, 1, 5, 2, 3, 4] rfl rfl (by decide) (by decide) (by decide) (by decide) rfl rfl hl.1 rfl (Nat.le_of_ble_eq_true rfl) dX2_takeSigns_14 ⟨Nat.zero_le _, Nat.zero_le _⟩ (fun H locs hP hD hS => ?_)
  show W p l e rmX2_takeSigns s m args below meth c H locs 0 0 Q (F0 m 17 ls [])
  refine lv_aload_n hx hb dX2_takeSigns_17 rfl (lv_at hl 0 rfl) ?_
  refine va_get (D := (dC, dI)) (ci := 2) (v := .ref h_t_seenAt) (C := RX2) (T := TX2) (N := 10) hx hb hts (in1 tw_X2) hown hK hP 0 rfl rfl 3 (by decide) (hts _ (List.mem_cons_of_mem _ kw_55)) (fun _ h9 => h9) rfl dX2_takeSigns_18 ?_
  refine lv_iconst (v := (0 : Int32)) hx hb dX2_takeSigns_21 (by decide) ?_
  obtain ⟨y5, hg6, hf⟩ := bd1_some hf
  refine CM_callS (As := [.ref h_t_seenAt, .int (0 : Int32)]) (rest := []) (wc := [(h_t_seenAt, .inl (cI, 840, .inl t_seenAt))]) (w1 := [(h_t_seenAt, .inl (cI, 840, .inl y5))]) (wr := [(h_t, .inr (2, fX2 h_t_wayOn h_t_lowest h_t_highest h_t_seenAt h_t_firstRow t_allSeen t_stride t_travel h_t_drawnFor t_drawnStride)), (h_t_lowest, .inl (cI, 40, .inl y1)), (h_t_highest, .inl (cI, 40, .inl y3)), (h_p1, .inr (4, fX4 p1_limit h_p1_cells p1_size)), (h_p1_cells, .inl (cI, n_p1_cells, .inl p1_cells))]) (wo := [(h_t, .inr (2, fX2 h_t_wayOn h_t_lowest h_t_highest h_t_seenAt h_t_firstRow t_allSeen t_stride t_travel h_t_drawnFor t_drawnStride)), (h_t_lowest, .inl (cI, 40, .inl y1)), (h_t_highest, .inl (cI, 40, .inl y3)), (h_t_seenAt, .inl (cI, 840, .inl y5)), (h_p1, .inr (4, fX4 p1_limit h_p1_cells p1_size)), (h_p1_cells, .inl (cI, n_p1_cells, .inl p1_cells))]) (v := (none)) ⟨hx, hb, hml, hown, hts⟩ (c_J7_fill_53178 l dC dI cI cZ te h_t_seenAt (840) t_seenAt (0 : Int32) y5 hg6) (va_cwS 2 hts (gS kw_522 kw_419 kw_420 kw_421) rfl rfl rfl (by decide +kernel) ⟨Nat.le_of_ble_eq_true rfl, Nat.le_of_ble_eq_true rfl⟩) (kS_env te) hK hP hD hS hA hE [3] [0, 1, 2, 4, 5] [0, 1, 2, 5, 3, 4] rfl rfl (by decide) (by decide) (by decide) (by decide) rfl rfl hl.1 rfl (Nat.le_of_ble_eq_true rfl) dX2_takeSigns_22 ⟨Nat.zero_le _, Nat.zero_le _⟩ (fun H locs hP hD hS => ?_)
  show W p l e rmX2_takeSigns s m args below meth c H locs 0 0 Q (F0 m 25 ls [])
  refine lv_iconst (v := (1 : Int32)) hx hb dX2_takeSigns_25 (by decide) ?_
  refine lv_istore_n (lv' := [(2, .int (1 : Int32)), (0, .ref h_t), (1, .ref h_p1)]) hx hb dX2_takeSigns_26 rfl hl (by decide) rfl (fun ls hl => ?_)
  refine lv_iconst (v := (0 : Int32)) hx hb dX2_takeSigns_27 (by decide) ?_
  refine lv_istore_n (lv' := [(3, .int (0 : Int32)), (2, .int (1 : Int32)), (0, .ref h_t), (1, .ref h_p1)]) hx hb dX2_takeSigns_28 rfl hl (by decide) rfl (fun ls hl => ?_)
  have L48 : ∀ (fu34 : Nat) (y28 : Nat → Int32) (y29 : Nat → Int32) (y30 : Nat → Int32) (x31 : Int32) (x32 : Int32) (y24 : Nat → Int32) (y25 : Nat → Int32) (y26 : Nat → Int32) (x27 : Int32), f_X2_takeSigns_L1 p1_size n_p1_cells p1_cells fu34 y28 y29 y30 x31 x32 = some (y24, y25, y26, x27) → (∀ (H : Heap) (locs : List Loc), va_P (dC, dI) vwCl [(h_t, .inr (2, fX2 h_t_wayOn h_t_lowest h_t_highest h_t_seenAt h_t_firstRow t_allSeen t_stride t_travel h_t_drawnFor t_drawnStride)), (h_t_lowest, .inl (cI, 40, .inl y25)), (h_t_highest, .inl (cI, 40, .inl y24)), (h_t_seenAt, .inl (cI, 840, .inl y26)), (h_p1, .inr (4, fX4 p1_limit h_p1_cells p1_size)), (h_p1_cells, .inl (cI, n_p1_cells, .inl p1_cells))] H → va_D A [(h_t, .inr (2, fX2 h_t_wayOn h_t_lowest h_t_highest h_t_seenAt h_t_firstRow t_allSeen t_stride t_travel h_t_drawnFor t_drawnStride)), (h_t_lowest, .inl (cI, 40, .inl y25)), (h_t_highest, .inl (cI, 40, .inl y24)), (h_t_seenAt, .inl (cI, 840, .inl y26)), (h_p1, .inr (4, fX4 p1_limit h_p1_cells p1_size)), (h_p1_cells, .inl (cI, n_p1_cells, .inl p1_cells))] → va_S A s.heap H locs → ∀ ls : Array Slot, lv_has ls 4 [(0, .ref h_t), (2, .int x27)] → W p l e rmX2_takeSigns s m args below meth c H locs 0 0 Q (F0 m 63 ls [])) → ∀ (H : Heap) (locs : List Loc), va_P (dC, dI) vwCl [(h_t, .inr (2, fX2 h_t_wayOn h_t_lowest h_t_highest h_t_seenAt h_t_firstRow t_allSeen t_stride t_travel h_t_drawnFor t_drawnStride)), (h_t_lowest, .inl (cI, 40, .inl y29)), (h_t_highest, .inl (cI, 40, .inl y28)), (h_t_seenAt, .inl (cI, 840, .inl y30)), (h_p1, .inr (4, fX4 p1_limit h_p1_cells p1_size)), (h_p1_cells, .inl (cI, n_p1_cells, .inl p1_cells))] H → va_D A [(h_t, .inr (2, fX2 h_t_wayOn h_t_lowest h_t_highest h_t_seenAt h_t_firstRow t_allSeen t_stride t_travel h_t_drawnFor t_drawnStride)), (h_t_lowest, .inl (cI, 40, .inl y29)), (h_t_highest, .inl (cI, 40, .inl y28)), (h_t_seenAt, .inl (cI, 840, .inl y30)), (h_p1, .inr (4, fX4 p1_limit h_p1_cells p1_size)), (h_p1_cells, .inl (cI, n_p1_cells, .inl p1_cells))] → va_S A s.heap H locs → ∀ ls : Array Slot, lv_has ls 4 [(0, .ref h_t), (1, .ref h_p1), (2, .int x31), (3, .int x32)] → W p l e rmX2_takeSigns s m args below meth c H locs 0 0 Q (F0 m 29 ls []) := by
    intro fu34
    induction fu34 with
    | zero =>
      intro y28 y29 y30 x31 x32 y24 y25 y26 x27 hf
      unfold f_X2_takeSigns_L1 at hf
      exact none_ne hf
    | succ fu34 ih33 =>
      intro y28 y29 y30 x31 x32 y24 y25 y26 x27 hf hX35 H locs hP hD hS ls hl
      unfold f_X2_takeSigns_L1 at hf
      refine lv_iload_n hx hb dX2_takeSigns_29 rfl (lv_at hl 3 rfl) ?_
      refine lv_aload_n hx hb dX2_takeSigns_30 rfl (lv_at hl 1 rfl) ?_
      obtain ⟨r36, hg37, hf⟩ := bd1_some hf
      refine CM_callV (C := RX4) (As := []) (rest := [.int x32]) (wc := [(h_p1, .inr (4, fX4 p1_limit h_p1_cells p1_size))]) (w1 := [(h_p1, .inr (4, fX4 p1_limit h_p1_cells p1_size))]) (wr := [(h_t, .inr (2, fX2 h_t_wayOn h_t_lowest h_t_highest h_t_seenAt h_t_firstRow t_allSeen t_stride t_travel h_t_drawnFor t_drawnStride)), (h_t_lowest, .inl (cI, 40, .inl y29)), (h_t_highest, .inl (cI, 40, .inl y28)), (h_t_seenAt, .inl (cI, 840, .inl y30)), (h_p1_cells, .inl (cI, n_p1_cells, .inl p1_cells))]) (wo := [(h_t, .inr (2, fX2 h_t_wayOn h_t_lowest h_t_highest h_t_seenAt h_t_firstRow t_allSeen t_stride t_travel h_t_drawnFor t_drawnStride)), (h_t_lowest, .inl (cI, 40, .inl y29)), (h_t_highest, .inl (cI, 40, .inl y28)), (h_t_seenAt, .inl (cI, 840, .inl y30)), (h_p1, .inr (4, fX4 p1_limit h_p1_cells p1_size)), (h_p1_cells, .inl (cI, n_p1_cells, .inl p1_cells))]) (v := (some (.int r36))) ⟨hx, hb, hml, hown, hts⟩ (c_X4_size l dC dI cI cZ te h_p1 h_p1_cells p1_limit p1_size r36 hg37) (cwV 0 hts (gV kw_517 kw_404 kw_405 kw_19 kw_406) rfl rfl rfl (by decide +kernel) ⟨Nat.le_of_ble_eq_true rfl, Nat.le_of_ble_eq_true rfl⟩) (kS_env te) hK hP hD hS hA hE [4] [0, 1, 2, 3, 5] [0, 1, 2, 3, 5, 4] rfl rfl (by decide) (by decide) (by decide) (by decide) rfl 4 4 rfl rfl rfl rfl hl.1 rfl (Nat.le_of_ble_eq_true rfl) dX2_takeSigns_31 ⟨Nat.zero_le _, Nat.zero_le _⟩ (fun H locs hP hD hS => ?_)
      show W p l e rmX2_takeSigns s m args below meth c H locs 0 0 Q (F0 m 34 ls [.int r36, .int x32])
      refine lv_icmp_ge (tgt := 63) hx hb dX2_takeSigns_34 (by decide) (fun c38 => ?_) (fun c38 => ?_)
      · replace hf := ifp c38 hf
        obtain ⟨rfl, rfl, rfl, rfl⟩ := inj4 hf
        exact hX35 _ _ hP hD hS _ (lv_sub hl [0, 2] rfl)
      · replace hf := ifn c38 hf
        refine lv_aload_n hx hb dX2_takeSigns_37 rfl (lv_at hl 0 rfl) ?_
        refine lv_aload_n hx hb dX2_takeSigns_38 rfl (lv_at hl 1 rfl) ?_
        refine lv_iload_n hx hb dX2_takeSigns_39 rfl (lv_at hl 3 rfl) ?_
        refine lv_iload_n hx hb dX2_takeSigns_40 rfl (lv_at hl 2 rfl) ?_
        obtain ⟨y39, y40, y41, hg42, hf⟩ := bd3_some hf
        refine CM_callV (C := RX2) (As := [.ref h_p1, .int x32, .int x31]) (rest := []) (wc := [(h_p1, .inr (4, fX4 p1_limit h_p1_cells p1_size)), (h_p1_cells, .inl (cI, n_p1_cells, .inl p1_cells)), (h_t, .inr (2, fX2 h_t_wayOn h_t_lowest h_t_highest h_t_seenAt h_t_firstRow t_allSeen t_stride t_travel h_t_drawnFor t_drawnStride)), (h_t_lowest, .inl (cI, 40, .inl y29)), (h_t_highest, .inl (cI, 40, .inl y28)), (h_t_seenAt, .inl (cI, 840, .inl y30))]) (w1 := [(h_p1, .inr (4, fX4 p1_limit h_p1_cells p1_size)), (h_p1_cells, .inl (cI, n_p1_cells, .inl p1_cells)), (h_t, .inr (2, fX2 h_t_wayOn h_t_lowest h_t_highest h_t_seenAt h_t_firstRow t_allSeen t_stride t_travel h_t_drawnFor t_drawnStride)), (h_t_lowest, .inl (cI, 40, .inl y39)), (h_t_highest, .inl (cI, 40, .inl y40)), (h_t_seenAt, .inl (cI, 840, .inl y41))]) (wr := []) (wo := [(h_t, .inr (2, fX2 h_t_wayOn h_t_lowest h_t_highest h_t_seenAt h_t_firstRow t_allSeen t_stride t_travel h_t_drawnFor t_drawnStride)), (h_t_lowest, .inl (cI, 40, .inl y39)), (h_t_highest, .inl (cI, 40, .inl y40)), (h_t_seenAt, .inl (cI, 840, .inl y41)), (h_p1, .inr (4, fX4 p1_limit h_p1_cells p1_size)), (h_p1_cells, .inl (cI, n_p1_cells, .inl p1_cells))]) (v := (none)) ⟨hx, hb, hml, hown, hts⟩ (c_X2_takeSign l dC dI cI cZ te h_t h_p1 h_p1_cells h_t_wayOn h_t_lowest h_t_highest h_t_seenAt h_t_firstRow h_t_drawnFor p1_limit p1_size n_p1_cells p1_cells t_allSeen t_stride t_travel t_drawnStride y29 y28 y30 x32 x31 y39 y40 y41 hg42) (cwV 3 hts (gV kw_523 kw_524 kw_525 kw_95 kw_526) rfl rfl rfl (by decide +kernel) ⟨Nat.le_of_ble_eq_true rfl, Nat.le_of_ble_eq_true rfl⟩) (kS_env te) hK hP hD hS hA hE [4, 5, 0, 1, 2, 3] [] [2, 3, 4, 5, 0, 1] rfl rfl (by decide) (by decide) (by decide) (by decide) rfl 0 2 rfl rfl rfl rfl hl.1 rfl (Nat.le_of_ble_eq_true rfl) dX2_takeSigns_41 ⟨Nat.zero_le _, Nat.zero_le _⟩ (fun H locs hP hD hS => ?_)
        show W p l e rmX2_takeSigns s m args below meth c H locs 0 0 Q (F0 m 44 ls [])
        refine lv_aload_n hx hb dX2_takeSigns_44 rfl (lv_at hl 1 rfl) ?_
        refine lv_iload_n hx hb dX2_takeSigns_45 rfl (lv_at hl 3 rfl) ?_
        refine lv_iconst (v := (0 : Int32)) hx hb dX2_takeSigns_46 (by decide) ?_
        obtain ⟨r43, hg44, hf⟩ := bd1_some hf
        refine CM_callV (C := RX4) (As := [.int x32, .int (0 : Int32)]) (rest := []) (wc := [(h_p1, .inr (4, fX4 p1_limit h_p1_cells p1_size)), (h_p1_cells, .inl (cI, n_p1_cells, .inl p1_cells))]) (w1 := [(h_p1, .inr (4, fX4 p1_limit h_p1_cells p1_size)), (h_p1_cells, .inl (cI, n_p1_cells, .inl p1_cells))]) (wr := [(h_t, .inr (2, fX2 h_t_wayOn h_t_lowest h_t_highest h_t_seenAt h_t_firstRow t_allSeen t_stride t_travel h_t_drawnFor t_drawnStride)), (h_t_lowest, .inl (cI, 40, .inl y39)), (h_t_highest, .inl (cI, 40, .inl y40)), (h_t_seenAt, .inl (cI, 840, .inl y41))]) (wo := [(h_t, .inr (2, fX2 h_t_wayOn h_t_lowest h_t_highest h_t_seenAt h_t_firstRow t_allSeen t_stride t_travel h_t_drawnFor t_drawnStride)), (h_t_lowest, .inl (cI, 40, .inl y39)), (h_t_highest, .inl (cI, 40, .inl y40)), (h_t_seenAt, .inl (cI, 840, .inl y41)), (h_p1, .inr (4, fX4 p1_limit h_p1_cells p1_size)), (h_p1_cells, .inl (cI, n_p1_cells, .inl p1_cells))]) (v := (some (.int r43))) ⟨hx, hb, hml, hown, hts⟩ (c_X4_cell l dC dI cI cZ te h_p1 h_p1_cells p1_limit p1_size n_p1_cells p1_cells x32 (0 : Int32) r43 hg44) (cwV 2 hts (gV kw_518 kw_414 kw_415 kw_19 kw_416) rfl rfl rfl (by decide +kernel) ⟨Nat.le_of_ble_eq_true rfl, Nat.le_of_ble_eq_true rfl⟩) (kS_env te) hK hP hD hS hA hE [4, 5] [0, 1, 2, 3] [0, 1, 2, 3, 4, 5] rfl rfl (by decide) (by decide) (by decide) (by decide) rfl 4 4 rfl rfl rfl rfl hl.1 rfl (Nat.le_of_ble_eq_true rfl) dX2_takeSigns_47 ⟨Nat.zero_le _, Nat.zero_le _⟩ (fun H locs hP hD hS => ?_)
        show W p l e rmX2_takeSigns s m args below meth c H locs 0 0 Q (F0 m 50 ls [.int r43])
        refine lv_if_ne (tgt := 57) hx hb dX2_takeSigns_50 (by decide) (fun c45 => ?_) (fun c45 => ?_)
        · replace hf := ifn c45 hf
          refine lv_iinc (v := (x32 + (1 : Int32))) (lv' := [(3, .int (x32 + (1 : Int32))), (0, .ref h_t), (1, .ref h_p1), (2, .int x31)]) hx hb dX2_takeSigns_57 hl (k := 3) rfl rfl (by decide) rfl (fun ls hl => ?_)
          refine lv_goto (tgt := 29) hx hb dX2_takeSigns_60 (by decide) ?_
          exact ih33 _ _ _ _ _ _ _ _ _ hf hX35 _ _ hP hD hS _ (lv_sub hl [1, 2, 3, 0] rfl)
        · replace hf := ifp c45 hf
          refine lv_iload_n hx hb dX2_takeSigns_53 rfl (lv_at hl 2 rfl) ?_
          refine lv_iconst (v := (1 : Int32)) hx hb dX2_takeSigns_54 (by decide) ?_
          refine lv_ishl hx hb dX2_takeSigns_55 ?_
          obtain ⟨x46, e47, hf⟩ := nm_some hf
          refine lv_tope e47 ?_
          refine lv_istore_n (lv' := [(2, .int x46), (0, .ref h_t), (1, .ref h_p1), (3, .int x32)]) hx hb dX2_takeSigns_56 rfl hl (by decide) rfl (fun ls hl => ?_)
          refine lv_iinc (v := (x32 + (1 : Int32))) (lv' := [(3, .int (x32 + (1 : Int32))), (2, .int x46), (0, .ref h_t), (1, .ref h_p1)]) hx hb dX2_takeSigns_57 hl (k := 3) rfl rfl (by decide) rfl (fun ls hl => ?_)
          refine lv_goto (tgt := 29) hx hb dX2_takeSigns_60 (by decide) ?_
          exact ih33 _ _ _ _ _ _ _ _ _ hf hX35 _ _ hP hD hS _ (lv_sub hl [2, 3, 1, 0] rfl)
  obtain ⟨y24, y25, y26, x27, hg, hf⟩ := bd4_some hf
  refine L48 FU _ _ _ _ _ _ _ _ _ hg ?_ _ _ hP hD hS _ (lv_sub hl [2, 3, 1, 0] rfl)
  · intro H locs hP hD hS ls hl
    refine lv_aload_n hx hb dX2_takeSigns_63 rfl (lv_at hl 0 rfl) ?_
    refine lv_iload_n hx hb dX2_takeSigns_64 rfl (lv_at hl 1 rfl) ?_
    refine lv_bipush (v := (32 : Int32)) hx hb dX2_takeSigns_65 (by decide) ?_
    refine va_mmin hx hb (hml.trans hl.1.symm) hown (hts _ (List.mem_cons_of_mem _ kw_520)) (hts _ (List.mem_cons_of_mem _ kw_4)) (hts _ (List.mem_cons_of_mem _ kw_5)) (hts _ (List.mem_cons_of_mem _ kw_6)) (Nat.le_of_ble_eq_true rfl) (Nat.le_of_ble_eq_true rfl) (Nat.zero_le _) (Nat.zero_le _) dX2_takeSigns_67 ?_
    refine lv_iconst (v := (1 : Int32)) hx hb dX2_takeSigns_70 (by decide) ?_
    refine lv_isub hx hb dX2_takeSigns_71 ?_
    obtain ⟨x49, e50, hf⟩ := nm_some hf
    refine lv_tope e50 ?_
    refine va_put (D := (dC, dI)) (ci := 2) (v := .int x49) (ty := tyX2 5) (C := RX2) (T := TX2) (N := 10) hx hb hts (in1 tw_X2) tyX2 tyX2_ok nmX2 hown hK hP hD hS 0 rfl rfl 5 (by decide) (hts _ (List.mem_cons_of_mem _ kw_527)) (fun _ h9 => h9) rfl (tyX2_ok 5 (by decide)) rfl rfl (Nat.le_of_ble_eq_true rfl) dX2_takeSigns_72 (fun H locs hP hD hS => ?_)
    have hP : va_P (dC, dI) vwCl [(h_t, .inr (2, fX2 h_t_wayOn h_t_lowest h_t_highest h_t_seenAt h_t_firstRow x49 t_stride t_travel h_t_drawnFor t_drawnStride)), (h_t_lowest, .inl (cI, 40, .inl y25)), (h_t_highest, .inl (cI, 40, .inl y24)), (h_t_seenAt, .inl (cI, 840, .inl y26)), (h_p1, .inr (4, fX4 p1_limit h_p1_cells p1_size)), (h_p1_cells, .inl (cI, n_p1_cells, .inl p1_cells))] H := hP
    have hD : va_D A [(h_t, .inr (2, fX2 h_t_wayOn h_t_lowest h_t_highest h_t_seenAt h_t_firstRow x49 t_stride t_travel h_t_drawnFor t_drawnStride)), (h_t_lowest, .inl (cI, 40, .inl y25)), (h_t_highest, .inl (cI, 40, .inl y24)), (h_t_seenAt, .inl (cI, 840, .inl y26)), (h_p1, .inr (4, fX4 p1_limit h_p1_cells p1_size)), (h_p1_cells, .inl (cI, n_p1_cells, .inl p1_cells))] := hD
    obtain ⟨rfl, rfl, rfl, rfl⟩ := inj4 hf
    subst hQ
    exact CM_vret hx hb hr hlocks hAe hP hD hS dX2_takeSigns_75
def rmX2_wayAt : Room := { frames := 0, cells := 0, slots := 0, locals := 0 }
abbrev wqX2_wayAt : List Cond := Cond.code yX2_wayAt cX2_wayAt 3 (some .int) :: tG
set_option maxHeartbeats 4000000 in
set_option maxRecDepth 100000 in
theorem c_X2_wayAt (l : Launch) (dC : Nat → ClassId) (dI : Nat → Nat → Nat) (cI cZ : ClassId) (te : Nat → Nat) (p1 : Int32) (p2 : Int32) (p3 : Int32) (o0 : Int32) (hf : f_X2_wayAt p1 p2 p3 = some o0) : CM l yX2_wayAt wqX2_wayAt rmX2_wayAt (kS te) dC dI cI cZ [.int p1, .int p2, .int p3] [] [] (some (.int o0)) := by
  refine CM_of (cc := cX2_wayAt) (maxL := 3) (ret := (some .int)) (by decide +kernel) rfl (Nat.le_of_ble_eq_true rfl) ?_
  intro p e s m args below meth c A Q hx hb hr hml hown hts hlocks hA hK hP hD hS hE hQ hAe ls hl
  have hown : s.vm.findClass RX2 = some m.cls := hown
  have hl : lv_has ls 3 [(0, .int p1), (1, .int p2), (2, .int p3)] := hl
  unfold f_X2_wayAt at hf
  refine lv_iload_n hx hb dX2_wayAt_0 rfl (lv_at hl 0 rfl) ?_
  refine lv_bipush (v := (32 : Int32)) hx hb dX2_wayAt_1 (by decide) ?_
  refine lv_imul hx hb dX2_wayAt_3 ?_
  refine lv_iload_n hx hb dX2_wayAt_4 rfl (lv_at hl 1 rfl) ?_
  refine lv_iadd hx hb dX2_wayAt_5 ?_
  refine lv_bipush (v := (21 : Int32)) hx hb dX2_wayAt_6 (by decide) ?_
  refine lv_imul hx hb dX2_wayAt_8 ?_
  refine lv_iload_n hx hb dX2_wayAt_9 rfl (lv_at hl 2 rfl) ?_
  refine lv_iadd hx hb dX2_wayAt_10 ?_
  obtain rfl := inj1 hf
  subst hQ
  exact CM_iret hx hb hr rfl hlocks hAe hP hD hS dX2_wayAt_11
def rmX2_leastWayFrom : Room := { frames := 1, cells := 0, slots := 0, locals := 22 }
abbrev wqX2_leastWayFrom : List Cond := Cond.code yX2_leastWayFrom cX2_leastWayFrom 8 (some .int) :: tG
set_option maxHeartbeats 4000000 in
set_option maxRecDepth 100000 in
theorem c_X2_leastWayFrom (l : Launch) (dC : Nat → ClassId) (dI : Nat → Nat → Nat) (cI cZ : ClassId) (te : Nat → Nat) (h_t : Nat) (h_t_wayOn : Nat) (h_t_lowest : Nat) (h_t_highest : Nat) (h_t_seenAt : Nat) (h_t_firstRow : Nat) (h_t_drawnFor : Nat) (t_allSeen : Int32) (t_stride : Int32) (t_travel : Int32) (t_drawnStride : Int32) (t_lowest : Nat → Int32) (t_highest : Nat → Int32) (t_seenAt : Nat → Int32) (t_wayOn : Nat → Int32) (p1 : Int32) (p2 : Int32) (p3 : Int32) (o0 : Int32) (hf : f_X2_leastWayFrom t_allSeen t_stride t_lowest t_highest t_seenAt t_wayOn p1 p2 p3 = some o0) : CM l yX2_leastWayFrom wqX2_leastWayFrom rmX2_leastWayFrom (kS te) dC dI cI cZ [.ref h_t, .int p1, .int p2, .int p3] [(h_t, .inr (2, fX2 h_t_wayOn h_t_lowest h_t_highest h_t_seenAt h_t_firstRow t_allSeen t_stride t_travel h_t_drawnFor t_drawnStride)), (h_t_lowest, .inl (cI, 40, .inl t_lowest)), (h_t_highest, .inl (cI, 40, .inl t_highest)), (h_t_seenAt, .inl (cI, 840, .inl t_seenAt)), (h_t_wayOn, .inl (cI, 26880, .inl t_wayOn))] [(h_t, .inr (2, fX2 h_t_wayOn h_t_lowest h_t_highest h_t_seenAt h_t_firstRow t_allSeen t_stride t_travel h_t_drawnFor t_drawnStride)), (h_t_lowest, .inl (cI, 40, .inl t_lowest)), (h_t_highest, .inl (cI, 40, .inl t_highest)), (h_t_seenAt, .inl (cI, 840, .inl t_seenAt)), (h_t_wayOn, .inl (cI, 26880, .inl t_wayOn))] (some (.int o0)) := by
  refine CM_of (cc := cX2_leastWayFrom) (maxL := 8) (ret := (some .int)) (by decide +kernel) rfl (Nat.le_of_ble_eq_true rfl) ?_
  intro p e s m args below meth c A Q hx hb hr hml hown hts hlocks hA hK hP hD hS hE hQ hAe ls hl
  have hown : s.vm.findClass RX2 = some m.cls := hown
  have hl : lv_has ls 8 [(0, .ref h_t), (1, .int p1), (2, .int p2), (3, .int p3)] := hl
  unfold f_X2_leastWayFrom at hf
  refine lv_iload_n hx hb dX2_leastWayFrom_0 rfl (lv_at hl 3 rfl) ?_
  refine lv_aload_n hx hb dX2_leastWayFrom_1 rfl (lv_at hl 0 rfl) ?_
  refine va_get (D := (dC, dI)) (ci := 2) (v := .ref h_t_lowest) (C := RX2) (T := TX2) (N := 10) hx hb hts (in1 tw_X2) hown hK hP 0 rfl rfl 1 (by decide) (hts _ (List.mem_cons_of_mem _ kw_53)) (fun _ h9 => h9) rfl dX2_leastWayFrom_2 ?_
  refine lv_iload_n hx hb dX2_leastWayFrom_5 rfl (lv_at hl 1 rfl) ?_
  obtain ⟨g1, hf⟩ := chk_some hf
  refine va_iald hx hb hK hP 1 0 rfl rfl (gin_in g1) dX2_leastWayFrom_6 ?_
  refine lv_icmp_lt (tgt := 20) hx hb dX2_leastWayFrom_7 (by decide) (fun c2 => ?_) (fun c2 => ?_)
  · replace hf := ifp c2 hf
    refine lv_ldc (v := (1000000 : Int32)) hx hb hown (hts _ (List.mem_cons_of_mem _ kw_528)) dX2_leastWayFrom_20 ?_
    obtain rfl := inj1 hf
    subst hQ
    exact CM_iret hx hb hr rfl hlocks hAe hP hD hS dX2_leastWayFrom_22
  · replace hf := ifn c2 hf
    refine lv_iload_n hx hb dX2_leastWayFrom_10 rfl (lv_at hl 3 rfl) ?_
    refine lv_aload_n hx hb dX2_leastWayFrom_11 rfl (lv_at hl 0 rfl) ?_
    refine va_get (D := (dC, dI)) (ci := 2) (v := .ref h_t_highest) (C := RX2) (T := TX2) (N := 10) hx hb hts (in1 tw_X2) hown hK hP 0 rfl rfl 2 (by decide) (hts _ (List.mem_cons_of_mem _ kw_54)) (fun _ h9 => h9) rfl dX2_leastWayFrom_12 ?_
    refine lv_iload_n hx hb dX2_leastWayFrom_15 rfl (lv_at hl 1 rfl) ?_
    obtain ⟨g3, hf⟩ := chk_some hf
    refine va_iald hx hb hK hP 2 0 rfl rfl (gin_in g3) dX2_leastWayFrom_16 ?_
    refine lv_icmp_le (tgt := 23) hx hb dX2_leastWayFrom_17 (by decide) (fun c4 => ?_) (fun c4 => ?_)
    · replace hf := ifp c4 hf
      refine lv_iload_n hx hb dX2_leastWayFrom_23 rfl (lv_at hl 2 rfl) ?_
      refine lv_aload_n hx hb dX2_leastWayFrom_24 rfl (lv_at hl 0 rfl) ?_
      refine va_get (D := (dC, dI)) (ci := 2) (v := .ref h_t_seenAt) (C := RX2) (T := TX2) (N := 10) hx hb hts (in1 tw_X2) hown hK hP 0 rfl rfl 3 (by decide) (hts _ (List.mem_cons_of_mem _ kw_55)) (fun _ h9 => h9) rfl dX2_leastWayFrom_25 ?_
      refine lv_bipush (v := (21 : Int32)) hx hb dX2_leastWayFrom_28 (by decide) ?_
      refine lv_iload_n hx hb dX2_leastWayFrom_30 rfl (lv_at hl 1 rfl) ?_
      refine lv_imul hx hb dX2_leastWayFrom_31 ?_
      refine lv_iload_n hx hb dX2_leastWayFrom_32 rfl (lv_at hl 3 rfl) ?_
      refine lv_iadd hx hb dX2_leastWayFrom_33 ?_
      obtain ⟨g5, hf⟩ := chk_some hf
      refine va_iald hx hb hK hP 3 0 rfl rfl (gin_in g5) dX2_leastWayFrom_34 ?_
      refine lv_ior hx hb dX2_leastWayFrom_35 ?_
      refine lv_aload_n hx hb dX2_leastWayFrom_36 rfl (lv_at hl 0 rfl) ?_
      refine va_get (D := (dC, dI)) (ci := 2) (v := .int t_allSeen) (C := RX2) (T := TX2) (N := 10) hx hb hts (in1 tw_X2) hown hK hP 0 rfl rfl 5 (by decide) (hts _ (List.mem_cons_of_mem _ kw_527)) (fun _ h9 => h9) rfl dX2_leastWayFrom_37 ?_
      refine lv_iand hx hb dX2_leastWayFrom_40 ?_
      obtain ⟨x6, e7, hf⟩ := nm_some hf
      refine lv_tope e7 ?_
      refine lv_istore (lv' := [(4, .int x6), (0, .ref h_t), (1, .int p1), (2, .int p2), (3, .int p3)]) hx hb dX2_leastWayFrom_41 hl (by decide) rfl (fun ls hl => ?_)
      refine lv_iload_n hx hb dX2_leastWayFrom_43 rfl (lv_at hl 2 rfl) ?_
      refine lv_bipush (v := (39 : Int32)) hx hb dX2_leastWayFrom_44 (by decide) ?_
      refine lv_icmp_ne (tgt := 65) hx hb dX2_leastWayFrom_46 (by decide) (fun c8 => ?_) (fun c8 => ?_)
      · replace hf := ifn c8 hf
        refine lv_ldc (v := (1000000 : Int32)) hx hb hown (hts _ (List.mem_cons_of_mem _ kw_528)) dX2_leastWayFrom_65 ?_
        refine lv_istore (lv' := [(5, .int (1000000 : Int32)), (4, .int x6), (0, .ref h_t), (1, .int p1), (2, .int p2), (3, .int p3)]) hx hb dX2_leastWayFrom_67 hl (by decide) rfl (fun ls hl => ?_)
        refine lv_bipush (v := (20 : Int32)) hx hb dX2_leastWayFrom_69 (by decide) ?_
        refine lv_iload_n hx hb dX2_leastWayFrom_71 rfl (lv_at hl 5 rfl) ?_
        refine lv_aload_n hx hb dX2_leastWayFrom_72 rfl (lv_at hl 2 rfl) ?_
        refine va_get (D := (dC, dI)) (ci := 2) (v := .int t_stride) (C := RX2) (T := TX2) (N := 10) hx hb hts (in1 tw_X2) hown hK hP 0 rfl rfl 6 (by decide) (hts _ (List.mem_cons_of_mem _ kw_529)) (fun _ h9 => h9) rfl dX2_leastWayFrom_73 ?_
        refine lv_iadd hx hb dX2_leastWayFrom_76 ?_
        refine va_mmin hx hb (hml.trans hl.1.symm) hown (hts _ (List.mem_cons_of_mem _ kw_520)) (hts _ (List.mem_cons_of_mem _ kw_4)) (hts _ (List.mem_cons_of_mem _ kw_5)) (hts _ (List.mem_cons_of_mem _ kw_6)) (Nat.le_of_ble_eq_true rfl) (Nat.le_of_ble_eq_true rfl) (Nat.zero_le _) (Nat.zero_le _) dX2_leastWayFrom_77 ?_
        obtain ⟨x9, e10, hf⟩ := nm_some hf
        refine lv_tope e10 ?_
        refine lv_istore (lv' := [(6, .int x9), (5, .int (1000000 : Int32)), (4, .int x6), (0, .ref h_t), (1, .int p1), (2, .int p2), (3, .int p3)]) hx hb dX2_leastWayFrom_80 hl (by decide) rfl (fun ls hl => ?_)
        refine lv_iconst (v := (0 : Int32)) hx hb dX2_leastWayFrom_82 (by decide) ?_
        refine lv_iload_n hx hb dX2_leastWayFrom_83 rfl (lv_at hl 6 rfl) ?_
        refine lv_aload_n hx hb dX2_leastWayFrom_84 rfl (lv_at hl 3 rfl) ?_
        refine va_get (D := (dC, dI)) (ci := 2) (v := .int t_stride) (C := RX2) (T := TX2) (N := 10) hx hb hts (in1 tw_X2) hown hK hP 0 rfl rfl 6 (by decide) (hts _ (List.mem_cons_of_mem _ kw_529)) (fun _ h9 => h9) rfl dX2_leastWayFrom_85 ?_
        refine lv_isub hx hb dX2_leastWayFrom_88 ?_
        refine va_mmax hx hb (hml.trans hl.1.symm) hown (hts _ (List.mem_cons_of_mem _ kw_521)) (hts _ (List.mem_cons_of_mem _ kw_8)) (hts _ (List.mem_cons_of_mem _ kw_5)) (hts _ (List.mem_cons_of_mem _ kw_9)) (Nat.le_of_ble_eq_true rfl) (Nat.le_of_ble_eq_true rfl) (Nat.zero_le _) (Nat.zero_le _) dX2_leastWayFrom_89 ?_
        obtain ⟨x11, e12, hf⟩ := nm_some hf
        refine lv_tope e12 ?_
        refine lv_istore (lv' := [(7, .int x11), (6, .int x9), (5, .int (1000000 : Int32)), (4, .int x6), (0, .ref h_t), (1, .int p1), (2, .int p2), (3, .int p3)]) hx hb dX2_leastWayFrom_92 hl (by decide) rfl (fun ls hl => ?_)
        have L33 : ∀ (fu25 : Nat) (x22 : Int32) (x23 : Int32) (x21 : Int32), f_X2_leastWayFrom_L1 x9 p1 x6 p3 t_wayOn fu25 x22 x23 = some x21 → (∀ (H : Heap) (locs : List Loc), va_P (dC, dI) vwCl [(h_t, .inr (2, fX2 h_t_wayOn h_t_lowest h_t_highest h_t_seenAt h_t_firstRow t_allSeen t_stride t_travel h_t_drawnFor t_drawnStride)), (h_t_lowest, .inl (cI, 40, .inl t_lowest)), (h_t_highest, .inl (cI, 40, .inl t_highest)), (h_t_seenAt, .inl (cI, 840, .inl t_seenAt)), (h_t_wayOn, .inl (cI, 26880, .inl t_wayOn))] H → va_D A [(h_t, .inr (2, fX2 h_t_wayOn h_t_lowest h_t_highest h_t_seenAt h_t_firstRow t_allSeen t_stride t_travel h_t_drawnFor t_drawnStride)), (h_t_lowest, .inl (cI, 40, .inl t_lowest)), (h_t_highest, .inl (cI, 40, .inl t_highest)), (h_t_seenAt, .inl (cI, 840, .inl t_seenAt)), (h_t_wayOn, .inl (cI, 26880, .inl t_wayOn))] → va_S A s.heap H locs → ∀ ls : Array Slot, lv_has ls 8 [(5, .int x21)] → W p l e rmX2_leastWayFrom s m args below meth c H locs 0 0 Q (F0 m 137 ls [])) → ∀ (H : Heap) (locs : List Loc), va_P (dC, dI) vwCl [(h_t, .inr (2, fX2 h_t_wayOn h_t_lowest h_t_highest h_t_seenAt h_t_firstRow t_allSeen t_stride t_travel h_t_drawnFor t_drawnStride)), (h_t_lowest, .inl (cI, 40, .inl t_lowest)), (h_t_highest, .inl (cI, 40, .inl t_highest)), (h_t_seenAt, .inl (cI, 840, .inl t_seenAt)), (h_t_wayOn, .inl (cI, 26880, .inl t_wayOn))] H → va_D A [(h_t, .inr (2, fX2 h_t_wayOn h_t_lowest h_t_highest h_t_seenAt h_t_firstRow t_allSeen t_stride t_travel h_t_drawnFor t_drawnStride)), (h_t_lowest, .inl (cI, 40, .inl t_lowest)), (h_t_highest, .inl (cI, 40, .inl t_highest)), (h_t_seenAt, .inl (cI, 840, .inl t_seenAt)), (h_t_wayOn, .inl (cI, 26880, .inl t_wayOn))] → va_S A s.heap H locs → ∀ ls : Array Slot, lv_has ls 8 [(0, .ref h_t), (1, .int p1), (3, .int p3), (4, .int x6), (5, .int x22), (6, .int x9), (7, .int x23)] → W p l e rmX2_leastWayFrom s m args below meth c H locs 0 0 Q (F0 m 94 ls []) := by
          intro fu25
          induction fu25 with
          | zero =>
            intro x22 x23 x21 hf
            unfold f_X2_leastWayFrom_L1 at hf
            exact none_ne hf
          | succ fu25 ih24 =>
            intro x22 x23 x21 hf hX26 H locs hP hD hS ls hl
            unfold f_X2_leastWayFrom_L1 at hf
            refine lv_iload hx hb dX2_leastWayFrom_94 (lv_at hl 6 rfl) ?_
            refine lv_iload hx hb dX2_leastWayFrom_96 (lv_at hl 5 rfl) ?_
            refine lv_icmp_gt (tgt := 137) hx hb dX2_leastWayFrom_98 (by decide) (fun c27 => ?_) (fun c27 => ?_)
            · replace hf := ifp c27 hf
              obtain rfl := inj1 hf
              exact hX26 _ _ hP hD hS _ (lv_sub hl [4] rfl)
            · replace hf := ifn c27 hf
              refine lv_iload hx hb dX2_leastWayFrom_101 (lv_at hl 4 rfl) ?_
              refine lv_iload hx hb dX2_leastWayFrom_103 (lv_at hl 6 rfl) ?_
              refine lv_iload_n hx hb dX2_leastWayFrom_105 rfl (lv_at hl 2 rfl) ?_
              refine lv_isub hx hb dX2_leastWayFrom_106 ?_
              refine va_mabs hx hb (hml.trans hl.1.symm) hown (hts _ (List.mem_cons_of_mem _ kw_530)) (hts _ (List.mem_cons_of_mem _ kw_531)) (hts _ (List.mem_cons_of_mem _ kw_5)) (hts _ (List.mem_cons_of_mem _ kw_532)) (Nat.le_of_ble_eq_true rfl) (Nat.le_of_ble_eq_true rfl) (Nat.zero_le _) (Nat.zero_le _) dX2_leastWayFrom_107 ?_
              refine lv_aload_n hx hb dX2_leastWayFrom_110 rfl (lv_at hl 0 rfl) ?_
              refine va_get (D := (dC, dI)) (ci := 2) (v := .ref h_t_wayOn) (C := RX2) (T := TX2) (N := 10) hx hb hts (in1 tw_X2) hown hK hP 0 rfl rfl 0 (by decide) (hts _ (List.mem_cons_of_mem _ kw_52)) (fun _ h9 => h9) rfl dX2_leastWayFrom_111 ?_
              refine lv_iload_n hx hb dX2_leastWayFrom_114 rfl (lv_at hl 1 rfl) ?_
              refine lv_iconst (v := (1 : Int32)) hx hb dX2_leastWayFrom_115 (by decide) ?_
              refine lv_iadd hx hb dX2_leastWayFrom_116 ?_
              refine lv_iload hx hb dX2_leastWayFrom_117 (lv_at hl 3 rfl) ?_
              refine lv_iload hx hb dX2_leastWayFrom_119 (lv_at hl 6 rfl) ?_
              obtain ⟨r28, hg29, hf⟩ := bd1_some hf
              refine CM_callS (As := [.int (p1 + (1 : Int32)), .int x6, .int x23]) (rest := [.ref h_t_wayOn, .int (if 0 ≤ (x23 - p3) then (x23 - p3) else 0 - (x23 - p3)), .int x22]) (wc := []) (w1 := []) (wr := [(h_t, .inr (2, fX2 h_t_wayOn h_t_lowest h_t_highest h_t_seenAt h_t_firstRow t_allSeen t_stride t_travel h_t_drawnFor t_drawnStride)), (h_t_lowest, .inl (cI, 40, .inl t_lowest)), (h_t_highest, .inl (cI, 40, .inl t_highest)), (h_t_seenAt, .inl (cI, 840, .inl t_seenAt)), (h_t_wayOn, .inl (cI, 26880, .inl t_wayOn))]) (wo := [(h_t, .inr (2, fX2 h_t_wayOn h_t_lowest h_t_highest h_t_seenAt h_t_firstRow t_allSeen t_stride t_travel h_t_drawnFor t_drawnStride)), (h_t_lowest, .inl (cI, 40, .inl t_lowest)), (h_t_highest, .inl (cI, 40, .inl t_highest)), (h_t_seenAt, .inl (cI, 840, .inl t_seenAt)), (h_t_wayOn, .inl (cI, 26880, .inl t_wayOn))]) (v := (some (.int r28))) ⟨hx, hb, hml, hown, hts⟩ (c_X2_wayAt l dC dI cI cZ te (p1 + (1 : Int32)) x6 x23 r28 hg29) (va_cwS 3 hts (gS kw_533 kw_534 kw_95 kw_535) rfl rfl rfl (by decide +kernel) ⟨Nat.le_of_ble_eq_true rfl, Nat.le_of_ble_eq_true rfl⟩) (kS_env te) hK hP hD hS hA hE [] [0, 1, 2, 3, 4] [0, 1, 2, 3, 4] rfl rfl (by decide) (by decide) (by decide) (by decide) rfl rfl hl.1 rfl (Nat.le_of_ble_eq_true rfl) dX2_leastWayFrom_121 ⟨Nat.zero_le _, Nat.zero_le _⟩ (fun H locs hP hD hS => ?_)
              show W p l e rmX2_leastWayFrom s m args below meth c H locs 0 0 Q (F0 m 124 ls [.int r28, .ref h_t_wayOn, .int (if 0 ≤ (x23 - p3) then (x23 - p3) else 0 - (x23 - p3)), .int x22])
              obtain ⟨g30, hf⟩ := chk_some hf
              refine va_iald hx hb hK hP 4 0 rfl rfl (gin_in g30) dX2_leastWayFrom_124 ?_
              refine lv_iadd hx hb dX2_leastWayFrom_125 ?_
              refine va_mmin hx hb (hml.trans hl.1.symm) hown (hts _ (List.mem_cons_of_mem _ kw_520)) (hts _ (List.mem_cons_of_mem _ kw_4)) (hts _ (List.mem_cons_of_mem _ kw_5)) (hts _ (List.mem_cons_of_mem _ kw_6)) (Nat.le_of_ble_eq_true rfl) (Nat.le_of_ble_eq_true rfl) (Nat.zero_le _) (Nat.zero_le _) dX2_leastWayFrom_126 ?_
              obtain ⟨x31, e32, hf⟩ := nm_some hf
              refine lv_tope e32 ?_
              refine lv_istore (lv' := [(5, .int x31), (0, .ref h_t), (1, .int p1), (3, .int p3), (4, .int x6), (6, .int x9), (7, .int x23)]) hx hb dX2_leastWayFrom_129 hl (by decide) rfl (fun ls hl => ?_)
              refine lv_iinc (v := (x23 + (1 : Int32))) (lv' := [(7, .int (x23 + (1 : Int32))), (5, .int x31), (0, .ref h_t), (1, .int p1), (3, .int p3), (4, .int x6), (6, .int x9)]) hx hb dX2_leastWayFrom_131 hl (k := 6) rfl rfl (by decide) rfl (fun ls hl => ?_)
              refine lv_goto (tgt := 94) hx hb dX2_leastWayFrom_134 (by decide) ?_
              exact ih24 _ _ _ hf hX26 _ _ hP hD hS _ (lv_sub hl [2, 3, 4, 5, 1, 6, 0] rfl)
        obtain ⟨x21, hg, hf⟩ := bd1_some hf
        refine L33 FU _ _ _ hg ?_ _ _ hP hD hS _ (lv_sub hl [4, 5, 7, 3, 2, 1, 0] rfl)
        · intro H locs hP hD hS ls hl
          refine lv_iload hx hb dX2_leastWayFrom_137 (lv_at hl 0 rfl) ?_
          obtain rfl := inj1 hf
          subst hQ
          exact CM_iret hx hb hr rfl hlocks hAe hP hD hS dX2_leastWayFrom_139
      · replace hf := ifp c8 hf
        refine lv_iload hx hb dX2_leastWayFrom_49 (lv_at hl 0 rfl) ?_
        refine lv_aload_n hx hb dX2_leastWayFrom_51 rfl (lv_at hl 1 rfl) ?_
        refine va_get (D := (dC, dI)) (ci := 2) (v := .int t_allSeen) (C := RX2) (T := TX2) (N := 10) hx hb hts (in1 tw_X2) hown hK hP 0 rfl rfl 5 (by decide) (hts _ (List.mem_cons_of_mem _ kw_527)) (fun _ h9 => h9) rfl dX2_leastWayFrom_52 ?_
        refine lv_icmp_ne (tgt := 62) hx hb dX2_leastWayFrom_55 (by decide) (fun c34 => ?_) (fun c34 => ?_)
        · replace hf := ifn c34 hf
          refine lv_ldc (v := (1000000 : Int32)) hx hb hown (hts _ (List.mem_cons_of_mem _ kw_528)) dX2_leastWayFrom_62 ?_
          obtain rfl := inj1 hf
          subst hQ
          exact CM_iret hx hb hr rfl hlocks hAe hP hD hS dX2_leastWayFrom_64
        · replace hf := ifp c34 hf
          refine lv_iconst (v := (0 : Int32)) hx hb dX2_leastWayFrom_58 (by decide) ?_
          refine lv_goto (tgt := 64) hx hb dX2_leastWayFrom_59 (by decide) ?_
          obtain rfl := inj1 hf
          subst hQ
          exact CM_iret hx hb hr rfl hlocks hAe hP hD hS dX2_leastWayFrom_64
    · replace hf := ifn c4 hf
      refine lv_ldc (v := (1000000 : Int32)) hx hb hown (hts _ (List.mem_cons_of_mem _ kw_528)) dX2_leastWayFrom_20 ?_
      obtain rfl := inj1 hf
      subst hQ
      exact CM_iret hx hb hr rfl hlocks hAe hP hD hS dX2_leastWayFrom_22
def rmX2_findWaysFrom : Room := { frames := 2, cells := 0, slots := 0, locals := 49 }
abbrev wqX2_findWaysFrom : List Cond := Cond.code yX2_findWaysFrom cX2_findWaysFrom 4 none :: tG
set_option maxHeartbeats 4000000 in
set_option maxRecDepth 100000 in
theorem c_X2_findWaysFrom (l : Launch) (dC : Nat → ClassId) (dI : Nat → Nat → Nat) (cI cZ : ClassId) (te : Nat → Nat) (h_t : Nat) (h_t_wayOn : Nat) (h_t_lowest : Nat) (h_t_highest : Nat) (h_t_seenAt : Nat) (h_t_firstRow : Nat) (h_t_drawnFor : Nat) (t_allSeen : Int32) (t_stride : Int32) (t_travel : Int32) (t_drawnStride : Int32) (t_lowest : Nat → Int32) (t_highest : Nat → Int32) (t_seenAt : Nat → Int32) (t_wayOn : Nat → Int32) (p1 : Int32) (o0 : Nat → Int32) (hf : f_X2_findWaysFrom t_allSeen t_stride t_lowest t_highest t_seenAt t_wayOn p1 = some o0) : CM l yX2_findWaysFrom wqX2_findWaysFrom rmX2_findWaysFrom (kS te) dC dI cI cZ [.ref h_t, .int p1] [(h_t, .inr (2, fX2 h_t_wayOn h_t_lowest h_t_highest h_t_seenAt h_t_firstRow t_allSeen t_stride t_travel h_t_drawnFor t_drawnStride)), (h_t_lowest, .inl (cI, 40, .inl t_lowest)), (h_t_highest, .inl (cI, 40, .inl t_highest)), (h_t_seenAt, .inl (cI, 840, .inl t_seenAt)), (h_t_wayOn, .inl (cI, 26880, .inl t_wayOn))] [(h_t, .inr (2, fX2 h_t_wayOn h_t_lowest h_t_highest h_t_seenAt h_t_firstRow t_allSeen t_stride t_travel h_t_drawnFor t_drawnStride)), (h_t_lowest, .inl (cI, 40, .inl t_lowest)), (h_t_highest, .inl (cI, 40, .inl t_highest)), (h_t_seenAt, .inl (cI, 840, .inl t_seenAt)), (h_t_wayOn, .inl (cI, 26880, .inl o0))] none := by
  refine CM_of (cc := cX2_findWaysFrom) (maxL := 4) (ret := none) (by decide +kernel) rfl (Nat.le_of_ble_eq_true rfl) ?_
  intro p e s m args below meth c A Q hx hb hr hml hown hts hlocks hA hK hP hD hS hE hQ hAe ls hl
  have hown : s.vm.findClass RX2 = some m.cls := hown
  have hl : lv_has ls 4 [(0, .ref h_t), (1, .int p1)] := hl
  unfold f_X2_findWaysFrom at hf
  refine lv_iconst (v := (0 : Int32)) hx hb dX2_findWaysFrom_0 (by decide) ?_
  refine lv_istore_n (lv' := [(2, .int (0 : Int32)), (0, .ref h_t), (1, .int p1)]) hx hb dX2_findWaysFrom_1 rfl hl (by decide) rfl (fun ls hl => ?_)
  have L61 : ∀ (fu33 : Nat) (y30 : Nat → Int32) (x31 : Int32) (y29 : Nat → Int32), f_X2_findWaysFrom_L3 t_allSeen p1 t_stride t_lowest t_highest t_seenAt fu33 y30 x31 = some y29 → (∀ (H : Heap) (locs : List Loc), va_P (dC, dI) vwCl [(h_t, .inr (2, fX2 h_t_wayOn h_t_lowest h_t_highest h_t_seenAt h_t_firstRow t_allSeen t_stride t_travel h_t_drawnFor t_drawnStride)), (h_t_lowest, .inl (cI, 40, .inl t_lowest)), (h_t_highest, .inl (cI, 40, .inl t_highest)), (h_t_seenAt, .inl (cI, 840, .inl t_seenAt)), (h_t_wayOn, .inl (cI, 26880, .inl y29))] H → va_D A [(h_t, .inr (2, fX2 h_t_wayOn h_t_lowest h_t_highest h_t_seenAt h_t_firstRow t_allSeen t_stride t_travel h_t_drawnFor t_drawnStride)), (h_t_lowest, .inl (cI, 40, .inl t_lowest)), (h_t_highest, .inl (cI, 40, .inl t_highest)), (h_t_seenAt, .inl (cI, 840, .inl t_seenAt)), (h_t_wayOn, .inl (cI, 26880, .inl y29))] → va_S A s.heap H locs → ∀ ls : Array Slot, lv_has ls 4 [] → W p l e rmX2_findWaysFrom s m args below meth c H locs 0 0 Q (F0 m 48 ls [])) → ∀ (H : Heap) (locs : List Loc), va_P (dC, dI) vwCl [(h_t, .inr (2, fX2 h_t_wayOn h_t_lowest h_t_highest h_t_seenAt h_t_firstRow t_allSeen t_stride t_travel h_t_drawnFor t_drawnStride)), (h_t_lowest, .inl (cI, 40, .inl t_lowest)), (h_t_highest, .inl (cI, 40, .inl t_highest)), (h_t_seenAt, .inl (cI, 840, .inl t_seenAt)), (h_t_wayOn, .inl (cI, 26880, .inl y30))] H → va_D A [(h_t, .inr (2, fX2 h_t_wayOn h_t_lowest h_t_highest h_t_seenAt h_t_firstRow t_allSeen t_stride t_travel h_t_drawnFor t_drawnStride)), (h_t_lowest, .inl (cI, 40, .inl t_lowest)), (h_t_highest, .inl (cI, 40, .inl t_highest)), (h_t_seenAt, .inl (cI, 840, .inl t_seenAt)), (h_t_wayOn, .inl (cI, 26880, .inl y30))] → va_S A s.heap H locs → ∀ ls : Array Slot, lv_has ls 4 [(0, .ref h_t), (1, .int p1), (2, .int x31)] → W p l e rmX2_findWaysFrom s m args below meth c H locs 0 0 Q (F0 m 2 ls []) := by
    intro fu33
    induction fu33 with
    | zero =>
      intro y30 x31 y29 hf
      unfold f_X2_findWaysFrom_L3 at hf
      exact none_ne hf
    | succ fu33 ih32 =>
      intro y30 x31 y29 hf hX34 H locs hP hD hS ls hl
      unfold f_X2_findWaysFrom_L3 at hf
      refine lv_iload_n hx hb dX2_findWaysFrom_2 rfl (lv_at hl 2 rfl) ?_
      refine lv_aload_n hx hb dX2_findWaysFrom_3 rfl (lv_at hl 0 rfl) ?_
      refine va_get (D := (dC, dI)) (ci := 2) (v := .int t_allSeen) (C := RX2) (T := TX2) (N := 10) hx hb hts (in1 tw_X2) hown hK hP 0 rfl rfl 5 (by decide) (hts _ (List.mem_cons_of_mem _ kw_527)) (fun _ h9 => h9) rfl dX2_findWaysFrom_4 ?_
      refine lv_icmp_gt (tgt := 48) hx hb dX2_findWaysFrom_7 (by decide) (fun c35 => ?_) (fun c35 => ?_)
      · replace hf := ifp c35 hf
        obtain rfl := inj1 hf
        exact hX34 _ _ hP hD hS _ (lv_sub hl [] rfl)
      · replace hf := ifn c35 hf
        refine lv_iconst (v := (0 : Int32)) hx hb dX2_findWaysFrom_10 (by decide) ?_
        refine lv_istore_n (lv' := [(3, .int (0 : Int32)), (0, .ref h_t), (1, .int p1), (2, .int x31)]) hx hb dX2_findWaysFrom_11 rfl hl (by decide) rfl (fun ls hl => ?_)
        have L60 : ∀ (fu50 : Nat) (y47 : Nat → Int32) (x48 : Int32) (y46 : Nat → Int32), f_X2_findWaysFrom_L4 p1 x31 t_allSeen t_stride t_lowest t_highest t_seenAt fu50 y47 x48 = some y46 → (∀ (H : Heap) (locs : List Loc), va_P (dC, dI) vwCl [(h_t, .inr (2, fX2 h_t_wayOn h_t_lowest h_t_highest h_t_seenAt h_t_firstRow t_allSeen t_stride t_travel h_t_drawnFor t_drawnStride)), (h_t_lowest, .inl (cI, 40, .inl t_lowest)), (h_t_highest, .inl (cI, 40, .inl t_highest)), (h_t_seenAt, .inl (cI, 840, .inl t_seenAt)), (h_t_wayOn, .inl (cI, 26880, .inl y46))] H → va_D A [(h_t, .inr (2, fX2 h_t_wayOn h_t_lowest h_t_highest h_t_seenAt h_t_firstRow t_allSeen t_stride t_travel h_t_drawnFor t_drawnStride)), (h_t_lowest, .inl (cI, 40, .inl t_lowest)), (h_t_highest, .inl (cI, 40, .inl t_highest)), (h_t_seenAt, .inl (cI, 840, .inl t_seenAt)), (h_t_wayOn, .inl (cI, 26880, .inl y46))] → va_S A s.heap H locs → ∀ ls : Array Slot, lv_has ls 4 [(0, .ref h_t), (1, .int p1), (2, .int x31)] → W p l e rmX2_findWaysFrom s m args below meth c H locs 0 0 Q (F0 m 42 ls [])) → ∀ (H : Heap) (locs : List Loc), va_P (dC, dI) vwCl [(h_t, .inr (2, fX2 h_t_wayOn h_t_lowest h_t_highest h_t_seenAt h_t_firstRow t_allSeen t_stride t_travel h_t_drawnFor t_drawnStride)), (h_t_lowest, .inl (cI, 40, .inl t_lowest)), (h_t_highest, .inl (cI, 40, .inl t_highest)), (h_t_seenAt, .inl (cI, 840, .inl t_seenAt)), (h_t_wayOn, .inl (cI, 26880, .inl y47))] H → va_D A [(h_t, .inr (2, fX2 h_t_wayOn h_t_lowest h_t_highest h_t_seenAt h_t_firstRow t_allSeen t_stride t_travel h_t_drawnFor t_drawnStride)), (h_t_lowest, .inl (cI, 40, .inl t_lowest)), (h_t_highest, .inl (cI, 40, .inl t_highest)), (h_t_seenAt, .inl (cI, 840, .inl t_seenAt)), (h_t_wayOn, .inl (cI, 26880, .inl y47))] → va_S A s.heap H locs → ∀ ls : Array Slot, lv_has ls 4 [(0, .ref h_t), (1, .int p1), (2, .int x31), (3, .int x48)] → W p l e rmX2_findWaysFrom s m args below meth c H locs 0 0 Q (F0 m 12 ls []) := by
          intro fu50
          induction fu50 with
          | zero =>
            intro y47 x48 y46 hf
            unfold f_X2_findWaysFrom_L4 at hf
            exact none_ne hf
          | succ fu50 ih49 =>
            intro y47 x48 y46 hf hX51 H locs hP hD hS ls hl
            unfold f_X2_findWaysFrom_L4 at hf
            refine lv_iload_n hx hb dX2_findWaysFrom_12 rfl (lv_at hl 3 rfl) ?_
            refine lv_bipush (v := (21 : Int32)) hx hb dX2_findWaysFrom_13 (by decide) ?_
            refine lv_icmp_ge (tgt := 42) hx hb dX2_findWaysFrom_15 (by decide) (fun c52 => ?_) (fun c52 => ?_)
            · replace hf := ifp c52 hf
              obtain rfl := inj1 hf
              exact hX51 _ _ hP hD hS _ (lv_sub hl [0, 1, 2] rfl)
            · replace hf := ifn c52 hf
              refine lv_aload_n hx hb dX2_findWaysFrom_18 rfl (lv_at hl 0 rfl) ?_
              refine va_get (D := (dC, dI)) (ci := 2) (v := .ref h_t_wayOn) (C := RX2) (T := TX2) (N := 10) hx hb hts (in1 tw_X2) hown hK hP 0 rfl rfl 0 (by decide) (hts _ (List.mem_cons_of_mem _ kw_52)) (fun _ h9 => h9) rfl dX2_findWaysFrom_19 ?_
              refine lv_iload_n hx hb dX2_findWaysFrom_22 rfl (lv_at hl 1 rfl) ?_
              refine lv_iload_n hx hb dX2_findWaysFrom_23 rfl (lv_at hl 2 rfl) ?_
              refine lv_iload_n hx hb dX2_findWaysFrom_24 rfl (lv_at hl 3 rfl) ?_
              obtain ⟨r53, hg54, hf⟩ := bd1_some hf
              refine CM_callS (As := [.int p1, .int x31, .int x48]) (rest := [.ref h_t_wayOn]) (wc := []) (w1 := []) (wr := [(h_t, .inr (2, fX2 h_t_wayOn h_t_lowest h_t_highest h_t_seenAt h_t_firstRow t_allSeen t_stride t_travel h_t_drawnFor t_drawnStride)), (h_t_lowest, .inl (cI, 40, .inl t_lowest)), (h_t_highest, .inl (cI, 40, .inl t_highest)), (h_t_seenAt, .inl (cI, 840, .inl t_seenAt)), (h_t_wayOn, .inl (cI, 26880, .inl y47))]) (wo := [(h_t, .inr (2, fX2 h_t_wayOn h_t_lowest h_t_highest h_t_seenAt h_t_firstRow t_allSeen t_stride t_travel h_t_drawnFor t_drawnStride)), (h_t_lowest, .inl (cI, 40, .inl t_lowest)), (h_t_highest, .inl (cI, 40, .inl t_highest)), (h_t_seenAt, .inl (cI, 840, .inl t_seenAt)), (h_t_wayOn, .inl (cI, 26880, .inl y47))]) (v := (some (.int r53))) ⟨hx, hb, hml, hown, hts⟩ (c_X2_wayAt l dC dI cI cZ te p1 x31 x48 r53 hg54) (va_cwS 3 hts (gS kw_533 kw_534 kw_95 kw_535) rfl rfl rfl (by decide +kernel) ⟨Nat.le_of_ble_eq_true rfl, Nat.le_of_ble_eq_true rfl⟩) (kS_env te) hK hP hD hS hA hE [] [0, 1, 2, 3, 4] [0, 1, 2, 3, 4] rfl rfl (by decide) (by decide) (by decide) (by decide) rfl rfl hl.1 rfl (Nat.le_of_ble_eq_true rfl) dX2_findWaysFrom_25 ⟨Nat.zero_le _, Nat.zero_le _⟩ (fun H locs hP hD hS => ?_)
              show W p l e rmX2_findWaysFrom s m args below meth c H locs 0 0 Q (F0 m 28 ls [.int r53, .ref h_t_wayOn])
              refine lv_aload_n hx hb dX2_findWaysFrom_28 rfl (lv_at hl 0 rfl) ?_
              refine lv_iload_n hx hb dX2_findWaysFrom_29 rfl (lv_at hl 1 rfl) ?_
              refine lv_iload_n hx hb dX2_findWaysFrom_30 rfl (lv_at hl 2 rfl) ?_
              refine lv_iload_n hx hb dX2_findWaysFrom_31 rfl (lv_at hl 3 rfl) ?_
              obtain ⟨r55, hg56, hf⟩ := bd1_some hf
              refine CM_callV (C := RX2) (As := [.int p1, .int x31, .int x48]) (rest := [.int r53, .ref h_t_wayOn]) (wc := [(h_t, .inr (2, fX2 h_t_wayOn h_t_lowest h_t_highest h_t_seenAt h_t_firstRow t_allSeen t_stride t_travel h_t_drawnFor t_drawnStride)), (h_t_lowest, .inl (cI, 40, .inl t_lowest)), (h_t_highest, .inl (cI, 40, .inl t_highest)), (h_t_seenAt, .inl (cI, 840, .inl t_seenAt)), (h_t_wayOn, .inl (cI, 26880, .inl y47))]) (w1 := [(h_t, .inr (2, fX2 h_t_wayOn h_t_lowest h_t_highest h_t_seenAt h_t_firstRow t_allSeen t_stride t_travel h_t_drawnFor t_drawnStride)), (h_t_lowest, .inl (cI, 40, .inl t_lowest)), (h_t_highest, .inl (cI, 40, .inl t_highest)), (h_t_seenAt, .inl (cI, 840, .inl t_seenAt)), (h_t_wayOn, .inl (cI, 26880, .inl y47))]) (wr := []) (wo := [(h_t, .inr (2, fX2 h_t_wayOn h_t_lowest h_t_highest h_t_seenAt h_t_firstRow t_allSeen t_stride t_travel h_t_drawnFor t_drawnStride)), (h_t_lowest, .inl (cI, 40, .inl t_lowest)), (h_t_highest, .inl (cI, 40, .inl t_highest)), (h_t_seenAt, .inl (cI, 840, .inl t_seenAt)), (h_t_wayOn, .inl (cI, 26880, .inl y47))]) (v := (some (.int r55))) ⟨hx, hb, hml, hown, hts⟩ (c_X2_leastWayFrom l dC dI cI cZ te h_t h_t_wayOn h_t_lowest h_t_highest h_t_seenAt h_t_firstRow h_t_drawnFor t_allSeen t_stride t_travel t_drawnStride t_lowest t_highest t_seenAt y47 p1 x31 x48 r55 hg56) (cwV 3 hts (gV kw_536 kw_537 kw_538 kw_95 kw_539) rfl rfl rfl (by decide +kernel) ⟨Nat.le_of_ble_eq_true rfl, Nat.le_of_ble_eq_true rfl⟩) (kS_env te) hK hP hD hS hA hE [0, 1, 2, 3, 4] [] [0, 1, 2, 3, 4] rfl rfl (by decide) (by decide) (by decide) (by decide) rfl 0 2 rfl rfl rfl rfl hl.1 rfl (Nat.le_of_ble_eq_true rfl) dX2_findWaysFrom_32 ⟨Nat.zero_le _, Nat.zero_le _⟩ (fun H locs hP hD hS => ?_)
              show W p l e rmX2_findWaysFrom s m args below meth c H locs 0 0 Q (F0 m 35 ls [.int r55, .int r53, .ref h_t_wayOn])
              obtain ⟨g57, hf⟩ := chk_some hf
              obtain ⟨y58, e59, hf⟩ := nm_some hf
              refine va_iast hx hb hK hP hD hS 4 0 rfl rfl (gin_in g57) dX2_findWaysFrom_35 (fun H locs hP hD hS => ?_)
              have hP : va_P (dC, dI) vwCl [(h_t, .inr (2, fX2 h_t_wayOn h_t_lowest h_t_highest h_t_seenAt h_t_firstRow t_allSeen t_stride t_travel h_t_drawnFor t_drawnStride)), (h_t_lowest, .inl (cI, 40, .inl t_lowest)), (h_t_highest, .inl (cI, 40, .inl t_highest)), (h_t_seenAt, .inl (cI, 840, .inl t_seenAt)), (h_t_wayOn, .inl (cI, 26880, .inl y58))] H := by rw [e59]; exact hP
              have hD : va_D A [(h_t, .inr (2, fX2 h_t_wayOn h_t_lowest h_t_highest h_t_seenAt h_t_firstRow t_allSeen t_stride t_travel h_t_drawnFor t_drawnStride)), (h_t_lowest, .inl (cI, 40, .inl t_lowest)), (h_t_highest, .inl (cI, 40, .inl t_highest)), (h_t_seenAt, .inl (cI, 840, .inl t_seenAt)), (h_t_wayOn, .inl (cI, 26880, .inl y58))] := by rw [e59]; exact hD
              refine lv_iinc (v := (x48 + (1 : Int32))) (lv' := [(3, .int (x48 + (1 : Int32))), (0, .ref h_t), (1, .int p1), (2, .int x31)]) hx hb dX2_findWaysFrom_36 hl (k := 3) rfl rfl (by decide) rfl (fun ls hl => ?_)
              refine lv_goto (tgt := 12) hx hb dX2_findWaysFrom_39 (by decide) ?_
              exact ih49 _ _ _ hf hX51 _ _ hP hD hS _ (lv_sub hl [1, 2, 3, 0] rfl)
        obtain ⟨y46, hg, hf⟩ := bd1_some hf
        refine L60 FU _ _ _ hg ?_ _ _ hP hD hS _ (lv_sub hl [1, 2, 3, 0] rfl)
        · intro H locs hP hD hS ls hl
          refine lv_iinc (v := (x31 + (1 : Int32))) (lv' := [(2, .int (x31 + (1 : Int32))), (0, .ref h_t), (1, .int p1)]) hx hb dX2_findWaysFrom_42 hl (k := 2) rfl rfl (by decide) rfl (fun ls hl => ?_)
          refine lv_goto (tgt := 2) hx hb dX2_findWaysFrom_45 (by decide) ?_
          exact ih32 _ _ _ hf hX34 _ _ hP hD hS _ (lv_sub hl [1, 2, 0] rfl)
  obtain ⟨y29, hg, hf⟩ := bd1_some hf
  refine L61 FU _ _ _ hg ?_ _ _ hP hD hS _ (lv_sub hl [1, 2, 0] rfl)
  · intro H locs hP hD hS ls hl
    obtain rfl := inj1 hf
    subst hQ
    exact CM_vret hx hb hr hlocks hAe hP hD hS dX2_findWaysFrom_48
def rmX2_leastFront : Room := { frames := 1, cells := 0, slots := 0, locals := 22 }
abbrev wqX2_leastFront : List Cond := Cond.code yX2_leastFront cX2_leastFront 11 (some .int) :: tG
set_option maxHeartbeats 4000000 in
set_option maxRecDepth 100000 in
theorem c_X2_leastFront (l : Launch) (dC : Nat → ClassId) (dI : Nat → Nat → Nat) (cI cZ : ClassId) (te : Nat → Nat) (h_t : Nat) (h_t_wayOn : Nat) (h_t_lowest : Nat) (h_t_highest : Nat) (h_t_seenAt : Nat) (h_t_firstRow : Nat) (h_t_drawnFor : Nat) (t_allSeen : Int32) (t_stride : Int32) (t_travel : Int32) (t_drawnStride : Int32) (t_wayOn : Nat → Int32) (p1 : Int32) (p2 : Int32) (p3 : Int32) (p4 : Int32) (p5 : Int32) (o0 : Int32) (hf : f_X2_leastFront t_wayOn p1 p2 p3 p4 p5 = some o0) : CM l yX2_leastFront wqX2_leastFront rmX2_leastFront (kS te) dC dI cI cZ [.ref h_t, .int p1, .int p2, .int p3, .int p4, .int p5] [(h_t, .inr (2, fX2 h_t_wayOn h_t_lowest h_t_highest h_t_seenAt h_t_firstRow t_allSeen t_stride t_travel h_t_drawnFor t_drawnStride)), (h_t_wayOn, .inl (cI, 26880, .inl t_wayOn))] [(h_t, .inr (2, fX2 h_t_wayOn h_t_lowest h_t_highest h_t_seenAt h_t_firstRow t_allSeen t_stride t_travel h_t_drawnFor t_drawnStride)), (h_t_wayOn, .inl (cI, 26880, .inl t_wayOn))] (some (.int o0)) := by
  refine CM_of (cc := cX2_leastFront) (maxL := 11) (ret := (some .int)) (by decide +kernel) rfl (Nat.le_of_ble_eq_true rfl) ?_
  intro p e s m args below meth c A Q hx hb hr hml hown hts hlocks hA hK hP hD hS hE hQ hAe ls hl
  have hown : s.vm.findClass RX2 = some m.cls := hown
  have hl : lv_has ls 11 [(0, .ref h_t), (1, .int p1), (2, .int p2), (3, .int p3), (4, .int p4), (5, .int p5)] := hl
  unfold f_X2_leastFront at hf
  refine lv_iload_n hx hb dX2_leastFront_0 rfl (lv_at hl 3 rfl) ?_
  refine lv_istore (lv' := [(6, .int p3), (0, .ref h_t), (1, .int p1), (2, .int p2), (3, .int p3), (4, .int p4), (5, .int p5)]) hx hb dX2_leastFront_1 hl (by decide) rfl (fun ls hl => ?_)
  refine lv_ldc (v := (1000000 : Int32)) hx hb hown (hts _ (List.mem_cons_of_mem _ kw_528)) dX2_leastFront_3 ?_
  refine lv_istore (lv' := [(7, .int (1000000 : Int32)), (6, .int p3), (0, .ref h_t), (1, .int p1), (2, .int p2), (3, .int p3), (4, .int p4), (5, .int p5)]) hx hb dX2_leastFront_5 hl (by decide) rfl (fun ls hl => ?_)
  refine lv_iload_n hx hb dX2_leastFront_7 rfl (lv_at hl 5 rfl) ?_
  refine lv_istore (lv' := [(8, .int p3), (7, .int (1000000 : Int32)), (6, .int p3), (0, .ref h_t), (1, .int p1), (2, .int p2), (3, .int p3), (4, .int p4), (5, .int p5)]) hx hb dX2_leastFront_8 hl (by decide) rfl (fun ls hl => ?_)
  have L31 : ∀ (fu19 : Nat) (x15 : Int32) (x16 : Int32) (x17 : Int32) (x14 : Int32), f_X2_leastFront_L1 p4 p1 p5 p2 t_wayOn fu19 x15 x16 x17 = some x14 → (∀ (H : Heap) (locs : List Loc), va_P (dC, dI) vwCl [(h_t, .inr (2, fX2 h_t_wayOn h_t_lowest h_t_highest h_t_seenAt h_t_firstRow t_allSeen t_stride t_travel h_t_drawnFor t_drawnStride)), (h_t_wayOn, .inl (cI, 26880, .inl t_wayOn))] H → va_D A [(h_t, .inr (2, fX2 h_t_wayOn h_t_lowest h_t_highest h_t_seenAt h_t_firstRow t_allSeen t_stride t_travel h_t_drawnFor t_drawnStride)), (h_t_wayOn, .inl (cI, 26880, .inl t_wayOn))] → va_S A s.heap H locs → ∀ ls : Array Slot, lv_has ls 11 [(6, .int x14)] → W p l e rmX2_leastFront s m args below meth c H locs 0 0 Q (F0 m 73 ls [])) → ∀ (H : Heap) (locs : List Loc), va_P (dC, dI) vwCl [(h_t, .inr (2, fX2 h_t_wayOn h_t_lowest h_t_highest h_t_seenAt h_t_firstRow t_allSeen t_stride t_travel h_t_drawnFor t_drawnStride)), (h_t_wayOn, .inl (cI, 26880, .inl t_wayOn))] H → va_D A [(h_t, .inr (2, fX2 h_t_wayOn h_t_lowest h_t_highest h_t_seenAt h_t_firstRow t_allSeen t_stride t_travel h_t_drawnFor t_drawnStride)), (h_t_wayOn, .inl (cI, 26880, .inl t_wayOn))] → va_S A s.heap H locs → ∀ ls : Array Slot, lv_has ls 11 [(0, .ref h_t), (1, .int p1), (2, .int p2), (4, .int p4), (5, .int p5), (6, .int x15), (7, .int x16), (8, .int x17)] → W p l e rmX2_leastFront s m args below meth c H locs 0 0 Q (F0 m 10 ls []) := by
    intro fu19
    induction fu19 with
    | zero =>
      intro x15 x16 x17 x14 hf
      unfold f_X2_leastFront_L1 at hf
      exact none_ne hf
    | succ fu19 ih18 =>
      intro x15 x16 x17 x14 hf hX20 H locs hP hD hS ls hl
      unfold f_X2_leastFront_L1 at hf
      refine lv_iload hx hb dX2_leastFront_10 (lv_at hl 7 rfl) ?_
      refine lv_iload hx hb dX2_leastFront_12 (lv_at hl 3 rfl) ?_
      refine lv_icmp_gt (tgt := 73) hx hb dX2_leastFront_14 (by decide) (fun c21 => ?_) (fun c21 => ?_)
      · replace hf := ifp c21 hf
        obtain rfl := inj1 hf
        exact hX20 _ _ hP hD hS _ (lv_sub hl [5] rfl)
      · replace hf := ifn c21 hf
        refine lv_iload_n hx hb dX2_leastFront_17 rfl (lv_at hl 1 rfl) ?_
        obtain ⟨x22, hg, hf⟩ := bd1_some hf
        have J23 : ∀ (H : Heap) (locs : List Loc), va_P (dC, dI) vwCl [(h_t, .inr (2, fX2 h_t_wayOn h_t_lowest h_t_highest h_t_seenAt h_t_firstRow t_allSeen t_stride t_travel h_t_drawnFor t_drawnStride)), (h_t_wayOn, .inl (cI, 26880, .inl t_wayOn))] H → va_D A [(h_t, .inr (2, fX2 h_t_wayOn h_t_lowest h_t_highest h_t_seenAt h_t_firstRow t_allSeen t_stride t_travel h_t_drawnFor t_drawnStride)), (h_t_wayOn, .inl (cI, 26880, .inl t_wayOn))] → va_S A s.heap H locs → ∀ ls : Array Slot, lv_has ls 11 [(0, .ref h_t), (1, .int p1), (2, .int p2), (4, .int p4), (5, .int p5), (6, .int x15), (7, .int x16), (8, .int x17)] → W p l e rmX2_leastFront s m args below meth c H locs 0 0 Q (F0 m 33 ls [.int x22]) := by
          intro H locs hP hD hS ls hl
          refine lv_istore (lv' := [(9, .int x22), (0, .ref h_t), (1, .int p1), (2, .int p2), (4, .int p4), (5, .int p5), (6, .int x15), (7, .int x16), (8, .int x17)]) hx hb dX2_leastFront_33 hl (by decide) rfl (fun ls hl => ?_)
          refine lv_iload hx hb dX2_leastFront_35 (lv_at hl 0 rfl) ?_
          refine lv_aload_n hx hb dX2_leastFront_37 rfl (lv_at hl 1 rfl) ?_
          refine va_get (D := (dC, dI)) (ci := 2) (v := .ref h_t_wayOn) (C := RX2) (T := TX2) (N := 10) hx hb hts (in1 tw_X2) hown hK hP 0 rfl rfl 0 (by decide) (hts _ (List.mem_cons_of_mem _ kw_52)) (fun _ h9 => h9) rfl dX2_leastFront_38 ?_
          refine lv_iload_n hx hb dX2_leastFront_41 rfl (lv_at hl 2 rfl) ?_
          refine lv_iload_n hx hb dX2_leastFront_42 rfl (lv_at hl 3 rfl) ?_
          refine lv_iload hx hb dX2_leastFront_43 (lv_at hl 8 rfl) ?_
          obtain ⟨r24, hg25, hf⟩ := bd1_some hf
          refine CM_callS (As := [.int p1, .int p2, .int x17]) (rest := [.ref h_t_wayOn, .int x22]) (wc := []) (w1 := []) (wr := [(h_t, .inr (2, fX2 h_t_wayOn h_t_lowest h_t_highest h_t_seenAt h_t_firstRow t_allSeen t_stride t_travel h_t_drawnFor t_drawnStride)), (h_t_wayOn, .inl (cI, 26880, .inl t_wayOn))]) (wo := [(h_t, .inr (2, fX2 h_t_wayOn h_t_lowest h_t_highest h_t_seenAt h_t_firstRow t_allSeen t_stride t_travel h_t_drawnFor t_drawnStride)), (h_t_wayOn, .inl (cI, 26880, .inl t_wayOn))]) (v := (some (.int r24))) ⟨hx, hb, hml, hown, hts⟩ (c_X2_wayAt l dC dI cI cZ te p1 p2 x17 r24 hg25) (va_cwS 3 hts (gS kw_533 kw_534 kw_95 kw_535) rfl rfl rfl (by decide +kernel) ⟨Nat.le_of_ble_eq_true rfl, Nat.le_of_ble_eq_true rfl⟩) (kS_env te) hK hP hD hS hA hE [] [0, 1] [0, 1] rfl rfl (by decide) (by decide) (by decide) (by decide) rfl rfl hl.1 rfl (Nat.le_of_ble_eq_true rfl) dX2_leastFront_45 ⟨Nat.zero_le _, Nat.zero_le _⟩ (fun H locs hP hD hS => ?_)
          show W p l e rmX2_leastFront s m args below meth c H locs 0 0 Q (F0 m 48 ls [.int r24, .ref h_t_wayOn, .int x22])
          obtain ⟨g26, hf⟩ := chk_some hf
          refine va_iald hx hb hK hP 1 0 rfl rfl (gin_in g26) dX2_leastFront_48 ?_
          refine lv_iadd hx hb dX2_leastFront_49 ?_
          obtain ⟨x27, e28, hf⟩ := nm_some hf
          refine lv_tope e28 ?_
          refine lv_istore (lv' := [(10, .int x27), (9, .int x22), (0, .ref h_t), (1, .int p1), (2, .int p2), (4, .int p4), (5, .int p5), (6, .int x15), (7, .int x16), (8, .int x17)]) hx hb dX2_leastFront_50 hl (by decide) rfl (fun ls hl => ?_)
          refine lv_iload hx hb dX2_leastFront_52 (lv_at hl 0 rfl) ?_
          refine lv_iload hx hb dX2_leastFront_54 (lv_at hl 8 rfl) ?_
          refine lv_icmp_ge (tgt := 67) hx hb dX2_leastFront_56 (by decide) (fun c29 => ?_) (fun c29 => ?_)
          · replace hf := ifp c29 hf
            refine lv_iinc (v := (x17 + (1 : Int32))) (lv' := [(8, .int (x17 + (1 : Int32))), (10, .int x27), (9, .int x22), (0, .ref h_t), (1, .int p1), (2, .int p2), (4, .int p4), (5, .int p5), (6, .int x15), (7, .int x16)]) hx hb dX2_leastFront_67 hl (k := 9) rfl rfl (by decide) rfl (fun ls hl => ?_)
            refine lv_goto (tgt := 10) hx hb dX2_leastFront_70 (by decide) ?_
            exact ih18 _ _ _ _ hf hX20 _ _ hP hD hS _ (lv_sub hl [3, 4, 5, 6, 7, 8, 9, 0] rfl)
          · replace hf := ifn c29 hf
            refine lv_iload hx hb dX2_leastFront_59 (lv_at hl 9 rfl) ?_
            refine lv_istore (lv' := [(6, .int x17), (10, .int x27), (9, .int x22), (0, .ref h_t), (1, .int p1), (2, .int p2), (4, .int p4), (5, .int p5), (7, .int x16), (8, .int x17)]) hx hb dX2_leastFront_61 hl (by decide) rfl (fun ls hl => ?_)
            refine lv_iload hx hb dX2_leastFront_63 (lv_at hl 1 rfl) ?_
            refine lv_istore (lv' := [(7, .int x27), (6, .int x17), (10, .int x27), (9, .int x22), (0, .ref h_t), (1, .int p1), (2, .int p2), (4, .int p4), (5, .int p5), (8, .int x17)]) hx hb dX2_leastFront_65 hl (by decide) rfl (fun ls hl => ?_)
            refine lv_iinc (v := (x17 + (1 : Int32))) (lv' := [(8, .int (x17 + (1 : Int32))), (7, .int x27), (6, .int x17), (10, .int x27), (9, .int x22), (0, .ref h_t), (1, .int p1), (2, .int p2), (4, .int p4), (5, .int p5)]) hx hb dX2_leastFront_67 hl (k := 9) rfl rfl (by decide) rfl (fun ls hl => ?_)
            refine lv_goto (tgt := 10) hx hb dX2_leastFront_70 (by decide) ?_
            exact ih18 _ _ _ _ hf hX20 _ _ hP hD hS _ (lv_sub hl [5, 6, 7, 8, 9, 2, 1, 0] rfl)
        clear hf
        have hf := hg
        refine lv_if_ne (tgt := 25) hx hb dX2_leastFront_18 (by decide) (fun c30 => ?_) (fun c30 => ?_)
        · replace hf := ifn c30 hf
          refine lv_iload hx hb dX2_leastFront_25 (lv_at hl 7 rfl) ?_
          refine lv_iload hx hb dX2_leastFront_27 (lv_at hl 4 rfl) ?_
          refine lv_isub hx hb dX2_leastFront_29 ?_
          refine va_mabs hx hb (hml.trans hl.1.symm) hown (hts _ (List.mem_cons_of_mem _ kw_530)) (hts _ (List.mem_cons_of_mem _ kw_531)) (hts _ (List.mem_cons_of_mem _ kw_5)) (hts _ (List.mem_cons_of_mem _ kw_532)) (Nat.le_of_ble_eq_true rfl) (Nat.le_of_ble_eq_true rfl) (Nat.zero_le _) (Nat.zero_le _) dX2_leastFront_30 ?_
          obtain rfl := inj1 hf
          exact J23 _ _ hP hD hS _ (lv_sub hl [0, 1, 2, 3, 4, 5, 6, 7] rfl)
        · replace hf := ifp c30 hf
          refine lv_iconst (v := (0 : Int32)) hx hb dX2_leastFront_21 (by decide) ?_
          refine lv_goto (tgt := 33) hx hb dX2_leastFront_22 (by decide) ?_
          obtain rfl := inj1 hf
          exact J23 _ _ hP hD hS _ (lv_sub hl [0, 1, 2, 3, 4, 5, 6, 7] rfl)
  obtain ⟨x14, hg, hf⟩ := bd1_some hf
  refine L31 FU _ _ _ _ hg ?_ _ _ hP hD hS _ (lv_sub hl [3, 4, 5, 7, 8, 2, 1, 0] rfl)
  · intro H locs hP hD hS ls hl
    refine lv_iload hx hb dX2_leastFront_73 (lv_at hl 0 rfl) ?_
    obtain rfl := inj1 hf
    subst hQ
    exact CM_iret hx hb hr rfl hlocks hAe hP hD hS dX2_leastFront_75
def rmX2_followFirstRow : Room := { frames := 2, cells := 0, slots := 0, locals := 52 }
abbrev wqX2_followFirstRow : List Cond := Cond.code yX2_followFirstRow cX2_followFirstRow 4 none :: tG
set_option maxHeartbeats 4000000 in
set_option maxRecDepth 100000 in
theorem c_X2_followFirstRow (l : Launch) (dC : Nat → ClassId) (dI : Nat → Nat → Nat) (cI cZ : ClassId) (te : Nat → Nat) (h_t : Nat) (h_t_wayOn : Nat) (h_t_lowest : Nat) (h_t_highest : Nat) (h_t_seenAt : Nat) (h_t_firstRow : Nat) (h_t_drawnFor : Nat) (t_allSeen : Int32) (t_stride : Int32) (t_travel : Int32) (t_drawnStride : Int32) (t_wayOn : Nat → Int32) (t_firstRow : Nat → Int32) (t_seenAt : Nat → Int32) (o0 : Int32) (o1 : Nat → Int32) (hf : f_X2_followFirstRow t_allSeen t_stride t_wayOn t_firstRow t_seenAt = some (o0, o1)) : CM l yX2_followFirstRow wqX2_followFirstRow rmX2_followFirstRow (kS te) dC dI cI cZ [.ref h_t] [(h_t, .inr (2, fX2 h_t_wayOn h_t_lowest h_t_highest h_t_seenAt h_t_firstRow t_allSeen t_stride t_travel h_t_drawnFor t_drawnStride)), (h_t_wayOn, .inl (cI, 26880, .inl t_wayOn)), (h_t_firstRow, .inl (cI, 40, .inl t_firstRow)), (h_t_seenAt, .inl (cI, 840, .inl t_seenAt))] [(h_t, .inr (2, fX2 h_t_wayOn h_t_lowest h_t_highest h_t_seenAt h_t_firstRow t_allSeen t_stride o0 h_t_drawnFor t_drawnStride)), (h_t_wayOn, .inl (cI, 26880, .inl t_wayOn)), (h_t_firstRow, .inl (cI, 40, .inl o1)), (h_t_seenAt, .inl (cI, 840, .inl t_seenAt))] none := by
  refine CM_of (cc := cX2_followFirstRow) (maxL := 4) (ret := none) (by decide +kernel) rfl (Nat.le_of_ble_eq_true rfl) ?_
  intro p e s m args below meth c A Q hx hb hr hml hown hts hlocks hA hK hP hD hS hE hQ hAe ls hl
  have hown : s.vm.findClass RX2 = some m.cls := hown
  have hl : lv_has ls 4 [(0, .ref h_t)] := hl
  unfold f_X2_followFirstRow at hf
  refine lv_iconst (v := (0 : Int32)) hx hb dX2_followFirstRow_0 (by decide) ?_
  refine lv_istore_n (lv' := [(1, .int (0 : Int32)), (0, .ref h_t)]) hx hb dX2_followFirstRow_1 rfl hl (by decide) rfl (fun ls hl => ?_)
  refine lv_aload_n hx hb dX2_followFirstRow_2 rfl (lv_at hl 1 rfl) ?_
  refine lv_iconst (v := (0 : Int32)) hx hb dX2_followFirstRow_3 (by decide) ?_
  refine lv_iload_n hx hb dX2_followFirstRow_4 rfl (lv_at hl 0 rfl) ?_
  refine lv_iconst (v := (0 : Int32)) hx hb dX2_followFirstRow_5 (by decide) ?_
  refine lv_bipush (v := (20 : Int32)) hx hb dX2_followFirstRow_6 (by decide) ?_
  refine lv_iconst (v := (0 : Int32)) hx hb dX2_followFirstRow_8 (by decide) ?_
  obtain ⟨r1, hg2, hf⟩ := bd1_some hf
  refine CM_callV (C := RX2) (As := [.int (0 : Int32), .int (0 : Int32), .int (0 : Int32), .int (20 : Int32), .int (0 : Int32)]) (rest := []) (wc := [(h_t, .inr (2, fX2 h_t_wayOn h_t_lowest h_t_highest h_t_seenAt h_t_firstRow t_allSeen t_stride t_travel h_t_drawnFor t_drawnStride)), (h_t_wayOn, .inl (cI, 26880, .inl t_wayOn))]) (w1 := [(h_t, .inr (2, fX2 h_t_wayOn h_t_lowest h_t_highest h_t_seenAt h_t_firstRow t_allSeen t_stride t_travel h_t_drawnFor t_drawnStride)), (h_t_wayOn, .inl (cI, 26880, .inl t_wayOn))]) (wr := [(h_t_firstRow, .inl (cI, 40, .inl t_firstRow)), (h_t_seenAt, .inl (cI, 840, .inl t_seenAt))]) (wo := [(h_t, .inr (2, fX2 h_t_wayOn h_t_lowest h_t_highest h_t_seenAt h_t_firstRow t_allSeen t_stride t_travel h_t_drawnFor t_drawnStride)), (h_t_wayOn, .inl (cI, 26880, .inl t_wayOn)), (h_t_firstRow, .inl (cI, 40, .inl t_firstRow)), (h_t_seenAt, .inl (cI, 840, .inl t_seenAt))]) (v := (some (.int r1))) ⟨hx, hb, hml, hown, hts⟩ (c_X2_leastFront l dC dI cI cZ te h_t h_t_wayOn h_t_lowest h_t_highest h_t_seenAt h_t_firstRow h_t_drawnFor t_allSeen t_stride t_travel t_drawnStride t_wayOn (0 : Int32) (0 : Int32) (0 : Int32) (20 : Int32) (0 : Int32) r1 hg2) (cwV 5 hts (gV kw_540 kw_541 kw_542 kw_95 kw_543) rfl rfl rfl (by decide +kernel) ⟨Nat.le_of_ble_eq_true rfl, Nat.le_of_ble_eq_true rfl⟩) (kS_env te) hK hP hD hS hA hE [0, 1] [2, 3] [2, 3, 0, 1] rfl rfl (by decide) (by decide) (by decide) (by decide) rfl 0 2 rfl rfl rfl rfl hl.1 rfl (Nat.le_of_ble_eq_true rfl) dX2_followFirstRow_9 ⟨Nat.zero_le _, Nat.zero_le _⟩ (fun H locs hP hD hS => ?_)
  show W p l e rmX2_followFirstRow s m args below meth c H locs 0 0 Q (F0 m 12 ls [.int r1])
  refine lv_istore_n (lv' := [(2, .int r1), (1, .int (0 : Int32)), (0, .ref h_t)]) hx hb dX2_followFirstRow_12 rfl hl (by decide) rfl (fun ls hl => ?_)
  refine lv_aload_n hx hb dX2_followFirstRow_13 rfl (lv_at hl 2 rfl) ?_
  refine lv_aload_n hx hb dX2_followFirstRow_14 rfl (lv_at hl 2 rfl) ?_
  refine va_get (D := (dC, dI)) (ci := 2) (v := .ref h_t_wayOn) (C := RX2) (T := TX2) (N := 10) hx hb hts (in1 tw_X2) hown hK hP 0 rfl rfl 0 (by decide) (hts _ (List.mem_cons_of_mem _ kw_52)) (fun _ h9 => h9) rfl dX2_followFirstRow_15 ?_
  refine lv_iconst (v := (0 : Int32)) hx hb dX2_followFirstRow_18 (by decide) ?_
  refine lv_iload_n hx hb dX2_followFirstRow_19 rfl (lv_at hl 1 rfl) ?_
  refine lv_iload_n hx hb dX2_followFirstRow_20 rfl (lv_at hl 0 rfl) ?_
  obtain ⟨r3, hg4, hf⟩ := bd1_some hf
  refine CM_callS (As := [.int (0 : Int32), .int (0 : Int32), .int r1]) (rest := [.ref h_t_wayOn, .ref h_t]) (wc := []) (w1 := []) (wr := [(h_t, .inr (2, fX2 h_t_wayOn h_t_lowest h_t_highest h_t_seenAt h_t_firstRow t_allSeen t_stride t_travel h_t_drawnFor t_drawnStride)), (h_t_wayOn, .inl (cI, 26880, .inl t_wayOn)), (h_t_firstRow, .inl (cI, 40, .inl t_firstRow)), (h_t_seenAt, .inl (cI, 840, .inl t_seenAt))]) (wo := [(h_t, .inr (2, fX2 h_t_wayOn h_t_lowest h_t_highest h_t_seenAt h_t_firstRow t_allSeen t_stride t_travel h_t_drawnFor t_drawnStride)), (h_t_wayOn, .inl (cI, 26880, .inl t_wayOn)), (h_t_firstRow, .inl (cI, 40, .inl t_firstRow)), (h_t_seenAt, .inl (cI, 840, .inl t_seenAt))]) (v := (some (.int r3))) ⟨hx, hb, hml, hown, hts⟩ (c_X2_wayAt l dC dI cI cZ te (0 : Int32) (0 : Int32) r1 r3 hg4) (va_cwS 3 hts (gS kw_533 kw_534 kw_95 kw_535) rfl rfl rfl (by decide +kernel) ⟨Nat.le_of_ble_eq_true rfl, Nat.le_of_ble_eq_true rfl⟩) (kS_env te) hK hP hD hS hA hE [] [0, 1, 2, 3] [0, 1, 2, 3] rfl rfl (by decide) (by decide) (by decide) (by decide) rfl rfl hl.1 rfl (Nat.le_of_ble_eq_true rfl) dX2_followFirstRow_21 ⟨Nat.zero_le _, Nat.zero_le _⟩ (fun H locs hP hD hS => ?_)
  show W p l e rmX2_followFirstRow s m args below meth c H locs 0 0 Q (F0 m 24 ls [.int r3, .ref h_t_wayOn, .ref h_t])
  obtain ⟨g5, hf⟩ := chk_some hf
  refine va_iald hx hb hK hP 1 0 rfl rfl (gin_in g5) dX2_followFirstRow_24 ?_
  obtain ⟨x6, e7, hf⟩ := nm_some hf
  refine lv_tope e7 ?_
  refine va_put (D := (dC, dI)) (ci := 2) (v := .int x6) (ty := tyX2 7) (C := RX2) (T := TX2) (N := 10) hx hb hts (in1 tw_X2) tyX2 tyX2_ok nmX2 hown hK hP hD hS 0 rfl rfl 7 (by decide) (hts _ (List.mem_cons_of_mem _ kw_519)) (fun _ h9 => h9) rfl (tyX2_ok 7 (by decide)) rfl rfl (Nat.le_of_ble_eq_true rfl) dX2_followFirstRow_25 (fun H locs hP hD hS => ?_)
  have hP : va_P (dC, dI) vwCl [(h_t, .inr (2, fX2 h_t_wayOn h_t_lowest h_t_highest h_t_seenAt h_t_firstRow t_allSeen t_stride x6 h_t_drawnFor t_drawnStride)), (h_t_wayOn, .inl (cI, 26880, .inl t_wayOn)), (h_t_firstRow, .inl (cI, 40, .inl t_firstRow)), (h_t_seenAt, .inl (cI, 840, .inl t_seenAt))] H := hP
  have hD : va_D A [(h_t, .inr (2, fX2 h_t_wayOn h_t_lowest h_t_highest h_t_seenAt h_t_firstRow t_allSeen t_stride x6 h_t_drawnFor t_drawnStride)), (h_t_wayOn, .inl (cI, 26880, .inl t_wayOn)), (h_t_firstRow, .inl (cI, 40, .inl t_firstRow)), (h_t_seenAt, .inl (cI, 840, .inl t_seenAt))] := hD
  refine lv_aload_n hx hb dX2_followFirstRow_28 rfl (lv_at hl 2 rfl) ?_
  refine va_get (D := (dC, dI)) (ci := 2) (v := .int x6) (C := RX2) (T := TX2) (N := 10) hx hb hts (in1 tw_X2) hown hK hP 0 rfl rfl 7 (by decide) (hts _ (List.mem_cons_of_mem _ kw_519)) (fun _ h9 => h9) rfl dX2_followFirstRow_29 ?_
  refine lv_ldc (v := (1000000 : Int32)) hx hb hown (hts _ (List.mem_cons_of_mem _ kw_528)) dX2_followFirstRow_32 ?_
  refine lv_icmp_lt (tgt := 43) hx hb dX2_followFirstRow_34 (by decide) (fun c8 => ?_) (fun c8 => ?_)
  · replace hf := ifp c8 hf
    refine lv_iconst (v := (0 : Int32)) hx hb dX2_followFirstRow_43 (by decide) ?_
    refine lv_istore_n (lv' := [(3, .int (0 : Int32)), (2, .int r1), (1, .int (0 : Int32)), (0, .ref h_t)]) hx hb dX2_followFirstRow_44 rfl hl (by decide) rfl (fun ls hl => ?_)
    have L45 : ∀ (fu31 : Nat) (y26 : Nat → Int32) (x27 : Int32) (x28 : Int32) (x29 : Int32) (y25 : Nat → Int32), f_X2_followFirstRow_L1 t_wayOn t_stride t_seenAt t_allSeen fu31 y26 x27 x28 x29 = some y25 → (∀ (H : Heap) (locs : List Loc), va_P (dC, dI) vwCl [(h_t, .inr (2, fX2 h_t_wayOn h_t_lowest h_t_highest h_t_seenAt h_t_firstRow t_allSeen t_stride x6 h_t_drawnFor t_drawnStride)), (h_t_wayOn, .inl (cI, 26880, .inl t_wayOn)), (h_t_firstRow, .inl (cI, 40, .inl y25)), (h_t_seenAt, .inl (cI, 840, .inl t_seenAt))] H → va_D A [(h_t, .inr (2, fX2 h_t_wayOn h_t_lowest h_t_highest h_t_seenAt h_t_firstRow t_allSeen t_stride x6 h_t_drawnFor t_drawnStride)), (h_t_wayOn, .inl (cI, 26880, .inl t_wayOn)), (h_t_firstRow, .inl (cI, 40, .inl y25)), (h_t_seenAt, .inl (cI, 840, .inl t_seenAt))] → va_S A s.heap H locs → ∀ ls : Array Slot, lv_has ls 4 [] → W p l e rmX2_followFirstRow s m args below meth c H locs 0 0 Q (F0 m 116 ls [])) → ∀ (H : Heap) (locs : List Loc), va_P (dC, dI) vwCl [(h_t, .inr (2, fX2 h_t_wayOn h_t_lowest h_t_highest h_t_seenAt h_t_firstRow t_allSeen t_stride x6 h_t_drawnFor t_drawnStride)), (h_t_wayOn, .inl (cI, 26880, .inl t_wayOn)), (h_t_firstRow, .inl (cI, 40, .inl y26)), (h_t_seenAt, .inl (cI, 840, .inl t_seenAt))] H → va_D A [(h_t, .inr (2, fX2 h_t_wayOn h_t_lowest h_t_highest h_t_seenAt h_t_firstRow t_allSeen t_stride x6 h_t_drawnFor t_drawnStride)), (h_t_wayOn, .inl (cI, 26880, .inl t_wayOn)), (h_t_firstRow, .inl (cI, 40, .inl y26)), (h_t_seenAt, .inl (cI, 840, .inl t_seenAt))] → va_S A s.heap H locs → ∀ ls : Array Slot, lv_has ls 4 [(0, .ref h_t), (1, .int x27), (2, .int x28), (3, .int x29)] → W p l e rmX2_followFirstRow s m args below meth c H locs 0 0 Q (F0 m 45 ls []) := by
      intro fu31
      induction fu31 with
      | zero =>
        intro y26 x27 x28 x29 y25 hf
        unfold f_X2_followFirstRow_L1 at hf
        exact none_ne hf
      | succ fu31 ih30 =>
        intro y26 x27 x28 x29 y25 hf hX32 H locs hP hD hS ls hl
        unfold f_X2_followFirstRow_L1 at hf
        refine lv_iload_n hx hb dX2_followFirstRow_45 rfl (lv_at hl 3 rfl) ?_
        refine lv_bipush (v := (40 : Int32)) hx hb dX2_followFirstRow_46 (by decide) ?_
        refine lv_icmp_ge (tgt := 116) hx hb dX2_followFirstRow_48 (by decide) (fun c33 => ?_) (fun c33 => ?_)
        · replace hf := ifp c33 hf
          obtain rfl := inj1 hf
          exact hX32 _ _ hP hD hS _ (lv_sub hl [] rfl)
        · replace hf := ifn c33 hf
          refine lv_iload_n hx hb dX2_followFirstRow_51 rfl (lv_at hl 3 rfl) ?_
          obtain ⟨x34, hg, hf⟩ := bd1_some hf
          have J35 : ∀ (H : Heap) (locs : List Loc), va_P (dC, dI) vwCl [(h_t, .inr (2, fX2 h_t_wayOn h_t_lowest h_t_highest h_t_seenAt h_t_firstRow t_allSeen t_stride x6 h_t_drawnFor t_drawnStride)), (h_t_wayOn, .inl (cI, 26880, .inl t_wayOn)), (h_t_firstRow, .inl (cI, 40, .inl y26)), (h_t_seenAt, .inl (cI, 840, .inl t_seenAt))] H → va_D A [(h_t, .inr (2, fX2 h_t_wayOn h_t_lowest h_t_highest h_t_seenAt h_t_firstRow t_allSeen t_stride x6 h_t_drawnFor t_drawnStride)), (h_t_wayOn, .inl (cI, 26880, .inl t_wayOn)), (h_t_firstRow, .inl (cI, 40, .inl y26)), (h_t_seenAt, .inl (cI, 840, .inl t_seenAt))] → va_S A s.heap H locs → ∀ ls : Array Slot, lv_has ls 4 [(0, .ref h_t), (1, .int x27), (2, .int x34), (3, .int x29)] → W p l e rmX2_followFirstRow s m args below meth c H locs 0 0 Q (F0 m 84 ls []) := by
            intro H locs hP hD hS ls hl
            refine lv_aload_n hx hb dX2_followFirstRow_84 rfl (lv_at hl 0 rfl) ?_
            refine va_get (D := (dC, dI)) (ci := 2) (v := .ref h_t_firstRow) (C := RX2) (T := TX2) (N := 10) hx hb hts (in1 tw_X2) hown hK hP 0 rfl rfl 4 (by decide) (hts _ (List.mem_cons_of_mem _ kw_56)) (fun _ h9 => h9) rfl dX2_followFirstRow_85 ?_
            refine lv_iload_n hx hb dX2_followFirstRow_88 rfl (lv_at hl 3 rfl) ?_
            refine lv_iload_n hx hb dX2_followFirstRow_89 rfl (lv_at hl 2 rfl) ?_
            obtain ⟨g36, hf⟩ := chk_some hf
            obtain ⟨y37, e38, hf⟩ := nm_some hf
            refine va_iast hx hb hK hP hD hS 2 0 rfl rfl (gin_in g36) dX2_followFirstRow_90 (fun H locs hP hD hS => ?_)
            have hP : va_P (dC, dI) vwCl [(h_t, .inr (2, fX2 h_t_wayOn h_t_lowest h_t_highest h_t_seenAt h_t_firstRow t_allSeen t_stride x6 h_t_drawnFor t_drawnStride)), (h_t_wayOn, .inl (cI, 26880, .inl t_wayOn)), (h_t_firstRow, .inl (cI, 40, .inl y37)), (h_t_seenAt, .inl (cI, 840, .inl t_seenAt))] H := by rw [e38]; exact hP
            have hD : va_D A [(h_t, .inr (2, fX2 h_t_wayOn h_t_lowest h_t_highest h_t_seenAt h_t_firstRow t_allSeen t_stride x6 h_t_drawnFor t_drawnStride)), (h_t_wayOn, .inl (cI, 26880, .inl t_wayOn)), (h_t_firstRow, .inl (cI, 40, .inl y37)), (h_t_seenAt, .inl (cI, 840, .inl t_seenAt))] := by rw [e38]; exact hD
            refine lv_iload_n hx hb dX2_followFirstRow_91 rfl (lv_at hl 1 rfl) ?_
            refine lv_aload_n hx hb dX2_followFirstRow_92 rfl (lv_at hl 0 rfl) ?_
            refine va_get (D := (dC, dI)) (ci := 2) (v := .ref h_t_seenAt) (C := RX2) (T := TX2) (N := 10) hx hb hts (in1 tw_X2) hown hK hP 0 rfl rfl 3 (by decide) (hts _ (List.mem_cons_of_mem _ kw_55)) (fun _ h9 => h9) rfl dX2_followFirstRow_93 ?_
            refine lv_bipush (v := (21 : Int32)) hx hb dX2_followFirstRow_96 (by decide) ?_
            refine lv_iload_n hx hb dX2_followFirstRow_98 rfl (lv_at hl 3 rfl) ?_
            refine lv_imul hx hb dX2_followFirstRow_99 ?_
            refine lv_iload_n hx hb dX2_followFirstRow_100 rfl (lv_at hl 2 rfl) ?_
            refine lv_iadd hx hb dX2_followFirstRow_101 ?_
            obtain ⟨g39, hf⟩ := chk_some hf
            refine va_iald hx hb hK hP 3 0 rfl rfl (gin_in g39) dX2_followFirstRow_102 ?_
            refine lv_ior hx hb dX2_followFirstRow_103 ?_
            refine lv_aload_n hx hb dX2_followFirstRow_104 rfl (lv_at hl 0 rfl) ?_
            refine va_get (D := (dC, dI)) (ci := 2) (v := .int t_allSeen) (C := RX2) (T := TX2) (N := 10) hx hb hts (in1 tw_X2) hown hK hP 0 rfl rfl 5 (by decide) (hts _ (List.mem_cons_of_mem _ kw_527)) (fun _ h9 => h9) rfl dX2_followFirstRow_105 ?_
            refine lv_iand hx hb dX2_followFirstRow_108 ?_
            obtain ⟨x40, e41, hf⟩ := nm_some hf
            refine lv_tope e41 ?_
            refine lv_istore_n (lv' := [(1, .int x40), (0, .ref h_t), (2, .int x34), (3, .int x29)]) hx hb dX2_followFirstRow_109 rfl hl (by decide) rfl (fun ls hl => ?_)
            refine lv_iinc (v := (x29 + (1 : Int32))) (lv' := [(3, .int (x29 + (1 : Int32))), (1, .int x40), (0, .ref h_t), (2, .int x34)]) hx hb dX2_followFirstRow_110 hl (k := 3) rfl rfl (by decide) rfl (fun ls hl => ?_)
            refine lv_goto (tgt := 45) hx hb dX2_followFirstRow_113 (by decide) ?_
            exact ih30 _ _ _ _ _ hf hX32 _ _ hP hD hS _ (lv_sub hl [2, 1, 3, 0] rfl)
          clear hf
          have hf := hg
          refine lv_if_le (tgt := 84) hx hb dX2_followFirstRow_52 (by decide) (fun c42 => ?_) (fun c42 => ?_)
          · replace hf := ifp c42 hf
            obtain rfl := inj1 hf
            exact J35 _ _ hP hD hS _ (lv_sub hl [0, 1, 2, 3] rfl)
          · replace hf := ifn c42 hf
            refine lv_aload_n hx hb dX2_followFirstRow_55 rfl (lv_at hl 0 rfl) ?_
            refine lv_iload_n hx hb dX2_followFirstRow_56 rfl (lv_at hl 3 rfl) ?_
            refine lv_iload_n hx hb dX2_followFirstRow_57 rfl (lv_at hl 1 rfl) ?_
            refine lv_iconst (v := (0 : Int32)) hx hb dX2_followFirstRow_58 (by decide) ?_
            refine lv_iload_n hx hb dX2_followFirstRow_59 rfl (lv_at hl 2 rfl) ?_
            refine lv_aload_n hx hb dX2_followFirstRow_60 rfl (lv_at hl 0 rfl) ?_
            refine va_get (D := (dC, dI)) (ci := 2) (v := .int t_stride) (C := RX2) (T := TX2) (N := 10) hx hb hts (in1 tw_X2) hown hK hP 0 rfl rfl 6 (by decide) (hts _ (List.mem_cons_of_mem _ kw_529)) (fun _ h9 => h9) rfl dX2_followFirstRow_61 ?_
            refine lv_isub hx hb dX2_followFirstRow_64 ?_
            refine va_mmax hx hb (hml.trans hl.1.symm) hown (hts _ (List.mem_cons_of_mem _ kw_521)) (hts _ (List.mem_cons_of_mem _ kw_8)) (hts _ (List.mem_cons_of_mem _ kw_5)) (hts _ (List.mem_cons_of_mem _ kw_9)) (Nat.le_of_ble_eq_true rfl) (Nat.le_of_ble_eq_true rfl) (Nat.zero_le _) (Nat.zero_le _) dX2_followFirstRow_65 ?_
            refine lv_bipush (v := (20 : Int32)) hx hb dX2_followFirstRow_68 (by decide) ?_
            refine lv_iload_n hx hb dX2_followFirstRow_70 rfl (lv_at hl 2 rfl) ?_
            refine lv_aload_n hx hb dX2_followFirstRow_71 rfl (lv_at hl 0 rfl) ?_
            refine va_get (D := (dC, dI)) (ci := 2) (v := .int t_stride) (C := RX2) (T := TX2) (N := 10) hx hb hts (in1 tw_X2) hown hK hP 0 rfl rfl 6 (by decide) (hts _ (List.mem_cons_of_mem _ kw_529)) (fun _ h9 => h9) rfl dX2_followFirstRow_72 ?_
            refine lv_iadd hx hb dX2_followFirstRow_75 ?_
            refine va_mmin hx hb (hml.trans hl.1.symm) hown (hts _ (List.mem_cons_of_mem _ kw_520)) (hts _ (List.mem_cons_of_mem _ kw_4)) (hts _ (List.mem_cons_of_mem _ kw_5)) (hts _ (List.mem_cons_of_mem _ kw_6)) (Nat.le_of_ble_eq_true rfl) (Nat.le_of_ble_eq_true rfl) (Nat.zero_le _) (Nat.zero_le _) dX2_followFirstRow_76 ?_
            refine lv_iload_n hx hb dX2_followFirstRow_79 rfl (lv_at hl 2 rfl) ?_
            obtain ⟨r43, hg44, hf⟩ := bd1_some hf
            refine CM_callV (C := RX2) (As := [.int x29, .int x27, .int (if (0 : Int32) < (x28 - t_stride) then (x28 - t_stride) else (0 : Int32)), .int (if (x28 + t_stride) < (20 : Int32) then (x28 + t_stride) else (20 : Int32)), .int x28]) (rest := []) (wc := [(h_t, .inr (2, fX2 h_t_wayOn h_t_lowest h_t_highest h_t_seenAt h_t_firstRow t_allSeen t_stride x6 h_t_drawnFor t_drawnStride)), (h_t_wayOn, .inl (cI, 26880, .inl t_wayOn))]) (w1 := [(h_t, .inr (2, fX2 h_t_wayOn h_t_lowest h_t_highest h_t_seenAt h_t_firstRow t_allSeen t_stride x6 h_t_drawnFor t_drawnStride)), (h_t_wayOn, .inl (cI, 26880, .inl t_wayOn))]) (wr := [(h_t_firstRow, .inl (cI, 40, .inl y26)), (h_t_seenAt, .inl (cI, 840, .inl t_seenAt))]) (wo := [(h_t, .inr (2, fX2 h_t_wayOn h_t_lowest h_t_highest h_t_seenAt h_t_firstRow t_allSeen t_stride x6 h_t_drawnFor t_drawnStride)), (h_t_wayOn, .inl (cI, 26880, .inl t_wayOn)), (h_t_firstRow, .inl (cI, 40, .inl y26)), (h_t_seenAt, .inl (cI, 840, .inl t_seenAt))]) (v := (some (.int r43))) ⟨hx, hb, hml, hown, hts⟩ (c_X2_leastFront l dC dI cI cZ te h_t h_t_wayOn h_t_lowest h_t_highest h_t_seenAt h_t_firstRow h_t_drawnFor t_allSeen t_stride x6 t_drawnStride t_wayOn x29 x27 (if (0 : Int32) < (x28 - t_stride) then (x28 - t_stride) else (0 : Int32)) (if (x28 + t_stride) < (20 : Int32) then (x28 + t_stride) else (20 : Int32)) x28 r43 hg44) (cwV 5 hts (gV kw_540 kw_541 kw_542 kw_95 kw_543) rfl rfl rfl (by decide +kernel) ⟨Nat.le_of_ble_eq_true rfl, Nat.le_of_ble_eq_true rfl⟩) (kS_env te) hK hP hD hS hA hE [0, 1] [2, 3] [2, 3, 0, 1] rfl rfl (by decide) (by decide) (by decide) (by decide) rfl 0 2 rfl rfl rfl rfl hl.1 rfl (Nat.le_of_ble_eq_true rfl) dX2_followFirstRow_80 ⟨Nat.zero_le _, Nat.zero_le _⟩ (fun H locs hP hD hS => ?_)
            show W p l e rmX2_followFirstRow s m args below meth c H locs 0 0 Q (F0 m 83 ls [.int r43])
            refine lv_istore_n (lv' := [(2, .int r43), (0, .ref h_t), (1, .int x27), (3, .int x29)]) hx hb dX2_followFirstRow_83 rfl hl (by decide) rfl (fun ls hl => ?_)
            obtain rfl := inj1 hf
            exact J35 _ _ hP hD hS _ (lv_sub hl [1, 2, 0, 3] rfl)
    obtain ⟨y25, hg, hf⟩ := bd1_some hf
    refine L45 FU _ _ _ _ _ hg ?_ _ _ hP hD hS _ (lv_sub hl [3, 2, 1, 0] rfl)
    · intro H locs hP hD hS ls hl
      obtain ⟨rfl, rfl⟩ := inj2 hf
      subst hQ
      exact CM_vret hx hb hr hlocks hAe hP hD hS dX2_followFirstRow_116
  · replace hf := ifn c8 hf
    refine lv_aload_n hx hb dX2_followFirstRow_37 rfl (lv_at hl 2 rfl) ?_
    refine lv_iconst (v := (-1 : Int32)) hx hb dX2_followFirstRow_38 (by decide) ?_
    refine va_put (D := (dC, dI)) (ci := 2) (v := .int (-1 : Int32)) (ty := tyX2 7) (C := RX2) (T := TX2) (N := 10) hx hb hts (in1 tw_X2) tyX2 tyX2_ok nmX2 hown hK hP hD hS 0 rfl rfl 7 (by decide) (hts _ (List.mem_cons_of_mem _ kw_519)) (fun _ h9 => h9) rfl (tyX2_ok 7 (by decide)) rfl rfl (Nat.le_of_ble_eq_true rfl) dX2_followFirstRow_39 (fun H locs hP hD hS => ?_)
    have hP : va_P (dC, dI) vwCl [(h_t, .inr (2, fX2 h_t_wayOn h_t_lowest h_t_highest h_t_seenAt h_t_firstRow t_allSeen t_stride (-1 : Int32) h_t_drawnFor t_drawnStride)), (h_t_wayOn, .inl (cI, 26880, .inl t_wayOn)), (h_t_firstRow, .inl (cI, 40, .inl t_firstRow)), (h_t_seenAt, .inl (cI, 840, .inl t_seenAt))] H := hP
    have hD : va_D A [(h_t, .inr (2, fX2 h_t_wayOn h_t_lowest h_t_highest h_t_seenAt h_t_firstRow t_allSeen t_stride (-1 : Int32) h_t_drawnFor t_drawnStride)), (h_t_wayOn, .inl (cI, 26880, .inl t_wayOn)), (h_t_firstRow, .inl (cI, 40, .inl t_firstRow)), (h_t_seenAt, .inl (cI, 840, .inl t_seenAt))] := hD
    obtain ⟨rfl, rfl⟩ := inj2 hf
    subst hQ
    exact CM_vret hx hb hr hlocks hAe hP hD hS dX2_followFirstRow_42
def rmX2_draw : Room := { frames := 4, cells := 0, slots := 0, locals := 93 }
abbrev wqX2_draw : List Cond := Cond.code yX2_draw cX2_draw 3 none :: tG
set_option maxHeartbeats 4000000 in
set_option maxRecDepth 100000 in
theorem c_X2_draw (l : Launch) (dC : Nat → ClassId) (dI : Nat → Nat → Nat) (cI cZ : ClassId) (te : Nat → Nat) (h_t : Nat) (h_p1 : Nat) (h_p1_surfaces : Nat) (h_p1_cliffs : Nat) (h_p1_boulders : Nat) (h_p1_scratches : Nat) (h_p1_numbers : Nat) (h_p1_facts : Nat) (h_p1_signs : Nat) (h_p1_areas : Nat) (h_p1_heights : Nat) (h_t_wayOn : Nat) (h_t_lowest : Nat) (h_t_highest : Nat) (h_t_seenAt : Nat) (h_t_firstRow : Nat) (h_t_drawnFor : Nat) (h_p1_signs_cells : Nat) (h_t_drawnFor_cells : Nat) (p1_ridges : Int32) (p1_numbers : Nat → Int32) (t_allSeen : Int32) (t_stride : Int32) (t_travel : Int32) (t_drawnStride : Int32) (t_lowest : Nat → Int32) (t_highest : Nat → Int32) (t_seenAt : Nat → Int32) (p1_signs_limit : Int32) (p1_signs_size : Int32) (n_p1_signs_cells : Nat) (p1_signs_cells : Nat → Int32) (t_wayOn : Nat → Int32) (t_firstRow : Nat → Int32) (t_drawnFor_limit : Int32) (t_drawnFor_size : Int32) (n_t_drawnFor_cells : Nat) (t_drawnFor_cells : Nat → Int32) (o0 : Int32) (o1 : Int32) (o2 : Int32) (o3 : Int32) (o4 : Nat → Int32) (o5 : Nat → Int32) (o6 : Nat → Int32) (o7 : Nat → Int32) (o8 : Nat → Int32) (o9 : Int32) (o10 : Nat → Int32) (hf : f_X2_draw p1_numbers t_allSeen t_travel t_drawnStride t_lowest t_highest t_seenAt p1_signs_size n_p1_signs_cells p1_signs_cells t_wayOn t_firstRow t_drawnFor_limit t_drawnFor_size n_t_drawnFor_cells t_drawnFor_cells = some (o0, o1, o2, o3, o4, o5, o6, o7, o8, o9, o10)) : CM l yX2_draw wqX2_draw rmX2_draw (kS te) dC dI cI cZ [.ref h_t, .ref h_p1] [(h_p1, .inr (1, fX1 h_p1_surfaces h_p1_cliffs h_p1_boulders h_p1_scratches h_p1_numbers h_p1_facts h_p1_signs h_p1_areas h_p1_heights p1_ridges)), (h_p1_numbers, .inl (cI, 6, .inl p1_numbers)), (h_t, .inr (2, fX2 h_t_wayOn h_t_lowest h_t_highest h_t_seenAt h_t_firstRow t_allSeen t_stride t_travel h_t_drawnFor t_drawnStride)), (h_t_lowest, .inl (cI, 40, .inl t_lowest)), (h_t_highest, .inl (cI, 40, .inl t_highest)), (h_t_seenAt, .inl (cI, 840, .inl t_seenAt)), (h_p1_signs, .inr (4, fX4 p1_signs_limit h_p1_signs_cells p1_signs_size)), (h_p1_signs_cells, .inl (cI, n_p1_signs_cells, .inl p1_signs_cells)), (h_t_wayOn, .inl (cI, 26880, .inl t_wayOn)), (h_t_firstRow, .inl (cI, 40, .inl t_firstRow)), (h_t_drawnFor, .inr (4, fX4 t_drawnFor_limit h_t_drawnFor_cells t_drawnFor_size)), (h_t_drawnFor_cells, .inl (cI, n_t_drawnFor_cells, .inl t_drawnFor_cells))] [(h_p1, .inr (1, fX1 h_p1_surfaces h_p1_cliffs h_p1_boulders h_p1_scratches h_p1_numbers h_p1_facts h_p1_signs h_p1_areas h_p1_heights p1_ridges)), (h_p1_numbers, .inl (cI, 6, .inl p1_numbers)), (h_t, .inr (2, fX2 h_t_wayOn h_t_lowest h_t_highest h_t_seenAt h_t_firstRow o0 o1 o2 h_t_drawnFor o3)), (h_t_lowest, .inl (cI, 40, .inl o4)), (h_t_highest, .inl (cI, 40, .inl o5)), (h_t_seenAt, .inl (cI, 840, .inl o6)), (h_p1_signs, .inr (4, fX4 p1_signs_limit h_p1_signs_cells p1_signs_size)), (h_p1_signs_cells, .inl (cI, n_p1_signs_cells, .inl p1_signs_cells)), (h_t_wayOn, .inl (cI, 26880, .inl o7)), (h_t_firstRow, .inl (cI, 40, .inl o8)), (h_t_drawnFor, .inr (4, fX4 t_drawnFor_limit h_t_drawnFor_cells o9)), (h_t_drawnFor_cells, .inl (cI, n_t_drawnFor_cells, .inl o10))] none := by
  refine CM_of (cc := cX2_draw) (maxL := 3) (ret := none) (by decide +kernel) rfl (Nat.le_of_ble_eq_true rfl) ?_
  intro p e s m args below meth c A Q hx hb hr hml hown hts hlocks hA hK hP hD hS hE hQ hAe ls hl
  have hown : s.vm.findClass RX2 = some m.cls := hown
  have hl : lv_has ls 3 [(0, .ref h_t), (1, .ref h_p1)] := hl
  unfold f_X2_draw at hf
  refine lv_aload_n hx hb dX2_draw_0 rfl (lv_at hl 0 rfl) ?_
  refine lv_aload_n hx hb dX2_draw_1 rfl (lv_at hl 1 rfl) ?_
  refine va_get (D := (dC, dI)) (ci := 1) (v := .ref h_p1_numbers) (C := RX1) (T := TX1) (N := 10) hx hb hts (in1 tw_X1) hown hK hP 0 rfl rfl 4 (by decide) (hts _ (List.mem_cons_of_mem _ kw_544)) (fun _ h9 => h9) rfl dX2_draw_2 ?_
  refine lv_iconst (v := (1 : Int32)) hx hb dX2_draw_5 (by decide) ?_
  obtain ⟨g1, hf⟩ := chk_some hf
  refine va_iald hx hb hK hP 1 0 rfl rfl (gin_in g1) dX2_draw_6 ?_
  obtain ⟨x2, e3, hf⟩ := nm_some hf
  refine lv_tope e3 ?_
  refine va_put (D := (dC, dI)) (ci := 2) (v := .int x2) (ty := tyX2 6) (C := RX2) (T := TX2) (N := 10) hx hb hts (in1 tw_X2) tyX2 tyX2_ok nmX2 hown hK hP hD hS 2 rfl rfl 6 (by decide) (hts _ (List.mem_cons_of_mem _ kw_529)) (fun _ h9 => h9) rfl (tyX2_ok 6 (by decide)) rfl rfl (Nat.le_of_ble_eq_true rfl) dX2_draw_7 (fun H locs hP hD hS => ?_)
  have hP : va_P (dC, dI) vwCl [(h_p1, .inr (1, fX1 h_p1_surfaces h_p1_cliffs h_p1_boulders h_p1_scratches h_p1_numbers h_p1_facts h_p1_signs h_p1_areas h_p1_heights p1_ridges)), (h_p1_numbers, .inl (cI, 6, .inl p1_numbers)), (h_t, .inr (2, fX2 h_t_wayOn h_t_lowest h_t_highest h_t_seenAt h_t_firstRow t_allSeen x2 t_travel h_t_drawnFor t_drawnStride)), (h_t_lowest, .inl (cI, 40, .inl t_lowest)), (h_t_highest, .inl (cI, 40, .inl t_highest)), (h_t_seenAt, .inl (cI, 840, .inl t_seenAt)), (h_p1_signs, .inr (4, fX4 p1_signs_limit h_p1_signs_cells p1_signs_size)), (h_p1_signs_cells, .inl (cI, n_p1_signs_cells, .inl p1_signs_cells)), (h_t_wayOn, .inl (cI, 26880, .inl t_wayOn)), (h_t_firstRow, .inl (cI, 40, .inl t_firstRow)), (h_t_drawnFor, .inr (4, fX4 t_drawnFor_limit h_t_drawnFor_cells t_drawnFor_size)), (h_t_drawnFor_cells, .inl (cI, n_t_drawnFor_cells, .inl t_drawnFor_cells))] H := hP
  have hD : va_D A [(h_p1, .inr (1, fX1 h_p1_surfaces h_p1_cliffs h_p1_boulders h_p1_scratches h_p1_numbers h_p1_facts h_p1_signs h_p1_areas h_p1_heights p1_ridges)), (h_p1_numbers, .inl (cI, 6, .inl p1_numbers)), (h_t, .inr (2, fX2 h_t_wayOn h_t_lowest h_t_highest h_t_seenAt h_t_firstRow t_allSeen x2 t_travel h_t_drawnFor t_drawnStride)), (h_t_lowest, .inl (cI, 40, .inl t_lowest)), (h_t_highest, .inl (cI, 40, .inl t_highest)), (h_t_seenAt, .inl (cI, 840, .inl t_seenAt)), (h_p1_signs, .inr (4, fX4 p1_signs_limit h_p1_signs_cells p1_signs_size)), (h_p1_signs_cells, .inl (cI, n_p1_signs_cells, .inl p1_signs_cells)), (h_t_wayOn, .inl (cI, 26880, .inl t_wayOn)), (h_t_firstRow, .inl (cI, 40, .inl t_firstRow)), (h_t_drawnFor, .inr (4, fX4 t_drawnFor_limit h_t_drawnFor_cells t_drawnFor_size)), (h_t_drawnFor_cells, .inl (cI, n_t_drawnFor_cells, .inl t_drawnFor_cells))] := hD
  refine lv_aload_n hx hb dX2_draw_10 rfl (lv_at hl 0 rfl) ?_
  refine va_get (D := (dC, dI)) (ci := 2) (v := .int x2) (C := RX2) (T := TX2) (N := 10) hx hb hts (in1 tw_X2) hown hK hP 2 rfl rfl 6 (by decide) (hts _ (List.mem_cons_of_mem _ kw_529)) (fun _ h9 => h9) rfl dX2_draw_11 ?_
  refine lv_aload_n hx hb dX2_draw_14 rfl (lv_at hl 0 rfl) ?_
  refine va_get (D := (dC, dI)) (ci := 2) (v := .int t_drawnStride) (C := RX2) (T := TX2) (N := 10) hx hb hts (in1 tw_X2) hown hK hP 2 rfl rfl 9 (by decide) (hts _ (List.mem_cons_of_mem _ kw_545)) (fun _ h9 => h9) rfl dX2_draw_15 ?_
  refine lv_icmp_ne (tgt := 36) hx hb dX2_draw_18 (by decide) (fun c4 => ?_) (fun c4 => ?_)
  · replace hf := ifn c4 hf
    refine lv_aload_n hx hb dX2_draw_36 rfl (lv_at hl 0 rfl) ?_
    refine lv_aload_n hx hb dX2_draw_37 rfl (lv_at hl 1 rfl) ?_
    refine va_get (D := (dC, dI)) (ci := 1) (v := .ref h_p1_signs) (C := RX1) (T := TX1) (N := 10) hx hb hts (in1 tw_X1) hown hK hP 0 rfl rfl 6 (by decide) (hts _ (List.mem_cons_of_mem _ kw_516)) (fun _ h9 => h9) rfl dX2_draw_38 ?_
    obtain ⟨x5, y6, y7, y8, hg9, hf⟩ := bd4_some hf
    refine CM_callV (C := RX2) (As := [.ref h_p1_signs]) (rest := []) (wc := [(h_t, .inr (2, fX2 h_t_wayOn h_t_lowest h_t_highest h_t_seenAt h_t_firstRow t_allSeen x2 t_travel h_t_drawnFor t_drawnStride)), (h_t_lowest, .inl (cI, 40, .inl t_lowest)), (h_t_highest, .inl (cI, 40, .inl t_highest)), (h_t_seenAt, .inl (cI, 840, .inl t_seenAt)), (h_p1_signs, .inr (4, fX4 p1_signs_limit h_p1_signs_cells p1_signs_size)), (h_p1_signs_cells, .inl (cI, n_p1_signs_cells, .inl p1_signs_cells))]) (w1 := [(h_t, .inr (2, fX2 h_t_wayOn h_t_lowest h_t_highest h_t_seenAt h_t_firstRow x5 x2 t_travel h_t_drawnFor t_drawnStride)), (h_t_lowest, .inl (cI, 40, .inl y6)), (h_t_highest, .inl (cI, 40, .inl y7)), (h_t_seenAt, .inl (cI, 840, .inl y8)), (h_p1_signs, .inr (4, fX4 p1_signs_limit h_p1_signs_cells p1_signs_size)), (h_p1_signs_cells, .inl (cI, n_p1_signs_cells, .inl p1_signs_cells))]) (wr := [(h_p1, .inr (1, fX1 h_p1_surfaces h_p1_cliffs h_p1_boulders h_p1_scratches h_p1_numbers h_p1_facts h_p1_signs h_p1_areas h_p1_heights p1_ridges)), (h_p1_numbers, .inl (cI, 6, .inl p1_numbers)), (h_t_wayOn, .inl (cI, 26880, .inl t_wayOn)), (h_t_firstRow, .inl (cI, 40, .inl t_firstRow)), (h_t_drawnFor, .inr (4, fX4 t_drawnFor_limit h_t_drawnFor_cells t_drawnFor_size)), (h_t_drawnFor_cells, .inl (cI, n_t_drawnFor_cells, .inl t_drawnFor_cells))]) (wo := [(h_p1, .inr (1, fX1 h_p1_surfaces h_p1_cliffs h_p1_boulders h_p1_scratches h_p1_numbers h_p1_facts h_p1_signs h_p1_areas h_p1_heights p1_ridges)), (h_p1_numbers, .inl (cI, 6, .inl p1_numbers)), (h_t, .inr (2, fX2 h_t_wayOn h_t_lowest h_t_highest h_t_seenAt h_t_firstRow x5 x2 t_travel h_t_drawnFor t_drawnStride)), (h_t_lowest, .inl (cI, 40, .inl y6)), (h_t_highest, .inl (cI, 40, .inl y7)), (h_t_seenAt, .inl (cI, 840, .inl y8)), (h_p1_signs, .inr (4, fX4 p1_signs_limit h_p1_signs_cells p1_signs_size)), (h_p1_signs_cells, .inl (cI, n_p1_signs_cells, .inl p1_signs_cells)), (h_t_wayOn, .inl (cI, 26880, .inl t_wayOn)), (h_t_firstRow, .inl (cI, 40, .inl t_firstRow)), (h_t_drawnFor, .inr (4, fX4 t_drawnFor_limit h_t_drawnFor_cells t_drawnFor_size)), (h_t_drawnFor_cells, .inl (cI, n_t_drawnFor_cells, .inl t_drawnFor_cells))]) (v := (none)) ⟨hx, hb, hml, hown, hts⟩ (c_X2_takeSigns l dC dI cI cZ te h_t h_p1_signs h_t_wayOn h_t_lowest h_t_highest h_t_seenAt h_t_firstRow h_t_drawnFor h_p1_signs_cells t_allSeen x2 t_travel t_drawnStride t_lowest t_highest t_seenAt p1_signs_limit p1_signs_size n_p1_signs_cells p1_signs_cells x5 y6 y7 y8 hg9) (cwV 1 hts (gV kw_546 kw_547 kw_548 kw_95 kw_549) rfl rfl rfl (by decide +kernel) ⟨Nat.le_of_ble_eq_true rfl, Nat.le_of_ble_eq_true rfl⟩) (kS_env te) hK hP hD hS hA hE [2, 3, 4, 5, 6, 7] [0, 1, 8, 9, 10, 11] [0, 1, 6, 7, 8, 9, 10, 11, 2, 3, 4, 5] rfl rfl (by decide) (by decide) (by decide) (by decide) rfl 2 2 rfl rfl rfl rfl hl.1 rfl (Nat.le_of_ble_eq_true rfl) dX2_draw_41 ⟨Nat.zero_le _, Nat.zero_le _⟩ (fun H locs hP hD hS => ?_)
    show W p l e rmX2_draw s m args below meth c H locs 0 0 Q (F0 m 44 ls [])
    refine lv_bipush (v := (39 : Int32)) hx hb dX2_draw_44 (by decide) ?_
    refine lv_istore_n (lv' := [(2, .int (39 : Int32)), (0, .ref h_t), (1, .ref h_p1)]) hx hb dX2_draw_46 rfl hl (by decide) rfl (fun ls hl => ?_)
    have L24 : ∀ (fu19 : Nat) (y16 : Nat → Int32) (x17 : Int32) (y15 : Nat → Int32), f_X2_draw_L1 x5 x2 y6 y7 y8 fu19 y16 x17 = some y15 → (∀ (H : Heap) (locs : List Loc), va_P (dC, dI) vwCl [(h_p1, .inr (1, fX1 h_p1_surfaces h_p1_cliffs h_p1_boulders h_p1_scratches h_p1_numbers h_p1_facts h_p1_signs h_p1_areas h_p1_heights p1_ridges)), (h_p1_numbers, .inl (cI, 6, .inl p1_numbers)), (h_t, .inr (2, fX2 h_t_wayOn h_t_lowest h_t_highest h_t_seenAt h_t_firstRow x5 x2 t_travel h_t_drawnFor t_drawnStride)), (h_t_lowest, .inl (cI, 40, .inl y6)), (h_t_highest, .inl (cI, 40, .inl y7)), (h_t_seenAt, .inl (cI, 840, .inl y8)), (h_p1_signs, .inr (4, fX4 p1_signs_limit h_p1_signs_cells p1_signs_size)), (h_p1_signs_cells, .inl (cI, n_p1_signs_cells, .inl p1_signs_cells)), (h_t_wayOn, .inl (cI, 26880, .inl y15)), (h_t_firstRow, .inl (cI, 40, .inl t_firstRow)), (h_t_drawnFor, .inr (4, fX4 t_drawnFor_limit h_t_drawnFor_cells t_drawnFor_size)), (h_t_drawnFor_cells, .inl (cI, n_t_drawnFor_cells, .inl t_drawnFor_cells))] H → va_D A [(h_p1, .inr (1, fX1 h_p1_surfaces h_p1_cliffs h_p1_boulders h_p1_scratches h_p1_numbers h_p1_facts h_p1_signs h_p1_areas h_p1_heights p1_ridges)), (h_p1_numbers, .inl (cI, 6, .inl p1_numbers)), (h_t, .inr (2, fX2 h_t_wayOn h_t_lowest h_t_highest h_t_seenAt h_t_firstRow x5 x2 t_travel h_t_drawnFor t_drawnStride)), (h_t_lowest, .inl (cI, 40, .inl y6)), (h_t_highest, .inl (cI, 40, .inl y7)), (h_t_seenAt, .inl (cI, 840, .inl y8)), (h_p1_signs, .inr (4, fX4 p1_signs_limit h_p1_signs_cells p1_signs_size)), (h_p1_signs_cells, .inl (cI, n_p1_signs_cells, .inl p1_signs_cells)), (h_t_wayOn, .inl (cI, 26880, .inl y15)), (h_t_firstRow, .inl (cI, 40, .inl t_firstRow)), (h_t_drawnFor, .inr (4, fX4 t_drawnFor_limit h_t_drawnFor_cells t_drawnFor_size)), (h_t_drawnFor_cells, .inl (cI, n_t_drawnFor_cells, .inl t_drawnFor_cells))] → va_S A s.heap H locs → ∀ ls : Array Slot, lv_has ls 3 [(0, .ref h_t), (1, .ref h_p1)] → W p l e rmX2_draw s m args below meth c H locs 0 0 Q (F0 m 62 ls [])) → ∀ (H : Heap) (locs : List Loc), va_P (dC, dI) vwCl [(h_p1, .inr (1, fX1 h_p1_surfaces h_p1_cliffs h_p1_boulders h_p1_scratches h_p1_numbers h_p1_facts h_p1_signs h_p1_areas h_p1_heights p1_ridges)), (h_p1_numbers, .inl (cI, 6, .inl p1_numbers)), (h_t, .inr (2, fX2 h_t_wayOn h_t_lowest h_t_highest h_t_seenAt h_t_firstRow x5 x2 t_travel h_t_drawnFor t_drawnStride)), (h_t_lowest, .inl (cI, 40, .inl y6)), (h_t_highest, .inl (cI, 40, .inl y7)), (h_t_seenAt, .inl (cI, 840, .inl y8)), (h_p1_signs, .inr (4, fX4 p1_signs_limit h_p1_signs_cells p1_signs_size)), (h_p1_signs_cells, .inl (cI, n_p1_signs_cells, .inl p1_signs_cells)), (h_t_wayOn, .inl (cI, 26880, .inl y16)), (h_t_firstRow, .inl (cI, 40, .inl t_firstRow)), (h_t_drawnFor, .inr (4, fX4 t_drawnFor_limit h_t_drawnFor_cells t_drawnFor_size)), (h_t_drawnFor_cells, .inl (cI, n_t_drawnFor_cells, .inl t_drawnFor_cells))] H → va_D A [(h_p1, .inr (1, fX1 h_p1_surfaces h_p1_cliffs h_p1_boulders h_p1_scratches h_p1_numbers h_p1_facts h_p1_signs h_p1_areas h_p1_heights p1_ridges)), (h_p1_numbers, .inl (cI, 6, .inl p1_numbers)), (h_t, .inr (2, fX2 h_t_wayOn h_t_lowest h_t_highest h_t_seenAt h_t_firstRow x5 x2 t_travel h_t_drawnFor t_drawnStride)), (h_t_lowest, .inl (cI, 40, .inl y6)), (h_t_highest, .inl (cI, 40, .inl y7)), (h_t_seenAt, .inl (cI, 840, .inl y8)), (h_p1_signs, .inr (4, fX4 p1_signs_limit h_p1_signs_cells p1_signs_size)), (h_p1_signs_cells, .inl (cI, n_p1_signs_cells, .inl p1_signs_cells)), (h_t_wayOn, .inl (cI, 26880, .inl y16)), (h_t_firstRow, .inl (cI, 40, .inl t_firstRow)), (h_t_drawnFor, .inr (4, fX4 t_drawnFor_limit h_t_drawnFor_cells t_drawnFor_size)), (h_t_drawnFor_cells, .inl (cI, n_t_drawnFor_cells, .inl t_drawnFor_cells))] → va_S A s.heap H locs → ∀ ls : Array Slot, lv_has ls 3 [(0, .ref h_t), (1, .ref h_p1), (2, .int x17)] → W p l e rmX2_draw s m args below meth c H locs 0 0 Q (F0 m 47 ls []) := by
      intro fu19
      induction fu19 with
      | zero =>
        intro y16 x17 y15 hf
        unfold f_X2_draw_L1 at hf
        exact none_ne hf
      | succ fu19 ih18 =>
        intro y16 x17 y15 hf hX20 H locs hP hD hS ls hl
        unfold f_X2_draw_L1 at hf
        refine lv_iload_n hx hb dX2_draw_47 rfl (lv_at hl 2 rfl) ?_
        refine lv_if_lt (tgt := 62) hx hb dX2_draw_48 (by decide) (fun c21 => ?_) (fun c21 => ?_)
        · replace hf := ifp c21 hf
          obtain rfl := inj1 hf
          exact hX20 _ _ hP hD hS _ (lv_sub hl [0, 1] rfl)
        · replace hf := ifn c21 hf
          refine lv_aload_n hx hb dX2_draw_51 rfl (lv_at hl 0 rfl) ?_
          refine lv_iload_n hx hb dX2_draw_52 rfl (lv_at hl 2 rfl) ?_
          obtain ⟨y22, hg23, hf⟩ := bd1_some hf
          refine CM_callV (C := RX2) (As := [.int x17]) (rest := []) (wc := [(h_t, .inr (2, fX2 h_t_wayOn h_t_lowest h_t_highest h_t_seenAt h_t_firstRow x5 x2 t_travel h_t_drawnFor t_drawnStride)), (h_t_lowest, .inl (cI, 40, .inl y6)), (h_t_highest, .inl (cI, 40, .inl y7)), (h_t_seenAt, .inl (cI, 840, .inl y8)), (h_t_wayOn, .inl (cI, 26880, .inl y16))]) (w1 := [(h_t, .inr (2, fX2 h_t_wayOn h_t_lowest h_t_highest h_t_seenAt h_t_firstRow x5 x2 t_travel h_t_drawnFor t_drawnStride)), (h_t_lowest, .inl (cI, 40, .inl y6)), (h_t_highest, .inl (cI, 40, .inl y7)), (h_t_seenAt, .inl (cI, 840, .inl y8)), (h_t_wayOn, .inl (cI, 26880, .inl y22))]) (wr := [(h_p1, .inr (1, fX1 h_p1_surfaces h_p1_cliffs h_p1_boulders h_p1_scratches h_p1_numbers h_p1_facts h_p1_signs h_p1_areas h_p1_heights p1_ridges)), (h_p1_numbers, .inl (cI, 6, .inl p1_numbers)), (h_p1_signs, .inr (4, fX4 p1_signs_limit h_p1_signs_cells p1_signs_size)), (h_p1_signs_cells, .inl (cI, n_p1_signs_cells, .inl p1_signs_cells)), (h_t_firstRow, .inl (cI, 40, .inl t_firstRow)), (h_t_drawnFor, .inr (4, fX4 t_drawnFor_limit h_t_drawnFor_cells t_drawnFor_size)), (h_t_drawnFor_cells, .inl (cI, n_t_drawnFor_cells, .inl t_drawnFor_cells))]) (wo := [(h_p1, .inr (1, fX1 h_p1_surfaces h_p1_cliffs h_p1_boulders h_p1_scratches h_p1_numbers h_p1_facts h_p1_signs h_p1_areas h_p1_heights p1_ridges)), (h_p1_numbers, .inl (cI, 6, .inl p1_numbers)), (h_t, .inr (2, fX2 h_t_wayOn h_t_lowest h_t_highest h_t_seenAt h_t_firstRow x5 x2 t_travel h_t_drawnFor t_drawnStride)), (h_t_lowest, .inl (cI, 40, .inl y6)), (h_t_highest, .inl (cI, 40, .inl y7)), (h_t_seenAt, .inl (cI, 840, .inl y8)), (h_p1_signs, .inr (4, fX4 p1_signs_limit h_p1_signs_cells p1_signs_size)), (h_p1_signs_cells, .inl (cI, n_p1_signs_cells, .inl p1_signs_cells)), (h_t_wayOn, .inl (cI, 26880, .inl y22)), (h_t_firstRow, .inl (cI, 40, .inl t_firstRow)), (h_t_drawnFor, .inr (4, fX4 t_drawnFor_limit h_t_drawnFor_cells t_drawnFor_size)), (h_t_drawnFor_cells, .inl (cI, n_t_drawnFor_cells, .inl t_drawnFor_cells))]) (v := (none)) ⟨hx, hb, hml, hown, hts⟩ (c_X2_findWaysFrom l dC dI cI cZ te h_t h_t_wayOn h_t_lowest h_t_highest h_t_seenAt h_t_firstRow h_t_drawnFor x5 x2 t_travel t_drawnStride y6 y7 y8 y16 x17 y22 hg23) (cwV 1 hts (gV kw_550 kw_551 kw_552 kw_95 kw_553) rfl rfl rfl (by decide +kernel) ⟨Nat.le_of_ble_eq_true rfl, Nat.le_of_ble_eq_true rfl⟩) (kS_env te) hK hP hD hS hA hE [2, 3, 4, 5, 8] [0, 1, 6, 7, 9, 10, 11] [0, 1, 7, 8, 9, 10, 2, 3, 11, 4, 5, 6] rfl rfl (by decide) (by decide) (by decide) (by decide) rfl 2 2 rfl rfl rfl rfl hl.1 rfl (Nat.le_of_ble_eq_true rfl) dX2_draw_53 ⟨Nat.zero_le _, Nat.zero_le _⟩ (fun H locs hP hD hS => ?_)
          show W p l e rmX2_draw s m args below meth c H locs 0 0 Q (F0 m 56 ls [])
          refine lv_iinc (v := (x17 + (-1 : Int32))) (lv' := [(2, .int (x17 + (-1 : Int32))), (0, .ref h_t), (1, .ref h_p1)]) hx hb dX2_draw_56 hl (k := 2) rfl rfl (by decide) rfl (fun ls hl => ?_)
          refine lv_goto (tgt := 47) hx hb dX2_draw_59 (by decide) ?_
          exact ih18 _ _ _ hf hX20 _ _ hP hD hS _ (lv_sub hl [1, 2, 0] rfl)
    obtain ⟨y15, hg, hf⟩ := bd1_some hf
    refine L24 FU _ _ _ hg ?_ _ _ hP hD hS _ (lv_sub hl [1, 2, 0] rfl)
    · intro H locs hP hD hS ls hl
      refine lv_aload_n hx hb dX2_draw_62 rfl (lv_at hl 0 rfl) ?_
      obtain ⟨x25, y26, hg27, hf⟩ := bd2_some hf
      refine CM_callV (C := RX2) (As := []) (rest := []) (wc := [(h_t, .inr (2, fX2 h_t_wayOn h_t_lowest h_t_highest h_t_seenAt h_t_firstRow x5 x2 t_travel h_t_drawnFor t_drawnStride)), (h_t_wayOn, .inl (cI, 26880, .inl y15)), (h_t_firstRow, .inl (cI, 40, .inl t_firstRow)), (h_t_seenAt, .inl (cI, 840, .inl y8))]) (w1 := [(h_t, .inr (2, fX2 h_t_wayOn h_t_lowest h_t_highest h_t_seenAt h_t_firstRow x5 x2 x25 h_t_drawnFor t_drawnStride)), (h_t_wayOn, .inl (cI, 26880, .inl y15)), (h_t_firstRow, .inl (cI, 40, .inl y26)), (h_t_seenAt, .inl (cI, 840, .inl y8))]) (wr := [(h_p1, .inr (1, fX1 h_p1_surfaces h_p1_cliffs h_p1_boulders h_p1_scratches h_p1_numbers h_p1_facts h_p1_signs h_p1_areas h_p1_heights p1_ridges)), (h_p1_numbers, .inl (cI, 6, .inl p1_numbers)), (h_t_lowest, .inl (cI, 40, .inl y6)), (h_t_highest, .inl (cI, 40, .inl y7)), (h_p1_signs, .inr (4, fX4 p1_signs_limit h_p1_signs_cells p1_signs_size)), (h_p1_signs_cells, .inl (cI, n_p1_signs_cells, .inl p1_signs_cells)), (h_t_drawnFor, .inr (4, fX4 t_drawnFor_limit h_t_drawnFor_cells t_drawnFor_size)), (h_t_drawnFor_cells, .inl (cI, n_t_drawnFor_cells, .inl t_drawnFor_cells))]) (wo := [(h_p1, .inr (1, fX1 h_p1_surfaces h_p1_cliffs h_p1_boulders h_p1_scratches h_p1_numbers h_p1_facts h_p1_signs h_p1_areas h_p1_heights p1_ridges)), (h_p1_numbers, .inl (cI, 6, .inl p1_numbers)), (h_t, .inr (2, fX2 h_t_wayOn h_t_lowest h_t_highest h_t_seenAt h_t_firstRow x5 x2 x25 h_t_drawnFor t_drawnStride)), (h_t_lowest, .inl (cI, 40, .inl y6)), (h_t_highest, .inl (cI, 40, .inl y7)), (h_t_seenAt, .inl (cI, 840, .inl y8)), (h_p1_signs, .inr (4, fX4 p1_signs_limit h_p1_signs_cells p1_signs_size)), (h_p1_signs_cells, .inl (cI, n_p1_signs_cells, .inl p1_signs_cells)), (h_t_wayOn, .inl (cI, 26880, .inl y15)), (h_t_firstRow, .inl (cI, 40, .inl y26)), (h_t_drawnFor, .inr (4, fX4 t_drawnFor_limit h_t_drawnFor_cells t_drawnFor_size)), (h_t_drawnFor_cells, .inl (cI, n_t_drawnFor_cells, .inl t_drawnFor_cells))]) (v := (none)) ⟨hx, hb, hml, hown, hts⟩ (c_X2_followFirstRow l dC dI cI cZ te h_t h_t_wayOn h_t_lowest h_t_highest h_t_seenAt h_t_firstRow h_t_drawnFor x5 x2 t_travel t_drawnStride y15 t_firstRow y8 x25 y26 hg27) (cwV 0 hts (gV kw_554 kw_555 kw_556 kw_95 kw_557) rfl rfl rfl (by decide +kernel) ⟨Nat.le_of_ble_eq_true rfl, Nat.le_of_ble_eq_true rfl⟩) (kS_env te) hK hP hD hS hA hE [2, 8, 9, 5] [0, 1, 3, 4, 6, 7, 10, 11] [0, 1, 8, 2, 3, 11, 4, 5, 9, 10, 6, 7] rfl rfl (by decide) (by decide) (by decide) (by decide) rfl 2 2 rfl rfl rfl rfl hl.1 rfl (Nat.le_of_ble_eq_true rfl) dX2_draw_63 ⟨Nat.zero_le _, Nat.zero_le _⟩ (fun H locs hP hD hS => ?_)
      show W p l e rmX2_draw s m args below meth c H locs 0 0 Q (F0 m 66 ls [])
      refine lv_aload_n hx hb dX2_draw_66 rfl (lv_at hl 0 rfl) ?_
      refine va_get (D := (dC, dI)) (ci := 2) (v := .ref h_t_drawnFor) (C := RX2) (T := TX2) (N := 10) hx hb hts (in1 tw_X2) hown hK hP 2 rfl rfl 8 (by decide) (hts _ (List.mem_cons_of_mem _ kw_59)) (fun _ h9 => h9) rfl dX2_draw_67 ?_
      refine lv_aload_n hx hb dX2_draw_70 rfl (lv_at hl 1 rfl) ?_
      refine va_get (D := (dC, dI)) (ci := 1) (v := .ref h_p1_signs) (C := RX1) (T := TX1) (N := 10) hx hb hts (in1 tw_X1) hown hK hP 0 rfl rfl 6 (by decide) (hts _ (List.mem_cons_of_mem _ kw_516)) (fun _ h9 => h9) rfl dX2_draw_71 ?_
      obtain ⟨x28, y29, hg30, hf⟩ := bd2_some hf
      refine CM_callV (C := RX4) (As := [.ref h_p1_signs]) (rest := []) (wc := [(h_t_drawnFor, .inr (4, fX4 t_drawnFor_limit h_t_drawnFor_cells t_drawnFor_size)), (h_p1_signs, .inr (4, fX4 p1_signs_limit h_p1_signs_cells p1_signs_size)), (h_p1_signs_cells, .inl (cI, n_p1_signs_cells, .inl p1_signs_cells)), (h_t_drawnFor_cells, .inl (cI, n_t_drawnFor_cells, .inl t_drawnFor_cells))]) (w1 := [(h_t_drawnFor, .inr (4, fX4 t_drawnFor_limit h_t_drawnFor_cells x28)), (h_p1_signs, .inr (4, fX4 p1_signs_limit h_p1_signs_cells p1_signs_size)), (h_p1_signs_cells, .inl (cI, n_p1_signs_cells, .inl p1_signs_cells)), (h_t_drawnFor_cells, .inl (cI, n_t_drawnFor_cells, .inl y29))]) (wr := [(h_p1, .inr (1, fX1 h_p1_surfaces h_p1_cliffs h_p1_boulders h_p1_scratches h_p1_numbers h_p1_facts h_p1_signs h_p1_areas h_p1_heights p1_ridges)), (h_p1_numbers, .inl (cI, 6, .inl p1_numbers)), (h_t, .inr (2, fX2 h_t_wayOn h_t_lowest h_t_highest h_t_seenAt h_t_firstRow x5 x2 x25 h_t_drawnFor t_drawnStride)), (h_t_lowest, .inl (cI, 40, .inl y6)), (h_t_highest, .inl (cI, 40, .inl y7)), (h_t_seenAt, .inl (cI, 840, .inl y8)), (h_t_wayOn, .inl (cI, 26880, .inl y15)), (h_t_firstRow, .inl (cI, 40, .inl y26))]) (wo := [(h_p1, .inr (1, fX1 h_p1_surfaces h_p1_cliffs h_p1_boulders h_p1_scratches h_p1_numbers h_p1_facts h_p1_signs h_p1_areas h_p1_heights p1_ridges)), (h_p1_numbers, .inl (cI, 6, .inl p1_numbers)), (h_t, .inr (2, fX2 h_t_wayOn h_t_lowest h_t_highest h_t_seenAt h_t_firstRow x5 x2 x25 h_t_drawnFor t_drawnStride)), (h_t_lowest, .inl (cI, 40, .inl y6)), (h_t_highest, .inl (cI, 40, .inl y7)), (h_t_seenAt, .inl (cI, 840, .inl y8)), (h_p1_signs, .inr (4, fX4 p1_signs_limit h_p1_signs_cells p1_signs_size)), (h_p1_signs_cells, .inl (cI, n_p1_signs_cells, .inl p1_signs_cells)), (h_t_wayOn, .inl (cI, 26880, .inl y15)), (h_t_firstRow, .inl (cI, 40, .inl y26)), (h_t_drawnFor, .inr (4, fX4 t_drawnFor_limit h_t_drawnFor_cells x28)), (h_t_drawnFor_cells, .inl (cI, n_t_drawnFor_cells, .inl y29))]) (v := (none)) ⟨hx, hb, hml, hown, hts⟩ (c_X4_copyFrom l dC dI cI cZ te h_t_drawnFor h_p1_signs h_t_drawnFor_cells h_p1_signs_cells t_drawnFor_limit t_drawnFor_size p1_signs_limit p1_signs_size n_p1_signs_cells p1_signs_cells n_t_drawnFor_cells t_drawnFor_cells x28 y29 hg30) (cwV 1 hts (gV kw_558 kw_461 kw_462 kw_19 kw_463) rfl rfl rfl (by decide +kernel) ⟨Nat.le_of_ble_eq_true rfl, Nat.le_of_ble_eq_true rfl⟩) (kS_env te) hK hP hD hS hA hE [10, 6, 7, 11] [0, 1, 2, 3, 4, 5, 8, 9] [0, 1, 2, 3, 4, 5, 9, 10, 6, 7, 8, 11] rfl rfl (by decide) (by decide) (by decide) (by decide) rfl 10 4 rfl rfl rfl rfl hl.1 rfl (Nat.le_of_ble_eq_true rfl) dX2_draw_74 ⟨Nat.zero_le _, Nat.zero_le _⟩ (fun H locs hP hD hS => ?_)
      show W p l e rmX2_draw s m args below meth c H locs 0 0 Q (F0 m 77 ls [])
      refine lv_aload_n hx hb dX2_draw_77 rfl (lv_at hl 0 rfl) ?_
      refine lv_aload_n hx hb dX2_draw_78 rfl (lv_at hl 0 rfl) ?_
      refine va_get (D := (dC, dI)) (ci := 2) (v := .int x2) (C := RX2) (T := TX2) (N := 10) hx hb hts (in1 tw_X2) hown hK hP 2 rfl rfl 6 (by decide) (hts _ (List.mem_cons_of_mem _ kw_529)) (fun _ h9 => h9) rfl dX2_draw_79 ?_
      refine va_put (D := (dC, dI)) (ci := 2) (v := .int x2) (ty := tyX2 9) (C := RX2) (T := TX2) (N := 10) hx hb hts (in1 tw_X2) tyX2 tyX2_ok nmX2 hown hK hP hD hS 2 rfl rfl 9 (by decide) (hts _ (List.mem_cons_of_mem _ kw_545)) (fun _ h9 => h9) rfl (tyX2_ok 9 (by decide)) rfl rfl (Nat.le_of_ble_eq_true rfl) dX2_draw_82 (fun H locs hP hD hS => ?_)
      have hP : va_P (dC, dI) vwCl [(h_p1, .inr (1, fX1 h_p1_surfaces h_p1_cliffs h_p1_boulders h_p1_scratches h_p1_numbers h_p1_facts h_p1_signs h_p1_areas h_p1_heights p1_ridges)), (h_p1_numbers, .inl (cI, 6, .inl p1_numbers)), (h_t, .inr (2, fX2 h_t_wayOn h_t_lowest h_t_highest h_t_seenAt h_t_firstRow x5 x2 x25 h_t_drawnFor x2)), (h_t_lowest, .inl (cI, 40, .inl y6)), (h_t_highest, .inl (cI, 40, .inl y7)), (h_t_seenAt, .inl (cI, 840, .inl y8)), (h_p1_signs, .inr (4, fX4 p1_signs_limit h_p1_signs_cells p1_signs_size)), (h_p1_signs_cells, .inl (cI, n_p1_signs_cells, .inl p1_signs_cells)), (h_t_wayOn, .inl (cI, 26880, .inl y15)), (h_t_firstRow, .inl (cI, 40, .inl y26)), (h_t_drawnFor, .inr (4, fX4 t_drawnFor_limit h_t_drawnFor_cells x28)), (h_t_drawnFor_cells, .inl (cI, n_t_drawnFor_cells, .inl y29))] H := hP
      have hD : va_D A [(h_p1, .inr (1, fX1 h_p1_surfaces h_p1_cliffs h_p1_boulders h_p1_scratches h_p1_numbers h_p1_facts h_p1_signs h_p1_areas h_p1_heights p1_ridges)), (h_p1_numbers, .inl (cI, 6, .inl p1_numbers)), (h_t, .inr (2, fX2 h_t_wayOn h_t_lowest h_t_highest h_t_seenAt h_t_firstRow x5 x2 x25 h_t_drawnFor x2)), (h_t_lowest, .inl (cI, 40, .inl y6)), (h_t_highest, .inl (cI, 40, .inl y7)), (h_t_seenAt, .inl (cI, 840, .inl y8)), (h_p1_signs, .inr (4, fX4 p1_signs_limit h_p1_signs_cells p1_signs_size)), (h_p1_signs_cells, .inl (cI, n_p1_signs_cells, .inl p1_signs_cells)), (h_t_wayOn, .inl (cI, 26880, .inl y15)), (h_t_firstRow, .inl (cI, 40, .inl y26)), (h_t_drawnFor, .inr (4, fX4 t_drawnFor_limit h_t_drawnFor_cells x28)), (h_t_drawnFor_cells, .inl (cI, n_t_drawnFor_cells, .inl y29))] := hD
      obtain ⟨rfl, rfl, rfl, rfl, rfl, rfl, rfl, rfl, rfl, rfl, rfl⟩ := inj11 hf
      subst hQ
      exact CM_vret hx hb hr hlocks hAe hP hD hS dX2_draw_85
  · replace hf := ifp c4 hf
    refine lv_aload_n hx hb dX2_draw_21 rfl (lv_at hl 0 rfl) ?_
    refine va_get (D := (dC, dI)) (ci := 2) (v := .ref h_t_drawnFor) (C := RX2) (T := TX2) (N := 10) hx hb hts (in1 tw_X2) hown hK hP 2 rfl rfl 8 (by decide) (hts _ (List.mem_cons_of_mem _ kw_59)) (fun _ h9 => h9) rfl dX2_draw_22 ?_
    refine lv_aload_n hx hb dX2_draw_25 rfl (lv_at hl 1 rfl) ?_
    refine va_get (D := (dC, dI)) (ci := 1) (v := .ref h_p1_signs) (C := RX1) (T := TX1) (N := 10) hx hb hts (in1 tw_X1) hown hK hP 0 rfl rfl 6 (by decide) (hts _ (List.mem_cons_of_mem _ kw_516)) (fun _ h9 => h9) rfl dX2_draw_26 ?_
    obtain ⟨r31, hg32, hf⟩ := bd1_some hf
    refine CM_callV (C := RX4) (As := [.ref h_p1_signs]) (rest := []) (wc := [(h_t_drawnFor, .inr (4, fX4 t_drawnFor_limit h_t_drawnFor_cells t_drawnFor_size)), (h_p1_signs, .inr (4, fX4 p1_signs_limit h_p1_signs_cells p1_signs_size)), (h_t_drawnFor_cells, .inl (cI, n_t_drawnFor_cells, .inl t_drawnFor_cells)), (h_p1_signs_cells, .inl (cI, n_p1_signs_cells, .inl p1_signs_cells))]) (w1 := [(h_t_drawnFor, .inr (4, fX4 t_drawnFor_limit h_t_drawnFor_cells t_drawnFor_size)), (h_p1_signs, .inr (4, fX4 p1_signs_limit h_p1_signs_cells p1_signs_size)), (h_t_drawnFor_cells, .inl (cI, n_t_drawnFor_cells, .inl t_drawnFor_cells)), (h_p1_signs_cells, .inl (cI, n_p1_signs_cells, .inl p1_signs_cells))]) (wr := [(h_p1, .inr (1, fX1 h_p1_surfaces h_p1_cliffs h_p1_boulders h_p1_scratches h_p1_numbers h_p1_facts h_p1_signs h_p1_areas h_p1_heights p1_ridges)), (h_p1_numbers, .inl (cI, 6, .inl p1_numbers)), (h_t, .inr (2, fX2 h_t_wayOn h_t_lowest h_t_highest h_t_seenAt h_t_firstRow t_allSeen x2 t_travel h_t_drawnFor t_drawnStride)), (h_t_lowest, .inl (cI, 40, .inl t_lowest)), (h_t_highest, .inl (cI, 40, .inl t_highest)), (h_t_seenAt, .inl (cI, 840, .inl t_seenAt)), (h_t_wayOn, .inl (cI, 26880, .inl t_wayOn)), (h_t_firstRow, .inl (cI, 40, .inl t_firstRow))]) (wo := [(h_p1, .inr (1, fX1 h_p1_surfaces h_p1_cliffs h_p1_boulders h_p1_scratches h_p1_numbers h_p1_facts h_p1_signs h_p1_areas h_p1_heights p1_ridges)), (h_p1_numbers, .inl (cI, 6, .inl p1_numbers)), (h_t, .inr (2, fX2 h_t_wayOn h_t_lowest h_t_highest h_t_seenAt h_t_firstRow t_allSeen x2 t_travel h_t_drawnFor t_drawnStride)), (h_t_lowest, .inl (cI, 40, .inl t_lowest)), (h_t_highest, .inl (cI, 40, .inl t_highest)), (h_t_seenAt, .inl (cI, 840, .inl t_seenAt)), (h_p1_signs, .inr (4, fX4 p1_signs_limit h_p1_signs_cells p1_signs_size)), (h_p1_signs_cells, .inl (cI, n_p1_signs_cells, .inl p1_signs_cells)), (h_t_wayOn, .inl (cI, 26880, .inl t_wayOn)), (h_t_firstRow, .inl (cI, 40, .inl t_firstRow)), (h_t_drawnFor, .inr (4, fX4 t_drawnFor_limit h_t_drawnFor_cells t_drawnFor_size)), (h_t_drawnFor_cells, .inl (cI, n_t_drawnFor_cells, .inl t_drawnFor_cells))]) (v := (some (.int r31))) ⟨hx, hb, hml, hown, hts⟩ (c_X4_isLike l dC dI cI cZ te h_t_drawnFor h_p1_signs h_t_drawnFor_cells h_p1_signs_cells t_drawnFor_limit t_drawnFor_size p1_signs_limit p1_signs_size n_t_drawnFor_cells t_drawnFor_cells n_p1_signs_cells p1_signs_cells r31 hg32) (cwV 1 hts (gV kw_559 kw_466 kw_467 kw_19 kw_468) rfl rfl rfl (by decide +kernel) ⟨Nat.le_of_ble_eq_true rfl, Nat.le_of_ble_eq_true rfl⟩) (kS_env te) hK hP hD hS hA hE [10, 6, 11, 7] [0, 1, 2, 3, 4, 5, 8, 9] [0, 1, 2, 3, 4, 5, 9, 11, 6, 7, 8, 10] rfl rfl (by decide) (by decide) (by decide) (by decide) rfl 10 4 rfl rfl rfl rfl hl.1 rfl (Nat.le_of_ble_eq_true rfl) dX2_draw_29 ⟨Nat.zero_le _, Nat.zero_le _⟩ (fun H locs hP hD hS => ?_)
    show W p l e rmX2_draw s m args below meth c H locs 0 0 Q (F0 m 32 ls [.int r31])
    refine lv_if_eq (tgt := 36) hx hb dX2_draw_32 (by decide) (fun c33 => ?_) (fun c33 => ?_)
    · replace hf := ifp c33 hf
      refine lv_aload_n hx hb dX2_draw_36 rfl (lv_at hl 0 rfl) ?_
      refine lv_aload_n hx hb dX2_draw_37 rfl (lv_at hl 1 rfl) ?_
      refine va_get (D := (dC, dI)) (ci := 1) (v := .ref h_p1_signs) (C := RX1) (T := TX1) (N := 10) hx hb hts (in1 tw_X1) hown hK hP 0 rfl rfl 6 (by decide) (hts _ (List.mem_cons_of_mem _ kw_516)) (fun _ h9 => h9) rfl dX2_draw_38 ?_
      obtain ⟨x34, y35, y36, y37, hg38, hf⟩ := bd4_some hf
      refine CM_callV (C := RX2) (As := [.ref h_p1_signs]) (rest := []) (wc := [(h_t, .inr (2, fX2 h_t_wayOn h_t_lowest h_t_highest h_t_seenAt h_t_firstRow t_allSeen x2 t_travel h_t_drawnFor t_drawnStride)), (h_t_lowest, .inl (cI, 40, .inl t_lowest)), (h_t_highest, .inl (cI, 40, .inl t_highest)), (h_t_seenAt, .inl (cI, 840, .inl t_seenAt)), (h_p1_signs, .inr (4, fX4 p1_signs_limit h_p1_signs_cells p1_signs_size)), (h_p1_signs_cells, .inl (cI, n_p1_signs_cells, .inl p1_signs_cells))]) (w1 := [(h_t, .inr (2, fX2 h_t_wayOn h_t_lowest h_t_highest h_t_seenAt h_t_firstRow x34 x2 t_travel h_t_drawnFor t_drawnStride)), (h_t_lowest, .inl (cI, 40, .inl y35)), (h_t_highest, .inl (cI, 40, .inl y36)), (h_t_seenAt, .inl (cI, 840, .inl y37)), (h_p1_signs, .inr (4, fX4 p1_signs_limit h_p1_signs_cells p1_signs_size)), (h_p1_signs_cells, .inl (cI, n_p1_signs_cells, .inl p1_signs_cells))]) (wr := [(h_p1, .inr (1, fX1 h_p1_surfaces h_p1_cliffs h_p1_boulders h_p1_scratches h_p1_numbers h_p1_facts h_p1_signs h_p1_areas h_p1_heights p1_ridges)), (h_p1_numbers, .inl (cI, 6, .inl p1_numbers)), (h_t_wayOn, .inl (cI, 26880, .inl t_wayOn)), (h_t_firstRow, .inl (cI, 40, .inl t_firstRow)), (h_t_drawnFor, .inr (4, fX4 t_drawnFor_limit h_t_drawnFor_cells t_drawnFor_size)), (h_t_drawnFor_cells, .inl (cI, n_t_drawnFor_cells, .inl t_drawnFor_cells))]) (wo := [(h_p1, .inr (1, fX1 h_p1_surfaces h_p1_cliffs h_p1_boulders h_p1_scratches h_p1_numbers h_p1_facts h_p1_signs h_p1_areas h_p1_heights p1_ridges)), (h_p1_numbers, .inl (cI, 6, .inl p1_numbers)), (h_t, .inr (2, fX2 h_t_wayOn h_t_lowest h_t_highest h_t_seenAt h_t_firstRow x34 x2 t_travel h_t_drawnFor t_drawnStride)), (h_t_lowest, .inl (cI, 40, .inl y35)), (h_t_highest, .inl (cI, 40, .inl y36)), (h_t_seenAt, .inl (cI, 840, .inl y37)), (h_p1_signs, .inr (4, fX4 p1_signs_limit h_p1_signs_cells p1_signs_size)), (h_p1_signs_cells, .inl (cI, n_p1_signs_cells, .inl p1_signs_cells)), (h_t_wayOn, .inl (cI, 26880, .inl t_wayOn)), (h_t_firstRow, .inl (cI, 40, .inl t_firstRow)), (h_t_drawnFor, .inr (4, fX4 t_drawnFor_limit h_t_drawnFor_cells t_drawnFor_size)), (h_t_drawnFor_cells, .inl (cI, n_t_drawnFor_cells, .inl t_drawnFor_cells))]) (v := (none)) ⟨hx, hb, hml, hown, hts⟩ (c_X2_takeSigns l dC dI cI cZ te h_t h_p1_signs h_t_wayOn h_t_lowest h_t_highest h_t_seenAt h_t_firstRow h_t_drawnFor h_p1_signs_cells t_allSeen x2 t_travel t_drawnStride t_lowest t_highest t_seenAt p1_signs_limit p1_signs_size n_p1_signs_cells p1_signs_cells x34 y35 y36 y37 hg38) (cwV 1 hts (gV kw_546 kw_547 kw_548 kw_95 kw_549) rfl rfl rfl (by decide +kernel) ⟨Nat.le_of_ble_eq_true rfl, Nat.le_of_ble_eq_true rfl⟩) (kS_env te) hK hP hD hS hA hE [2, 3, 4, 5, 6, 7] [0, 1, 8, 9, 10, 11] [0, 1, 6, 7, 8, 9, 10, 11, 2, 3, 4, 5] rfl rfl (by decide) (by decide) (by decide) (by decide) rfl 2 2 rfl rfl rfl rfl hl.1 rfl (Nat.le_of_ble_eq_true rfl) dX2_draw_41 ⟨Nat.zero_le _, Nat.zero_le _⟩ (fun H locs hP hD hS => ?_)
      show W p l e rmX2_draw s m args below meth c H locs 0 0 Q (F0 m 44 ls [])
      refine lv_bipush (v := (39 : Int32)) hx hb dX2_draw_44 (by decide) ?_
      refine lv_istore_n (lv' := [(2, .int (39 : Int32)), (0, .ref h_t), (1, .ref h_p1)]) hx hb dX2_draw_46 rfl hl (by decide) rfl (fun ls hl => ?_)
      have L53 : ∀ (fu48 : Nat) (y45 : Nat → Int32) (x46 : Int32) (y44 : Nat → Int32), f_X2_draw_L2 x34 x2 y35 y36 y37 fu48 y45 x46 = some y44 → (∀ (H : Heap) (locs : List Loc), va_P (dC, dI) vwCl [(h_p1, .inr (1, fX1 h_p1_surfaces h_p1_cliffs h_p1_boulders h_p1_scratches h_p1_numbers h_p1_facts h_p1_signs h_p1_areas h_p1_heights p1_ridges)), (h_p1_numbers, .inl (cI, 6, .inl p1_numbers)), (h_t, .inr (2, fX2 h_t_wayOn h_t_lowest h_t_highest h_t_seenAt h_t_firstRow x34 x2 t_travel h_t_drawnFor t_drawnStride)), (h_t_lowest, .inl (cI, 40, .inl y35)), (h_t_highest, .inl (cI, 40, .inl y36)), (h_t_seenAt, .inl (cI, 840, .inl y37)), (h_p1_signs, .inr (4, fX4 p1_signs_limit h_p1_signs_cells p1_signs_size)), (h_p1_signs_cells, .inl (cI, n_p1_signs_cells, .inl p1_signs_cells)), (h_t_wayOn, .inl (cI, 26880, .inl y44)), (h_t_firstRow, .inl (cI, 40, .inl t_firstRow)), (h_t_drawnFor, .inr (4, fX4 t_drawnFor_limit h_t_drawnFor_cells t_drawnFor_size)), (h_t_drawnFor_cells, .inl (cI, n_t_drawnFor_cells, .inl t_drawnFor_cells))] H → va_D A [(h_p1, .inr (1, fX1 h_p1_surfaces h_p1_cliffs h_p1_boulders h_p1_scratches h_p1_numbers h_p1_facts h_p1_signs h_p1_areas h_p1_heights p1_ridges)), (h_p1_numbers, .inl (cI, 6, .inl p1_numbers)), (h_t, .inr (2, fX2 h_t_wayOn h_t_lowest h_t_highest h_t_seenAt h_t_firstRow x34 x2 t_travel h_t_drawnFor t_drawnStride)), (h_t_lowest, .inl (cI, 40, .inl y35)), (h_t_highest, .inl (cI, 40, .inl y36)), (h_t_seenAt, .inl (cI, 840, .inl y37)), (h_p1_signs, .inr (4, fX4 p1_signs_limit h_p1_signs_cells p1_signs_size)), (h_p1_signs_cells, .inl (cI, n_p1_signs_cells, .inl p1_signs_cells)), (h_t_wayOn, .inl (cI, 26880, .inl y44)), (h_t_firstRow, .inl (cI, 40, .inl t_firstRow)), (h_t_drawnFor, .inr (4, fX4 t_drawnFor_limit h_t_drawnFor_cells t_drawnFor_size)), (h_t_drawnFor_cells, .inl (cI, n_t_drawnFor_cells, .inl t_drawnFor_cells))] → va_S A s.heap H locs → ∀ ls : Array Slot, lv_has ls 3 [(0, .ref h_t), (1, .ref h_p1)] → W p l e rmX2_draw s m args below meth c H locs 0 0 Q (F0 m 62 ls [])) → ∀ (H : Heap) (locs : List Loc), va_P (dC, dI) vwCl [(h_p1, .inr (1, fX1 h_p1_surfaces h_p1_cliffs h_p1_boulders h_p1_scratches h_p1_numbers h_p1_facts h_p1_signs h_p1_areas h_p1_heights p1_ridges)), (h_p1_numbers, .inl (cI, 6, .inl p1_numbers)), (h_t, .inr (2, fX2 h_t_wayOn h_t_lowest h_t_highest h_t_seenAt h_t_firstRow x34 x2 t_travel h_t_drawnFor t_drawnStride)), (h_t_lowest, .inl (cI, 40, .inl y35)), (h_t_highest, .inl (cI, 40, .inl y36)), (h_t_seenAt, .inl (cI, 840, .inl y37)), (h_p1_signs, .inr (4, fX4 p1_signs_limit h_p1_signs_cells p1_signs_size)), (h_p1_signs_cells, .inl (cI, n_p1_signs_cells, .inl p1_signs_cells)), (h_t_wayOn, .inl (cI, 26880, .inl y45)), (h_t_firstRow, .inl (cI, 40, .inl t_firstRow)), (h_t_drawnFor, .inr (4, fX4 t_drawnFor_limit h_t_drawnFor_cells t_drawnFor_size)), (h_t_drawnFor_cells, .inl (cI, n_t_drawnFor_cells, .inl t_drawnFor_cells))] H → va_D A [(h_p1, .inr (1, fX1 h_p1_surfaces h_p1_cliffs h_p1_boulders h_p1_scratches h_p1_numbers h_p1_facts h_p1_signs h_p1_areas h_p1_heights p1_ridges)), (h_p1_numbers, .inl (cI, 6, .inl p1_numbers)), (h_t, .inr (2, fX2 h_t_wayOn h_t_lowest h_t_highest h_t_seenAt h_t_firstRow x34 x2 t_travel h_t_drawnFor t_drawnStride)), (h_t_lowest, .inl (cI, 40, .inl y35)), (h_t_highest, .inl (cI, 40, .inl y36)), (h_t_seenAt, .inl (cI, 840, .inl y37)), (h_p1_signs, .inr (4, fX4 p1_signs_limit h_p1_signs_cells p1_signs_size)), (h_p1_signs_cells, .inl (cI, n_p1_signs_cells, .inl p1_signs_cells)), (h_t_wayOn, .inl (cI, 26880, .inl y45)), (h_t_firstRow, .inl (cI, 40, .inl t_firstRow)), (h_t_drawnFor, .inr (4, fX4 t_drawnFor_limit h_t_drawnFor_cells t_drawnFor_size)), (h_t_drawnFor_cells, .inl (cI, n_t_drawnFor_cells, .inl t_drawnFor_cells))] → va_S A s.heap H locs → ∀ ls : Array Slot, lv_has ls 3 [(0, .ref h_t), (1, .ref h_p1), (2, .int x46)] → W p l e rmX2_draw s m args below meth c H locs 0 0 Q (F0 m 47 ls []) := by
        intro fu48
        induction fu48 with
        | zero =>
          intro y45 x46 y44 hf
          unfold f_X2_draw_L2 at hf
          exact none_ne hf
        | succ fu48 ih47 =>
          intro y45 x46 y44 hf hX49 H locs hP hD hS ls hl
          unfold f_X2_draw_L2 at hf
          refine lv_iload_n hx hb dX2_draw_47 rfl (lv_at hl 2 rfl) ?_
          refine lv_if_lt (tgt := 62) hx hb dX2_draw_48 (by decide) (fun c50 => ?_) (fun c50 => ?_)
          · replace hf := ifp c50 hf
            obtain rfl := inj1 hf
            exact hX49 _ _ hP hD hS _ (lv_sub hl [0, 1] rfl)
          · replace hf := ifn c50 hf
            refine lv_aload_n hx hb dX2_draw_51 rfl (lv_at hl 0 rfl) ?_
            refine lv_iload_n hx hb dX2_draw_52 rfl (lv_at hl 2 rfl) ?_
            obtain ⟨y51, hg52, hf⟩ := bd1_some hf
            refine CM_callV (C := RX2) (As := [.int x46]) (rest := []) (wc := [(h_t, .inr (2, fX2 h_t_wayOn h_t_lowest h_t_highest h_t_seenAt h_t_firstRow x34 x2 t_travel h_t_drawnFor t_drawnStride)), (h_t_lowest, .inl (cI, 40, .inl y35)), (h_t_highest, .inl (cI, 40, .inl y36)), (h_t_seenAt, .inl (cI, 840, .inl y37)), (h_t_wayOn, .inl (cI, 26880, .inl y45))]) (w1 := [(h_t, .inr (2, fX2 h_t_wayOn h_t_lowest h_t_highest h_t_seenAt h_t_firstRow x34 x2 t_travel h_t_drawnFor t_drawnStride)), (h_t_lowest, .inl (cI, 40, .inl y35)), (h_t_highest, .inl (cI, 40, .inl y36)), (h_t_seenAt, .inl (cI, 840, .inl y37)), (h_t_wayOn, .inl (cI, 26880, .inl y51))]) (wr := [(h_p1, .inr (1, fX1 h_p1_surfaces h_p1_cliffs h_p1_boulders h_p1_scratches h_p1_numbers h_p1_facts h_p1_signs h_p1_areas h_p1_heights p1_ridges)), (h_p1_numbers, .inl (cI, 6, .inl p1_numbers)), (h_p1_signs, .inr (4, fX4 p1_signs_limit h_p1_signs_cells p1_signs_size)), (h_p1_signs_cells, .inl (cI, n_p1_signs_cells, .inl p1_signs_cells)), (h_t_firstRow, .inl (cI, 40, .inl t_firstRow)), (h_t_drawnFor, .inr (4, fX4 t_drawnFor_limit h_t_drawnFor_cells t_drawnFor_size)), (h_t_drawnFor_cells, .inl (cI, n_t_drawnFor_cells, .inl t_drawnFor_cells))]) (wo := [(h_p1, .inr (1, fX1 h_p1_surfaces h_p1_cliffs h_p1_boulders h_p1_scratches h_p1_numbers h_p1_facts h_p1_signs h_p1_areas h_p1_heights p1_ridges)), (h_p1_numbers, .inl (cI, 6, .inl p1_numbers)), (h_t, .inr (2, fX2 h_t_wayOn h_t_lowest h_t_highest h_t_seenAt h_t_firstRow x34 x2 t_travel h_t_drawnFor t_drawnStride)), (h_t_lowest, .inl (cI, 40, .inl y35)), (h_t_highest, .inl (cI, 40, .inl y36)), (h_t_seenAt, .inl (cI, 840, .inl y37)), (h_p1_signs, .inr (4, fX4 p1_signs_limit h_p1_signs_cells p1_signs_size)), (h_p1_signs_cells, .inl (cI, n_p1_signs_cells, .inl p1_signs_cells)), (h_t_wayOn, .inl (cI, 26880, .inl y51)), (h_t_firstRow, .inl (cI, 40, .inl t_firstRow)), (h_t_drawnFor, .inr (4, fX4 t_drawnFor_limit h_t_drawnFor_cells t_drawnFor_size)), (h_t_drawnFor_cells, .inl (cI, n_t_drawnFor_cells, .inl t_drawnFor_cells))]) (v := (none)) ⟨hx, hb, hml, hown, hts⟩ (c_X2_findWaysFrom l dC dI cI cZ te h_t h_t_wayOn h_t_lowest h_t_highest h_t_seenAt h_t_firstRow h_t_drawnFor x34 x2 t_travel t_drawnStride y35 y36 y37 y45 x46 y51 hg52) (cwV 1 hts (gV kw_550 kw_551 kw_552 kw_95 kw_553) rfl rfl rfl (by decide +kernel) ⟨Nat.le_of_ble_eq_true rfl, Nat.le_of_ble_eq_true rfl⟩) (kS_env te) hK hP hD hS hA hE [2, 3, 4, 5, 8] [0, 1, 6, 7, 9, 10, 11] [0, 1, 7, 8, 9, 10, 2, 3, 11, 4, 5, 6] rfl rfl (by decide) (by decide) (by decide) (by decide) rfl 2 2 rfl rfl rfl rfl hl.1 rfl (Nat.le_of_ble_eq_true rfl) dX2_draw_53 ⟨Nat.zero_le _, Nat.zero_le _⟩ (fun H locs hP hD hS => ?_)
            show W p l e rmX2_draw s m args below meth c H locs 0 0 Q (F0 m 56 ls [])
            refine lv_iinc (v := (x46 + (-1 : Int32))) (lv' := [(2, .int (x46 + (-1 : Int32))), (0, .ref h_t), (1, .ref h_p1)]) hx hb dX2_draw_56 hl (k := 2) rfl rfl (by decide) rfl (fun ls hl => ?_)
            refine lv_goto (tgt := 47) hx hb dX2_draw_59 (by decide) ?_
            exact ih47 _ _ _ hf hX49 _ _ hP hD hS _ (lv_sub hl [1, 2, 0] rfl)
      obtain ⟨y44, hg, hf⟩ := bd1_some hf
      refine L53 FU _ _ _ hg ?_ _ _ hP hD hS _ (lv_sub hl [1, 2, 0] rfl)
      · intro H locs hP hD hS ls hl
        refine lv_aload_n hx hb dX2_draw_62 rfl (lv_at hl 0 rfl) ?_
        obtain ⟨x54, y55, hg56, hf⟩ := bd2_some hf
        refine CM_callV (C := RX2) (As := []) (rest := []) (wc := [(h_t, .inr (2, fX2 h_t_wayOn h_t_lowest h_t_highest h_t_seenAt h_t_firstRow x34 x2 t_travel h_t_drawnFor t_drawnStride)), (h_t_wayOn, .inl (cI, 26880, .inl y44)), (h_t_firstRow, .inl (cI, 40, .inl t_firstRow)), (h_t_seenAt, .inl (cI, 840, .inl y37))]) (w1 := [(h_t, .inr (2, fX2 h_t_wayOn h_t_lowest h_t_highest h_t_seenAt h_t_firstRow x34 x2 x54 h_t_drawnFor t_drawnStride)), (h_t_wayOn, .inl (cI, 26880, .inl y44)), (h_t_firstRow, .inl (cI, 40, .inl y55)), (h_t_seenAt, .inl (cI, 840, .inl y37))]) (wr := [(h_p1, .inr (1, fX1 h_p1_surfaces h_p1_cliffs h_p1_boulders h_p1_scratches h_p1_numbers h_p1_facts h_p1_signs h_p1_areas h_p1_heights p1_ridges)), (h_p1_numbers, .inl (cI, 6, .inl p1_numbers)), (h_t_lowest, .inl (cI, 40, .inl y35)), (h_t_highest, .inl (cI, 40, .inl y36)), (h_p1_signs, .inr (4, fX4 p1_signs_limit h_p1_signs_cells p1_signs_size)), (h_p1_signs_cells, .inl (cI, n_p1_signs_cells, .inl p1_signs_cells)), (h_t_drawnFor, .inr (4, fX4 t_drawnFor_limit h_t_drawnFor_cells t_drawnFor_size)), (h_t_drawnFor_cells, .inl (cI, n_t_drawnFor_cells, .inl t_drawnFor_cells))]) (wo := [(h_p1, .inr (1, fX1 h_p1_surfaces h_p1_cliffs h_p1_boulders h_p1_scratches h_p1_numbers h_p1_facts h_p1_signs h_p1_areas h_p1_heights p1_ridges)), (h_p1_numbers, .inl (cI, 6, .inl p1_numbers)), (h_t, .inr (2, fX2 h_t_wayOn h_t_lowest h_t_highest h_t_seenAt h_t_firstRow x34 x2 x54 h_t_drawnFor t_drawnStride)), (h_t_lowest, .inl (cI, 40, .inl y35)), (h_t_highest, .inl (cI, 40, .inl y36)), (h_t_seenAt, .inl (cI, 840, .inl y37)), (h_p1_signs, .inr (4, fX4 p1_signs_limit h_p1_signs_cells p1_signs_size)), (h_p1_signs_cells, .inl (cI, n_p1_signs_cells, .inl p1_signs_cells)), (h_t_wayOn, .inl (cI, 26880, .inl y44)), (h_t_firstRow, .inl (cI, 40, .inl y55)), (h_t_drawnFor, .inr (4, fX4 t_drawnFor_limit h_t_drawnFor_cells t_drawnFor_size)), (h_t_drawnFor_cells, .inl (cI, n_t_drawnFor_cells, .inl t_drawnFor_cells))]) (v := (none)) ⟨hx, hb, hml, hown, hts⟩ (c_X2_followFirstRow l dC dI cI cZ te h_t h_t_wayOn h_t_lowest h_t_highest h_t_seenAt h_t_firstRow h_t_drawnFor x34 x2 t_travel t_drawnStride y44 t_firstRow y37 x54 y55 hg56) (cwV 0 hts (gV kw_554 kw_555 kw_556 kw_95 kw_557) rfl rfl rfl (by decide +kernel) ⟨Nat.le_of_ble_eq_true rfl, Nat.le_of_ble_eq_true rfl⟩) (kS_env te) hK hP hD hS hA hE [2, 8, 9, 5] [0, 1, 3, 4, 6, 7, 10, 11] [0, 1, 8, 2, 3, 11, 4, 5, 9, 10, 6, 7] rfl rfl (by decide) (by decide) (by decide) (by decide) rfl 2 2 rfl rfl rfl rfl hl.1 rfl (Nat.le_of_ble_eq_true rfl) dX2_draw_63 ⟨Nat.zero_le _, Nat.zero_le _⟩ (fun H locs hP hD hS => ?_)
        show W p l e rmX2_draw s m args below meth c H locs 0 0 Q (F0 m 66 ls [])
        refine lv_aload_n hx hb dX2_draw_66 rfl (lv_at hl 0 rfl) ?_
        refine va_get (D := (dC, dI)) (ci := 2) (v := .ref h_t_drawnFor) (C := RX2) (T := TX2) (N := 10) hx hb hts (in1 tw_X2) hown hK hP 2 rfl rfl 8 (by decide) (hts _ (List.mem_cons_of_mem _ kw_59)) (fun _ h9 => h9) rfl dX2_draw_67 ?_
        refine lv_aload_n hx hb dX2_draw_70 rfl (lv_at hl 1 rfl) ?_
        refine va_get (D := (dC, dI)) (ci := 1) (v := .ref h_p1_signs) (C := RX1) (T := TX1) (N := 10) hx hb hts (in1 tw_X1) hown hK hP 0 rfl rfl 6 (by decide) (hts _ (List.mem_cons_of_mem _ kw_516)) (fun _ h9 => h9) rfl dX2_draw_71 ?_
        obtain ⟨x57, y58, hg59, hf⟩ := bd2_some hf
        refine CM_callV (C := RX4) (As := [.ref h_p1_signs]) (rest := []) (wc := [(h_t_drawnFor, .inr (4, fX4 t_drawnFor_limit h_t_drawnFor_cells t_drawnFor_size)), (h_p1_signs, .inr (4, fX4 p1_signs_limit h_p1_signs_cells p1_signs_size)), (h_p1_signs_cells, .inl (cI, n_p1_signs_cells, .inl p1_signs_cells)), (h_t_drawnFor_cells, .inl (cI, n_t_drawnFor_cells, .inl t_drawnFor_cells))]) (w1 := [(h_t_drawnFor, .inr (4, fX4 t_drawnFor_limit h_t_drawnFor_cells x57)), (h_p1_signs, .inr (4, fX4 p1_signs_limit h_p1_signs_cells p1_signs_size)), (h_p1_signs_cells, .inl (cI, n_p1_signs_cells, .inl p1_signs_cells)), (h_t_drawnFor_cells, .inl (cI, n_t_drawnFor_cells, .inl y58))]) (wr := [(h_p1, .inr (1, fX1 h_p1_surfaces h_p1_cliffs h_p1_boulders h_p1_scratches h_p1_numbers h_p1_facts h_p1_signs h_p1_areas h_p1_heights p1_ridges)), (h_p1_numbers, .inl (cI, 6, .inl p1_numbers)), (h_t, .inr (2, fX2 h_t_wayOn h_t_lowest h_t_highest h_t_seenAt h_t_firstRow x34 x2 x54 h_t_drawnFor t_drawnStride)), (h_t_lowest, .inl (cI, 40, .inl y35)), (h_t_highest, .inl (cI, 40, .inl y36)), (h_t_seenAt, .inl (cI, 840, .inl y37)), (h_t_wayOn, .inl (cI, 26880, .inl y44)), (h_t_firstRow, .inl (cI, 40, .inl y55))]) (wo := [(h_p1, .inr (1, fX1 h_p1_surfaces h_p1_cliffs h_p1_boulders h_p1_scratches h_p1_numbers h_p1_facts h_p1_signs h_p1_areas h_p1_heights p1_ridges)), (h_p1_numbers, .inl (cI, 6, .inl p1_numbers)), (h_t, .inr (2, fX2 h_t_wayOn h_t_lowest h_t_highest h_t_seenAt h_t_firstRow x34 x2 x54 h_t_drawnFor t_drawnStride)), (h_t_lowest, .inl (cI, 40, .inl y35)), (h_t_highest, .inl (cI, 40, .inl y36)), (h_t_seenAt, .inl (cI, 840, .inl y37)), (h_p1_signs, .inr (4, fX4 p1_signs_limit h_p1_signs_cells p1_signs_size)), (h_p1_signs_cells, .inl (cI, n_p1_signs_cells, .inl p1_signs_cells)), (h_t_wayOn, .inl (cI, 26880, .inl y44)), (h_t_firstRow, .inl (cI, 40, .inl y55)), (h_t_drawnFor, .inr (4, fX4 t_drawnFor_limit h_t_drawnFor_cells x57)), (h_t_drawnFor_cells, .inl (cI, n_t_drawnFor_cells, .inl y58))]) (v := (none)) ⟨hx, hb, hml, hown, hts⟩ (c_X4_copyFrom l dC dI cI cZ te h_t_drawnFor h_p1_signs h_t_drawnFor_cells h_p1_signs_cells t_drawnFor_limit t_drawnFor_size p1_signs_limit p1_signs_size n_p1_signs_cells p1_signs_cells n_t_drawnFor_cells t_drawnFor_cells x57 y58 hg59) (cwV 1 hts (gV kw_558 kw_461 kw_462 kw_19 kw_463) rfl rfl rfl (by decide +kernel) ⟨Nat.le_of_ble_eq_true rfl, Nat.le_of_ble_eq_true rfl⟩) (kS_env te) hK hP hD hS hA hE [10, 6, 7, 11] [0, 1, 2, 3, 4, 5, 8, 9] [0, 1, 2, 3, 4, 5, 9, 10, 6, 7, 8, 11] rfl rfl (by decide) (by decide) (by decide) (by decide) rfl 10 4 rfl rfl rfl rfl hl.1 rfl (Nat.le_of_ble_eq_true rfl) dX2_draw_74 ⟨Nat.zero_le _, Nat.zero_le _⟩ (fun H locs hP hD hS => ?_)
        show W p l e rmX2_draw s m args below meth c H locs 0 0 Q (F0 m 77 ls [])
        refine lv_aload_n hx hb dX2_draw_77 rfl (lv_at hl 0 rfl) ?_
        refine lv_aload_n hx hb dX2_draw_78 rfl (lv_at hl 0 rfl) ?_
        refine va_get (D := (dC, dI)) (ci := 2) (v := .int x2) (C := RX2) (T := TX2) (N := 10) hx hb hts (in1 tw_X2) hown hK hP 2 rfl rfl 6 (by decide) (hts _ (List.mem_cons_of_mem _ kw_529)) (fun _ h9 => h9) rfl dX2_draw_79 ?_
        refine va_put (D := (dC, dI)) (ci := 2) (v := .int x2) (ty := tyX2 9) (C := RX2) (T := TX2) (N := 10) hx hb hts (in1 tw_X2) tyX2 tyX2_ok nmX2 hown hK hP hD hS 2 rfl rfl 9 (by decide) (hts _ (List.mem_cons_of_mem _ kw_545)) (fun _ h9 => h9) rfl (tyX2_ok 9 (by decide)) rfl rfl (Nat.le_of_ble_eq_true rfl) dX2_draw_82 (fun H locs hP hD hS => ?_)
        have hP : va_P (dC, dI) vwCl [(h_p1, .inr (1, fX1 h_p1_surfaces h_p1_cliffs h_p1_boulders h_p1_scratches h_p1_numbers h_p1_facts h_p1_signs h_p1_areas h_p1_heights p1_ridges)), (h_p1_numbers, .inl (cI, 6, .inl p1_numbers)), (h_t, .inr (2, fX2 h_t_wayOn h_t_lowest h_t_highest h_t_seenAt h_t_firstRow x34 x2 x54 h_t_drawnFor x2)), (h_t_lowest, .inl (cI, 40, .inl y35)), (h_t_highest, .inl (cI, 40, .inl y36)), (h_t_seenAt, .inl (cI, 840, .inl y37)), (h_p1_signs, .inr (4, fX4 p1_signs_limit h_p1_signs_cells p1_signs_size)), (h_p1_signs_cells, .inl (cI, n_p1_signs_cells, .inl p1_signs_cells)), (h_t_wayOn, .inl (cI, 26880, .inl y44)), (h_t_firstRow, .inl (cI, 40, .inl y55)), (h_t_drawnFor, .inr (4, fX4 t_drawnFor_limit h_t_drawnFor_cells x57)), (h_t_drawnFor_cells, .inl (cI, n_t_drawnFor_cells, .inl y58))] H := hP
        have hD : va_D A [(h_p1, .inr (1, fX1 h_p1_surfaces h_p1_cliffs h_p1_boulders h_p1_scratches h_p1_numbers h_p1_facts h_p1_signs h_p1_areas h_p1_heights p1_ridges)), (h_p1_numbers, .inl (cI, 6, .inl p1_numbers)), (h_t, .inr (2, fX2 h_t_wayOn h_t_lowest h_t_highest h_t_seenAt h_t_firstRow x34 x2 x54 h_t_drawnFor x2)), (h_t_lowest, .inl (cI, 40, .inl y35)), (h_t_highest, .inl (cI, 40, .inl y36)), (h_t_seenAt, .inl (cI, 840, .inl y37)), (h_p1_signs, .inr (4, fX4 p1_signs_limit h_p1_signs_cells p1_signs_size)), (h_p1_signs_cells, .inl (cI, n_p1_signs_cells, .inl p1_signs_cells)), (h_t_wayOn, .inl (cI, 26880, .inl y44)), (h_t_firstRow, .inl (cI, 40, .inl y55)), (h_t_drawnFor, .inr (4, fX4 t_drawnFor_limit h_t_drawnFor_cells x57)), (h_t_drawnFor_cells, .inl (cI, n_t_drawnFor_cells, .inl y58))] := hD
        obtain ⟨rfl, rfl, rfl, rfl, rfl, rfl, rfl, rfl, rfl, rfl, rfl⟩ := inj11 hf
        subst hQ
        exact CM_vret hx hb hr hlocks hAe hP hD hS dX2_draw_85
    · replace hf := ifn c33 hf
      obtain ⟨rfl, rfl, rfl, rfl, rfl, rfl, rfl, rfl, rfl, rfl, rfl⟩ := inj11 hf
      subst hQ
      exact CM_vret hx hb hr hlocks hAe hP hD hS dX2_draw_35
def rmX3_volume : Room := { frames := 1, cells := 0, slots := 0, locals := 21 }
abbrev wqX3_volume : List Cond := Cond.code yX3_volume cX3_volume 5 (some .int) :: tG
set_option maxHeartbeats 4000000 in
set_option maxRecDepth 100000 in
theorem c_X3_volume (l : Launch) (dC : Nat → ClassId) (dI : Nat → Nat → Nat) (cI cZ : ClassId) (te : Nat → Nat) (h_p1 : Nat) (n_p1 : Nat) (p1 : Nat → Int32) (p2 : Int32) (p3 : Int32) (o0 : Int32) (hf : f_X3_volume n_p1 p1 p2 p3 = some o0) : CM l yX3_volume wqX3_volume rmX3_volume (kS te) dC dI cI cZ [.ref h_p1, .int p2, .int p3] [(h_p1, .inl (cI, n_p1, .inl p1))] [(h_p1, .inl (cI, n_p1, .inl p1))] (some (.int o0)) := by
  refine CM_of (cc := cX3_volume) (maxL := 5) (ret := (some .int)) (by decide +kernel) rfl (Nat.le_of_ble_eq_true rfl) ?_
  intro p e s m args below meth c A Q hx hb hr hml hown hts hlocks hA hK hP hD hS hE hQ hAe ls hl
  have hown : s.vm.findClass RX3 = some m.cls := hown
  have hl : lv_has ls 5 [(0, .ref h_p1), (1, .int p2), (2, .int p3)] := hl
  unfold f_X3_volume at hf
  refine lv_iconst (v := (0 : Int32)) hx hb dX3_volume_0 (by decide) ?_
  refine lv_istore_n (lv' := [(3, .int (0 : Int32)), (0, .ref h_p1), (1, .int p2), (2, .int p3)]) hx hb dX3_volume_1 rfl hl (by decide) rfl (fun ls hl => ?_)
  refine lv_iconst (v := (0 : Int32)) hx hb dX3_volume_2 (by decide) ?_
  refine lv_iload_n hx hb dX3_volume_3 rfl (lv_at hl 3 rfl) ?_
  refine va_mmax hx hb (hml.trans hl.1.symm) hown (hts _ (List.mem_cons_of_mem _ kw_560)) (hts _ (List.mem_cons_of_mem _ kw_8)) (hts _ (List.mem_cons_of_mem _ kw_5)) (hts _ (List.mem_cons_of_mem _ kw_9)) (Nat.le_of_ble_eq_true rfl) (Nat.le_of_ble_eq_true rfl) (Nat.zero_le _) (Nat.zero_le _) dX3_volume_4 ?_
  obtain ⟨x1, e2, hf⟩ := nm_some hf
  refine lv_tope e2 ?_
  refine lv_istore (lv' := [(4, .int x1), (3, .int (0 : Int32)), (0, .ref h_p1), (1, .int p2), (2, .int p3)]) hx hb dX3_volume_7 hl (by decide) rfl (fun ls hl => ?_)
  have L21 : ∀ (fu14 : Nat) (x11 : Int32) (x12 : Int32) (x10 : Int32), f_X3_volume_L1 p2 n_p1 p1 fu14 x11 x12 = some x10 → (∀ (H : Heap) (locs : List Loc), va_P (dC, dI) vwCl [(h_p1, .inl (cI, n_p1, .inl p1))] H → va_D A [(h_p1, .inl (cI, n_p1, .inl p1))] → va_S A s.heap H locs → ∀ ls : Array Slot, lv_has ls 5 [(3, .int x10)] → W p l e rmX3_volume s m args below meth c H locs 0 0 Q (F0 m 35 ls [])) → ∀ (H : Heap) (locs : List Loc), va_P (dC, dI) vwCl [(h_p1, .inl (cI, n_p1, .inl p1))] H → va_D A [(h_p1, .inl (cI, n_p1, .inl p1))] → va_S A s.heap H locs → ∀ ls : Array Slot, lv_has ls 5 [(0, .ref h_p1), (1, .int p2), (3, .int x11), (4, .int x12)] → W p l e rmX3_volume s m args below meth c H locs 0 0 Q (F0 m 9 ls []) := by
    intro fu14
    induction fu14 with
    | zero =>
      intro x11 x12 x10 hf
      unfold f_X3_volume_L1 at hf
      exact none_ne hf
    | succ fu14 ih13 =>
      intro x11 x12 x10 hf hX15 H locs hP hD hS ls hl
      unfold f_X3_volume_L1 at hf
      refine lv_iload hx hb dX3_volume_9 (lv_at hl 3 rfl) ?_
      refine lv_iload_n hx hb dX3_volume_11 rfl (lv_at hl 1 rfl) ?_
      refine lv_icmp_ge (tgt := 35) hx hb dX3_volume_12 (by decide) (fun c16 => ?_) (fun c16 => ?_)
      · replace hf := ifp c16 hf
        obtain rfl := inj1 hf
        exact hX15 _ _ hP hD hS _ (lv_sub hl [2] rfl)
      · replace hf := ifn c16 hf
        refine lv_iload hx hb dX3_volume_15 (lv_at hl 3 rfl) ?_
        refine lv_aload_n hx hb dX3_volume_17 rfl (lv_at hl 0 rfl) ?_
        refine va_alen hx hb hK hP 0 0 rfl rfl (v := (Int32.ofNat n_p1)) rfl dX3_volume_18 ?_
        refine lv_icmp_ge (tgt := 35) hx hb dX3_volume_19 (by decide) (fun c17 => ?_) (fun c17 => ?_)
        · replace hf := ifp c17 hf
          obtain rfl := inj1 hf
          exact hX15 _ _ hP hD hS _ (lv_sub hl [2] rfl)
        · replace hf := ifn c17 hf
          refine lv_iload_n hx hb dX3_volume_22 rfl (lv_at hl 2 rfl) ?_
          refine lv_aload_n hx hb dX3_volume_23 rfl (lv_at hl 0 rfl) ?_
          refine lv_iload hx hb dX3_volume_24 (lv_at hl 3 rfl) ?_
          obtain ⟨g18, hf⟩ := chk_some hf
          refine va_iald hx hb hK hP 0 0 rfl rfl (gin_in g18) dX3_volume_26 ?_
          refine lv_iadd hx hb dX3_volume_27 ?_
          obtain ⟨x19, e20, hf⟩ := nm_some hf
          refine lv_tope e20 ?_
          refine lv_istore_n (lv' := [(3, .int x19), (0, .ref h_p1), (1, .int p2), (4, .int x12)]) hx hb dX3_volume_28 rfl hl (by decide) rfl (fun ls hl => ?_)
          refine lv_iinc (v := (x12 + (1 : Int32))) (lv' := [(4, .int (x12 + (1 : Int32))), (3, .int x19), (0, .ref h_p1), (1, .int p2)]) hx hb dX3_volume_29 hl (k := 3) rfl rfl (by decide) rfl (fun ls hl => ?_)
          refine lv_goto (tgt := 9) hx hb dX3_volume_32 (by decide) ?_
          exact ih13 _ _ _ hf hX15 _ _ hP hD hS _ (lv_sub hl [2, 3, 1, 0] rfl)
  obtain ⟨x10, hg, hf⟩ := bd1_some hf
  refine L21 FU _ _ _ hg ?_ _ _ hP hD hS _ (lv_sub hl [2, 3, 1, 0] rfl)
  · intro H locs hP hD hS ls hl
    refine lv_iload_n hx hb dX3_volume_35 rfl (lv_at hl 0 rfl) ?_
    obtain rfl := inj1 hf
    subst hQ
    exact CM_iret hx hb hr rfl hlocks hAe hP hD hS dX3_volume_36
def rmX3_hours : Room := { frames := 0, cells := 0, slots := 0, locals := 0 }
abbrev wqX3_hours : List Cond := Cond.code yX3_hours cX3_hours 1 (some .int) :: tG
set_option maxHeartbeats 4000000 in
set_option maxRecDepth 100000 in
theorem c_X3_hours (l : Launch) (dC : Nat → ClassId) (dI : Nat → Nat → Nat) (cI cZ : ClassId) (te : Nat → Nat) (h_t : Nat) (h_t_left : Nat) (t_hours : Int32) (t_greatest : Int32) (o0 : Int32) (hf : f_X3_hours t_hours = some o0) : CM l yX3_hours wqX3_hours rmX3_hours (kS te) dC dI cI cZ [.ref h_t] [(h_t, .inr (3, fX3 h_t_left t_hours t_greatest))] [(h_t, .inr (3, fX3 h_t_left t_hours t_greatest))] (some (.int o0)) := by
  refine CM_of (cc := cX3_hours) (maxL := 1) (ret := (some .int)) (by decide +kernel) rfl (Nat.le_of_ble_eq_true rfl) ?_
  intro p e s m args below meth c A Q hx hb hr hml hown hts hlocks hA hK hP hD hS hE hQ hAe ls hl
  have hown : s.vm.findClass RX3 = some m.cls := hown
  have hl : lv_has ls 1 [(0, .ref h_t)] := hl
  unfold f_X3_hours at hf
  refine lv_aload_n hx hb dX3_hours_0 rfl (lv_at hl 0 rfl) ?_
  refine va_get (D := (dC, dI)) (ci := 3) (v := .int t_hours) (C := RX3) (T := TX3) (N := 3) hx hb hts (in1 tw_X3) hown hK hP 0 rfl rfl 1 (by decide) (hts _ (List.mem_cons_of_mem _ kw_561)) (fun _ h9 => h9) rfl dX3_hours_1 ?_
  obtain rfl := inj1 hf
  subst hQ
  exact CM_iret hx hb hr rfl hlocks hAe hP hD hS dX3_hours_4
def rmX3_greatest : Room := { frames := 0, cells := 0, slots := 0, locals := 0 }
abbrev wqX3_greatest : List Cond := Cond.code yX3_greatest cX3_greatest 1 (some .int) :: tG
set_option maxHeartbeats 4000000 in
set_option maxRecDepth 100000 in
theorem c_X3_greatest (l : Launch) (dC : Nat → ClassId) (dI : Nat → Nat → Nat) (cI cZ : ClassId) (te : Nat → Nat) (h_t : Nat) (h_t_left : Nat) (t_hours : Int32) (t_greatest : Int32) (o0 : Int32) (hf : f_X3_greatest t_greatest = some o0) : CM l yX3_greatest wqX3_greatest rmX3_greatest (kS te) dC dI cI cZ [.ref h_t] [(h_t, .inr (3, fX3 h_t_left t_hours t_greatest))] [(h_t, .inr (3, fX3 h_t_left t_hours t_greatest))] (some (.int o0)) := by
  refine CM_of (cc := cX3_greatest) (maxL := 1) (ret := (some .int)) (by decide +kernel) rfl (Nat.le_of_ble_eq_true rfl) ?_
  intro p e s m args below meth c A Q hx hb hr hml hown hts hlocks hA hK hP hD hS hE hQ hAe ls hl
  have hown : s.vm.findClass RX3 = some m.cls := hown
  have hl : lv_has ls 1 [(0, .ref h_t)] := hl
  unfold f_X3_greatest at hf
  refine lv_aload_n hx hb dX3_greatest_0 rfl (lv_at hl 0 rfl) ?_
  refine va_get (D := (dC, dI)) (ci := 3) (v := .int t_greatest) (C := RX3) (T := TX3) (N := 3) hx hb hts (in1 tw_X3) hown hK hP 0 rfl rfl 2 (by decide) (hts _ (List.mem_cons_of_mem _ kw_562)) (fun _ h9 => h9) rfl dX3_greatest_1 ?_
  obtain rfl := inj1 hf
  subst hQ
  exact CM_iret hx hb hr rfl hlocks hAe hP hD hS dX3_greatest_4
def rmX3_highestWithSomething : Room := { frames := 0, cells := 0, slots := 0, locals := 0 }
abbrev wqX3_highestWithSomething : List Cond := Cond.code yX3_highestWithSomething cX3_highestWithSomething 4 (some .int) :: tG
set_option maxHeartbeats 4000000 in
set_option maxRecDepth 100000 in
theorem c_X3_highestWithSomething (l : Launch) (dC : Nat → ClassId) (dI : Nat → Nat → Nat) (cI cZ : ClassId) (te : Nat → Nat) (h_t : Nat) (h_t_left : Nat) (t_hours : Int32) (t_greatest : Int32) (t_left : Nat → Int32) (p1 : Int32) (p2 : Int32) (o0 : Int32) (hf : f_X3_highestWithSomething t_left p1 p2 = some o0) : CM l yX3_highestWithSomething wqX3_highestWithSomething rmX3_highestWithSomething (kS te) dC dI cI cZ [.ref h_t, .int p1, .int p2] [(h_t, .inr (3, fX3 h_t_left t_hours t_greatest)), (h_t_left, .inl (cI, 20, .inl t_left))] [(h_t, .inr (3, fX3 h_t_left t_hours t_greatest)), (h_t_left, .inl (cI, 20, .inl t_left))] (some (.int o0)) := by
  refine CM_of (cc := cX3_highestWithSomething) (maxL := 4) (ret := (some .int)) (by decide +kernel) rfl (Nat.le_of_ble_eq_true rfl) ?_
  intro p e s m args below meth c A Q hx hb hr hml hown hts hlocks hA hK hP hD hS hE hQ hAe ls hl
  have hown : s.vm.findClass RX3 = some m.cls := hown
  have hl : lv_has ls 4 [(0, .ref h_t), (1, .int p1), (2, .int p2)] := hl
  unfold f_X3_highestWithSomething at hf
  refine lv_iload_n hx hb dX3_highestWithSomething_0 rfl (lv_at hl 1 rfl) ?_
  refine lv_istore_n (lv' := [(3, .int p1), (0, .ref h_t), (1, .int p1), (2, .int p2)]) hx hb dX3_highestWithSomething_1 rfl hl (by decide) rfl (fun ls hl => ?_)
  have L15 : ∀ (fu9 : Nat) (x7 : Int32) (x6 : Int32), f_X3_highestWithSomething_L1 p2 t_left fu9 x7 = some x6 → (∀ (H : Heap) (locs : List Loc), va_P (dC, dI) vwCl [(h_t, .inr (3, fX3 h_t_left t_hours t_greatest)), (h_t_left, .inl (cI, 20, .inl t_left))] H → va_D A [(h_t, .inr (3, fX3 h_t_left t_hours t_greatest)), (h_t_left, .inl (cI, 20, .inl t_left))] → va_S A s.heap H locs → ∀ ls : Array Slot, lv_has ls 4 [(3, .int x6)] → W p l e rmX3_highestWithSomething s m args below meth c H locs 0 0 Q (F0 m 26 ls [])) → ∀ (H : Heap) (locs : List Loc), va_P (dC, dI) vwCl [(h_t, .inr (3, fX3 h_t_left t_hours t_greatest)), (h_t_left, .inl (cI, 20, .inl t_left))] H → va_D A [(h_t, .inr (3, fX3 h_t_left t_hours t_greatest)), (h_t_left, .inl (cI, 20, .inl t_left))] → va_S A s.heap H locs → ∀ ls : Array Slot, lv_has ls 4 [(0, .ref h_t), (2, .int p2), (3, .int x7)] → W p l e rmX3_highestWithSomething s m args below meth c H locs 0 0 Q (F0 m 2 ls []) := by
    intro fu9
    induction fu9 with
    | zero =>
      intro x7 x6 hf
      unfold f_X3_highestWithSomething_L1 at hf
      exact none_ne hf
    | succ fu9 ih8 =>
      intro x7 x6 hf hX10 H locs hP hD hS ls hl
      unfold f_X3_highestWithSomething_L1 at hf
      refine lv_iload_n hx hb dX3_highestWithSomething_2 rfl (lv_at hl 2 rfl) ?_
      refine lv_iload_n hx hb dX3_highestWithSomething_3 rfl (lv_at hl 1 rfl) ?_
      refine lv_icmp_le (tgt := 26) hx hb dX3_highestWithSomething_4 (by decide) (fun c11 => ?_) (fun c11 => ?_)
      · replace hf := ifp c11 hf
        obtain rfl := inj1 hf
        exact hX10 _ _ hP hD hS _ (lv_sub hl [2] rfl)
      · replace hf := ifn c11 hf
        refine lv_iload_n hx hb dX3_highestWithSomething_7 rfl (lv_at hl 2 rfl) ?_
        refine lv_if_le (tgt := 26) hx hb dX3_highestWithSomething_8 (by decide) (fun c12 => ?_) (fun c12 => ?_)
        · replace hf := ifp c12 hf
          obtain rfl := inj1 hf
          exact hX10 _ _ hP hD hS _ (lv_sub hl [2] rfl)
        · replace hf := ifn c12 hf
          refine lv_aload_n hx hb dX3_highestWithSomething_11 rfl (lv_at hl 0 rfl) ?_
          refine va_get (D := (dC, dI)) (ci := 3) (v := .ref h_t_left) (C := RX3) (T := TX3) (N := 3) hx hb hts (in1 tw_X3) hown hK hP 0 rfl rfl 0 (by decide) (hts _ (List.mem_cons_of_mem _ kw_62)) (fun _ h9 => h9) rfl dX3_highestWithSomething_12 ?_
          refine lv_iload_n hx hb dX3_highestWithSomething_15 rfl (lv_at hl 2 rfl) ?_
          obtain ⟨g13, hf⟩ := chk_some hf
          refine va_iald hx hb hK hP 1 0 rfl rfl (gin_in g13) dX3_highestWithSomething_16 ?_
          refine lv_if_ne (tgt := 26) hx hb dX3_highestWithSomething_17 (by decide) (fun c14 => ?_) (fun c14 => ?_)
          · replace hf := ifn c14 hf
            obtain rfl := inj1 hf
            exact hX10 _ _ hP hD hS _ (lv_sub hl [2] rfl)
          · replace hf := ifp c14 hf
            refine lv_iinc (v := (x7 + (-1 : Int32))) (lv' := [(3, .int (x7 + (-1 : Int32))), (0, .ref h_t), (2, .int p2)]) hx hb dX3_highestWithSomething_20 hl (k := 2) rfl rfl (by decide) rfl (fun ls hl => ?_)
            refine lv_goto (tgt := 2) hx hb dX3_highestWithSomething_23 (by decide) ?_
            exact ih8 _ _ hf hX10 _ _ hP hD hS _ (lv_sub hl [1, 2, 0] rfl)
  obtain ⟨x6, hg, hf⟩ := bd1_some hf
  refine L15 FU _ _ hg ?_ _ _ hP hD hS _ (lv_sub hl [1, 3, 0] rfl)
  · intro H locs hP hD hS ls hl
    refine lv_iload_n hx hb dX3_highestWithSomething_26 rfl (lv_at hl 0 rfl) ?_
    obtain rfl := inj1 hf
    subst hQ
    exact CM_iret hx hb hr rfl hlocks hAe hP hD hS dX3_highestWithSomething_27
def rmX3_drain : Room := { frames := 1, cells := 0, slots := 0, locals := 21 }
abbrev wqX3_drain : List Cond := Cond.code yX3_drain cX3_drain 7 none :: tG
set_option maxHeartbeats 4000000 in
set_option maxRecDepth 100000 in
theorem c_X3_drain (l : Launch) (dC : Nat → ClassId) (dI : Nat → Nat → Nat) (cI cZ : ClassId) (te : Nat → Nat) (h_t : Nat) (h_t_left : Nat) (t_hours : Int32) (t_greatest : Int32) (t_left : Nat → Int32) (p1 : Int32) (p2 : Int32) (p3 : Int32) (o0 : Nat → Int32) (hf : f_X3_drain t_left p1 p2 p3 = some o0) : CM l yX3_drain wqX3_drain rmX3_drain (kS te) dC dI cI cZ [.ref h_t, .int p1, .int p2, .int p3] [(h_t, .inr (3, fX3 h_t_left t_hours t_greatest)), (h_t_left, .inl (cI, 20, .inl t_left))] [(h_t, .inr (3, fX3 h_t_left t_hours t_greatest)), (h_t_left, .inl (cI, 20, .inl o0))] none := by
  refine CM_of (cc := cX3_drain) (maxL := 7) (ret := none) (by decide +kernel) rfl (Nat.le_of_ble_eq_true rfl) ?_
  intro p e s m args below meth c A Q hx hb hr hml hown hts hlocks hA hK hP hD hS hE hQ hAe ls hl
  have hown : s.vm.findClass RX3 = some m.cls := hown
  have hl : lv_has ls 7 [(0, .ref h_t), (1, .int p1), (2, .int p2), (3, .int p3)] := hl
  unfold f_X3_drain at hf
  refine lv_iload_n hx hb dX3_drain_0 rfl (lv_at hl 3 rfl) ?_
  refine lv_istore (lv' := [(4, .int p3), (0, .ref h_t), (1, .int p1), (2, .int p2), (3, .int p3)]) hx hb dX3_drain_1 hl (by decide) rfl (fun ls hl => ?_)
  refine lv_iload_n hx hb dX3_drain_3 rfl (lv_at hl 2 rfl) ?_
  refine lv_istore (lv' := [(5, .int p1), (4, .int p3), (0, .ref h_t), (1, .int p1), (2, .int p2), (3, .int p3)]) hx hb dX3_drain_4 hl (by decide) rfl (fun ls hl => ?_)
  have L37 : ∀ (fu22 : Nat) (y18 : Nat → Int32) (x19 : Int32) (x20 : Int32) (y17 : Nat → Int32), f_X3_drain_L1 p2 fu22 y18 x19 x20 = some y17 → (∀ (H : Heap) (locs : List Loc), va_P (dC, dI) vwCl [(h_t, .inr (3, fX3 h_t_left t_hours t_greatest)), (h_t_left, .inl (cI, 20, .inl y17))] H → va_D A [(h_t, .inr (3, fX3 h_t_left t_hours t_greatest)), (h_t_left, .inl (cI, 20, .inl y17))] → va_S A s.heap H locs → ∀ ls : Array Slot, lv_has ls 7 [] → W p l e rmX3_drain s m args below meth c H locs 0 0 Q (F0 m 56 ls [])) → ∀ (H : Heap) (locs : List Loc), va_P (dC, dI) vwCl [(h_t, .inr (3, fX3 h_t_left t_hours t_greatest)), (h_t_left, .inl (cI, 20, .inl y18))] H → va_D A [(h_t, .inr (3, fX3 h_t_left t_hours t_greatest)), (h_t_left, .inl (cI, 20, .inl y18))] → va_S A s.heap H locs → ∀ ls : Array Slot, lv_has ls 7 [(0, .ref h_t), (2, .int p2), (4, .int x19), (5, .int x20)] → W p l e rmX3_drain s m args below meth c H locs 0 0 Q (F0 m 6 ls []) := by
    intro fu22
    induction fu22 with
    | zero =>
      intro y18 x19 x20 y17 hf
      unfold f_X3_drain_L1 at hf
      exact none_ne hf
    | succ fu22 ih21 =>
      intro y18 x19 x20 y17 hf hX23 H locs hP hD hS ls hl
      unfold f_X3_drain_L1 at hf
      refine lv_iload hx hb dX3_drain_6 (lv_at hl 3 rfl) ?_
      refine lv_iload_n hx hb dX3_drain_8 rfl (lv_at hl 1 rfl) ?_
      refine lv_icmp_lt (tgt := 56) hx hb dX3_drain_9 (by decide) (fun c24 => ?_) (fun c24 => ?_)
      · replace hf := ifp c24 hf
        obtain rfl := inj1 hf
        exact hX23 _ _ hP hD hS _ (lv_sub hl [] rfl)
      · replace hf := ifn c24 hf
        refine lv_iload hx hb dX3_drain_12 (lv_at hl 3 rfl) ?_
        refine lv_if_lt (tgt := 56) hx hb dX3_drain_14 (by decide) (fun c25 => ?_) (fun c25 => ?_)
        · replace hf := ifp c25 hf
          obtain rfl := inj1 hf
          exact hX23 _ _ hP hD hS _ (lv_sub hl [] rfl)
        · replace hf := ifn c25 hf
          refine lv_iload hx hb dX3_drain_17 (lv_at hl 2 rfl) ?_
          refine lv_aload_n hx hb dX3_drain_19 rfl (lv_at hl 0 rfl) ?_
          refine va_get (D := (dC, dI)) (ci := 3) (v := .ref h_t_left) (C := RX3) (T := TX3) (N := 3) hx hb hts (in1 tw_X3) hown hK hP 0 rfl rfl 0 (by decide) (hts _ (List.mem_cons_of_mem _ kw_62)) (fun _ h9 => h9) rfl dX3_drain_20 ?_
          refine lv_iload hx hb dX3_drain_23 (lv_at hl 3 rfl) ?_
          obtain ⟨g26, hf⟩ := chk_some hf
          refine va_iald hx hb hK hP 1 0 rfl rfl (gin_in g26) dX3_drain_25 ?_
          refine va_mmin hx hb (hml.trans hl.1.symm) hown (hts _ (List.mem_cons_of_mem _ kw_563)) (hts _ (List.mem_cons_of_mem _ kw_4)) (hts _ (List.mem_cons_of_mem _ kw_5)) (hts _ (List.mem_cons_of_mem _ kw_6)) (Nat.le_of_ble_eq_true rfl) (Nat.le_of_ble_eq_true rfl) (Nat.zero_le _) (Nat.zero_le _) dX3_drain_26 ?_
          obtain ⟨x27, e28, hf⟩ := nm_some hf
          refine lv_tope e28 ?_
          refine lv_istore (lv' := [(6, .int x27), (0, .ref h_t), (2, .int p2), (4, .int x19), (5, .int x20)]) hx hb dX3_drain_29 hl (by decide) rfl (fun ls hl => ?_)
          refine lv_aload_n hx hb dX3_drain_31 rfl (lv_at hl 1 rfl) ?_
          refine va_get (D := (dC, dI)) (ci := 3) (v := .ref h_t_left) (C := RX3) (T := TX3) (N := 3) hx hb hts (in1 tw_X3) hown hK hP 0 rfl rfl 0 (by decide) (hts _ (List.mem_cons_of_mem _ kw_62)) (fun _ h9 => h9) rfl dX3_drain_32 ?_
          refine lv_iload hx hb dX3_drain_35 (lv_at hl 4 rfl) ?_
          refine lv_dup2_11 hx hb dX3_drain_37 rfl rfl ?_
          obtain ⟨g29, hf⟩ := chk_some hf
          refine va_iald hx hb hK hP 1 0 rfl rfl (gin_in g29) dX3_drain_38 ?_
          refine lv_iload hx hb dX3_drain_39 (lv_at hl 0 rfl) ?_
          refine lv_isub hx hb dX3_drain_41 ?_
          obtain ⟨x30, e31, hf⟩ := nm_some hf
          refine lv_tope e31 ?_
          obtain ⟨g32, hf⟩ := chk_some hf
          obtain ⟨y33, e34, hf⟩ := nm_some hf
          refine va_iast hx hb hK hP hD hS 1 0 rfl rfl (gin_in g32) dX3_drain_42 (fun H locs hP hD hS => ?_)
          have hP : va_P (dC, dI) vwCl [(h_t, .inr (3, fX3 h_t_left t_hours t_greatest)), (h_t_left, .inl (cI, 20, .inl y33))] H := by rw [e34]; exact hP
          have hD : va_D A [(h_t, .inr (3, fX3 h_t_left t_hours t_greatest)), (h_t_left, .inl (cI, 20, .inl y33))] := by rw [e34]; exact hD
          refine lv_iload hx hb dX3_drain_43 (lv_at hl 3 rfl) ?_
          refine lv_iload hx hb dX3_drain_45 (lv_at hl 0 rfl) ?_
          refine lv_isub hx hb dX3_drain_47 ?_
          obtain ⟨x35, e36, hf⟩ := nm_some hf
          refine lv_tope e36 ?_
          refine lv_istore (lv' := [(4, .int x35), (6, .int x27), (0, .ref h_t), (2, .int p2), (5, .int x20)]) hx hb dX3_drain_48 hl (by decide) rfl (fun ls hl => ?_)
          refine lv_iinc (v := (x20 + (-1 : Int32))) (lv' := [(5, .int (x20 + (-1 : Int32))), (4, .int x35), (6, .int x27), (0, .ref h_t), (2, .int p2)]) hx hb dX3_drain_50 hl (k := 4) rfl rfl (by decide) rfl (fun ls hl => ?_)
          refine lv_goto (tgt := 6) hx hb dX3_drain_53 (by decide) ?_
          exact ih21 _ _ _ _ hf hX23 _ _ hP hD hS _ (lv_sub hl [3, 4, 1, 0] rfl)
  obtain ⟨y17, hg, hf⟩ := bd1_some hf
  refine L37 FU _ _ _ _ hg ?_ _ _ hP hD hS _ (lv_sub hl [2, 4, 1, 0] rfl)
  · intro H locs hP hD hS ls hl
    obtain rfl := inj1 hf
    subst hQ
    exact CM_vret hx hb hr hlocks hAe hP hD hS dX3_drain_56
