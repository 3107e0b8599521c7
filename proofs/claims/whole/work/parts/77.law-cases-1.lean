set_option maxHeartbeats 8000000 in
set_option maxRecDepth 100000 in
theorem lc_core {INV : (Nat → Int32) → (Nat → Nat → Int32) → (Nat → Int32) → (Nat → Nat → Int32) → Prop} {p : Program} {l : Launch} {e : Env} {s : State} {m : MethodId} {below : List Frame} {meth : Method} {c : Code} {dC : Nat → ClassId} {dI : Nat → Nat → Nat} {cI cZ : ClassId} {te : Nat → Nat} {hx hm : Nat} {aX aM : Nat → Nat} {b L : Nat} {xs : Nat → Int32} {cells slots : Nat} {Q : State → Prop} (hL : L ≤ 3072) (C0 : lw_At p s m meth c b L xs) (hE : kS te (fun q : Nat => s.heap.size ≤ q) s s.heap) (hK : va_K (dC, dI) vwCl (kT cI cZ) s) (h : PP_core INV) {i : Nat} (hi : i + 6 ≤ L) (hcs : cells ≤ room_1.cells ∧ slots ≤ room_1.slots) {xi : Nat → Int32} {xa : Nat → Nat → Int32} {mi : Nat → Int32} {ma : Nat → Nat → Int32} (hI : INV xi xa mi ma)
    (kk : ∀ (xj : Nat → Int32) (xb : Nat → Nat → Int32) (mj : Nat → Int32) (mb : Nat → Nat → Int32), INV xj xb mj mb → ∀ (H : Heap) (locs : List Loc), va_P (dC, dI) vwCl (wW cI cZ hx hm aX aM xj xb mj mb) H → va_D (fun q : Nat => s.heap.size ≤ q) (wW cI cZ hx hm aX aM xj xb mj mb) → va_S (fun q : Nat => s.heap.size ≤ q) s.heap H locs → ∀ ls : Array Slot, lv_has ls 4 [(0, .ref b), (1, .ref hx), (2, .ref hm), (3, .int (nI i))] → W p l e room_1 s m #[Value.ref b] below meth c H locs cells slots Q (F0 m 1291 ls [])) :
    ∀ (H : Heap) (locs : List Loc), va_P (dC, dI) vwCl (wW cI cZ hx hm aX aM xi xa mi ma) H → va_D (fun q : Nat => s.heap.size ≤ q) (wW cI cZ hx hm aX aM xi xa mi ma) → va_S (fun q : Nat => s.heap.size ≤ q) s.heap H locs → ∀ ls : Array Slot, lv_has ls 4 [(0, .ref b), (1, .ref hx), (2, .ref hm), (3, .int (nI i))] → W p l e room_1 s m #[Value.ref b] below meth c H locs cells slots Q (F0 m 766 ls []) := by
  obtain ⟨hx0, hb, hr, hml, hown, hts, hX, hbl, hlocks, hgv⟩ := C0
  have hts : ∀ w ∈ tG, w.before #[Value.ref b] s = true := fun w h => hts w (List.mem_filter.mp h).1
  have hown : s.vm.findClass RL = some m.cls := hown
  have hA : ∀ q : Nat, s.heap.size ≤ q → (fun q : Nat => s.heap.size ≤ q) q := fun _ h => h
  have hbA : ¬ (fun q : Nat => s.heap.size ≤ q) b := Nat.not_le.mpr hbl
  intro H locs hP hD hS ls hl
  refine lv_aload_n hx0 hb dL_law_766 rfl (lv_at hl 1 rfl) ?_
  obtain ⟨r, xj, xb, mj, mb, hcX, hcM, hI2⟩ := O_core l dC dI cI cZ te hx hm aX aM h xi xa mi ma hI
  refine CM_callW (C := RX9) (As := []) (rest := []) (v := some (.int r)) ⟨hx0, hb, hml, hown, hts⟩ hcX (cwV 0 hts (gV0 kw_1017 kw_1018 kw_1019 kw_695 kw_1020) rfl rfl rfl (by decide +kernel) ⟨Nat.le_of_ble_eq_true rfl, Nat.le_of_ble_eq_true rfl⟩) (kS_env te) hK hP hD hS hA hE 0 7 rfl rfl rfl rfl hl.1 rfl (Nat.le_of_ble_eq_true rfl) dL_law_767 hcs (fun H locs hP hD hS => ?_)
  show W p l e room_1 s m #[Value.ref b] below meth c H locs cells slots Q (F0 m 770 ls [.int r])
  refine lv_aload_n hx0 hb dL_law_770 rfl (lv_at hl 2 rfl) ?_
  refine CM_callW (C := RX10) (As := []) (rest := [.int r]) (v := some (.int r)) ⟨hx0, hb, hml, hown, hts⟩ hcM (cwV 0 hts (gV0 kw_1021 kw_1022 kw_1023 kw_159 kw_1024) rfl rfl rfl (by decide +kernel) ⟨Nat.le_of_ble_eq_true rfl, Nat.le_of_ble_eq_true rfl⟩) (kS_env te) hK hP hD hS hA hE 90 8 rfl rfl rfl rfl hl.1 rfl (Nat.le_of_ble_eq_true rfl) dL_law_771 hcs (fun H locs hP hD hS => ?_)
  show W p l e room_1 s m #[Value.ref b] below meth c H locs cells slots Q (F0 m 774 ls [.int r, .int r])
  refine lv_icmp_eq (tgt := 1291) hx0 hb dL_law_774 (by decide) (fun _ => ?_) (fun hne => absurd rfl hne)
  exact kk _ _ _ _ hI2 _ _ hP hD hS _ hl
set_option maxHeartbeats 8000000 in
set_option maxRecDepth 100000 in
theorem lc_parted {INV : (Nat → Int32) → (Nat → Nat → Int32) → (Nat → Int32) → (Nat → Nat → Int32) → Prop} {p : Program} {l : Launch} {e : Env} {s : State} {m : MethodId} {below : List Frame} {meth : Method} {c : Code} {dC : Nat → ClassId} {dI : Nat → Nat → Nat} {cI cZ : ClassId} {te : Nat → Nat} {hx hm : Nat} {aX aM : Nat → Nat} {b L : Nat} {xs : Nat → Int32} {cells slots : Nat} {Q : State → Prop} (hL : L ≤ 3072) (C0 : lw_At p s m meth c b L xs) (hE : kS te (fun q : Nat => s.heap.size ≤ q) s s.heap) (hK : va_K (dC, dI) vwCl (kT cI cZ) s) (h : PP_parted INV) {i : Nat} (hi : i + 6 ≤ L) (hcs : cells ≤ room_1.cells ∧ slots ≤ room_1.slots) {xi : Nat → Int32} {xa : Nat → Nat → Int32} {mi : Nat → Int32} {ma : Nat → Nat → Int32} (hI : INV xi xa mi ma)
    (kk : ∀ (xj : Nat → Int32) (xb : Nat → Nat → Int32) (mj : Nat → Int32) (mb : Nat → Nat → Int32), INV xj xb mj mb → ∀ (H : Heap) (locs : List Loc), va_P (dC, dI) vwCl (wW cI cZ hx hm aX aM xj xb mj mb) H → va_D (fun q : Nat => s.heap.size ≤ q) (wW cI cZ hx hm aX aM xj xb mj mb) → va_S (fun q : Nat => s.heap.size ≤ q) s.heap H locs → ∀ ls : Array Slot, lv_has ls 4 [(0, .ref b), (1, .ref hx), (2, .ref hm), (3, .int (nI i))] → W p l e room_1 s m #[Value.ref b] below meth c H locs cells slots Q (F0 m 1291 ls [])) :
    ∀ (H : Heap) (locs : List Loc), va_P (dC, dI) vwCl (wW cI cZ hx hm aX aM xi xa mi ma) H → va_D (fun q : Nat => s.heap.size ≤ q) (wW cI cZ hx hm aX aM xi xa mi ma) → va_S (fun q : Nat => s.heap.size ≤ q) s.heap H locs → ∀ ls : Array Slot, lv_has ls 4 [(0, .ref b), (1, .ref hx), (2, .ref hm), (3, .int (nI i))] → W p l e room_1 s m #[Value.ref b] below meth c H locs cells slots Q (F0 m 779 ls []) := by
  obtain ⟨hx0, hb, hr, hml, hown, hts, hX, hbl, hlocks, hgv⟩ := C0
  have hts : ∀ w ∈ tG, w.before #[Value.ref b] s = true := fun w h => hts w (List.mem_filter.mp h).1
  have hown : s.vm.findClass RL = some m.cls := hown
  have hA : ∀ q : Nat, s.heap.size ≤ q → (fun q : Nat => s.heap.size ≤ q) q := fun _ h => h
  have hbA : ¬ (fun q : Nat => s.heap.size ≤ q) b := Nat.not_le.mpr hbl
  intro H locs hP hD hS ls hl
  refine lv_aload_n hx0 hb dL_law_779 rfl (lv_at hl 1 rfl) ?_
  obtain ⟨r, xj, xb, mj, mb, hcX, hcM, hI2⟩ := O_parted l dC dI cI cZ te hx hm aX aM h xi xa mi ma hI
  refine CM_callW (C := RX9) (As := []) (rest := []) (v := some (.int r)) ⟨hx0, hb, hml, hown, hts⟩ hcX (cwV 0 hts (gV0 kw_1025 kw_1026 kw_1027 kw_695 kw_1028) rfl rfl rfl (by decide +kernel) ⟨Nat.le_of_ble_eq_true rfl, Nat.le_of_ble_eq_true rfl⟩) (kS_env te) hK hP hD hS hA hE 0 7 rfl rfl rfl rfl hl.1 rfl (Nat.le_of_ble_eq_true rfl) dL_law_780 hcs (fun H locs hP hD hS => ?_)
  show W p l e room_1 s m #[Value.ref b] below meth c H locs cells slots Q (F0 m 783 ls [.int r])
  refine lv_aload_n hx0 hb dL_law_783 rfl (lv_at hl 2 rfl) ?_
  refine CM_callW (C := RX10) (As := []) (rest := [.int r]) (v := some (.int r)) ⟨hx0, hb, hml, hown, hts⟩ hcM (cwV 0 hts (gV0 kw_1029 kw_1030 kw_1031 kw_159 kw_1032) rfl rfl rfl (by decide +kernel) ⟨Nat.le_of_ble_eq_true rfl, Nat.le_of_ble_eq_true rfl⟩) (kS_env te) hK hP hD hS hA hE 90 8 rfl rfl rfl rfl hl.1 rfl (Nat.le_of_ble_eq_true rfl) dL_law_784 hcs (fun H locs hP hD hS => ?_)
  show W p l e room_1 s m #[Value.ref b] below meth c H locs cells slots Q (F0 m 787 ls [.int r, .int r])
  refine lv_icmp_eq (tgt := 1291) hx0 hb dL_law_787 (by decide) (fun _ => ?_) (fun hne => absurd rfl hne)
  exact kk _ _ _ _ hI2 _ _ hP hD hS _ hl
set_option maxHeartbeats 8000000 in
set_option maxRecDepth 100000 in
theorem lc_sign {INV : (Nat → Int32) → (Nat → Nat → Int32) → (Nat → Int32) → (Nat → Nat → Int32) → Prop} {p : Program} {l : Launch} {e : Env} {s : State} {m : MethodId} {below : List Frame} {meth : Method} {c : Code} {dC : Nat → ClassId} {dI : Nat → Nat → Nat} {cI cZ : ClassId} {te : Nat → Nat} {hx hm : Nat} {aX aM : Nat → Nat} {b L : Nat} {xs : Nat → Int32} {cells slots : Nat} {Q : State → Prop} (hL : L ≤ 3072) (C0 : lw_At p s m meth c b L xs) (hE : kS te (fun q : Nat => s.heap.size ≤ q) s s.heap) (hK : va_K (dC, dI) vwCl (kT cI cZ) s) (h : PP_sign INV) {i : Nat} (hi : i + 6 ≤ L) (hcs : cells ≤ room_1.cells ∧ slots ≤ room_1.slots) {xi : Nat → Int32} {xa : Nat → Nat → Int32} {mi : Nat → Int32} {ma : Nat → Nat → Int32} (hI : INV xi xa mi ma)
    (kk : ∀ (xj : Nat → Int32) (xb : Nat → Nat → Int32) (mj : Nat → Int32) (mb : Nat → Nat → Int32), INV xj xb mj mb → ∀ (H : Heap) (locs : List Loc), va_P (dC, dI) vwCl (wW cI cZ hx hm aX aM xj xb mj mb) H → va_D (fun q : Nat => s.heap.size ≤ q) (wW cI cZ hx hm aX aM xj xb mj mb) → va_S (fun q : Nat => s.heap.size ≤ q) s.heap H locs → ∀ ls : Array Slot, lv_has ls 4 [(0, .ref b), (1, .ref hx), (2, .ref hm), (3, .int (nI i))] → W p l e room_1 s m #[Value.ref b] below meth c H locs cells slots Q (F0 m 1291 ls [])) :
    ∀ (H : Heap) (locs : List Loc), va_P (dC, dI) vwCl (wW cI cZ hx hm aX aM xi xa mi ma) H → va_D (fun q : Nat => s.heap.size ≤ q) (wW cI cZ hx hm aX aM xi xa mi ma) → va_S (fun q : Nat => s.heap.size ≤ q) s.heap H locs → ∀ ls : Array Slot, lv_has ls 4 [(0, .ref b), (1, .ref hx), (2, .ref hm), (3, .int (nI i))] → W p l e room_1 s m #[Value.ref b] below meth c H locs cells slots Q (F0 m 792 ls []) := by
  obtain ⟨hx0, hb, hr, hml, hown, hts, hX, hbl, hlocks, hgv⟩ := C0
  have hts : ∀ w ∈ tG, w.before #[Value.ref b] s = true := fun w h => hts w (List.mem_filter.mp h).1
  have hown : s.vm.findClass RL = some m.cls := hown
  have hA : ∀ q : Nat, s.heap.size ≤ q → (fun q : Nat => s.heap.size ≤ q) q := fun _ h => h
  have hbA : ¬ (fun q : Nat => s.heap.size ≤ q) b := Nat.not_le.mpr hbl
  intro H locs hP hD hS ls hl
  refine lv_aload_n hx0 hb dL_law_792 rfl (lv_at hl 1 rfl) ?_
  refine lv_aload_n hx0 hb dL_law_793 rfl (lv_at hl 0 rfl) ?_
  refine lv_iload_n hx0 hb dL_law_794 rfl (lv_at hl 3 rfl) ?_
  refine lv_iconst (v := (1 : Int32)) hx0 hb dL_law_795 (by decide) ?_
  refine lv_iadd hx0 hb dL_law_796 ?_
  refine va_sld hx0 hb hX hbl hbA hS (vin (k := 1) (by omega) hL) dL_law_797 ?_
  refine lv_aload_n hx0 hb dL_law_798 rfl (lv_at hl 0 rfl) ?_
  refine lv_iload_n hx0 hb dL_law_799 rfl (lv_at hl 3 rfl) ?_
  refine lv_iconst (v := (2 : Int32)) hx0 hb dL_law_800 (by decide) ?_
  refine lv_iadd hx0 hb dL_law_801 ?_
  refine va_sld hx0 hb hX hbl hbA hS (vin (k := 2) (by omega) hL) dL_law_802 ?_
  refine lv_aload_n hx0 hb dL_law_803 rfl (lv_at hl 0 rfl) ?_
  refine lv_iload_n hx0 hb dL_law_804 rfl (lv_at hl 3 rfl) ?_
  refine lv_iconst (v := (3 : Int32)) hx0 hb dL_law_805 (by decide) ?_
  refine lv_iadd hx0 hb dL_law_806 ?_
  refine va_sld hx0 hb hX hbl hbA hS (vin (k := 3) (by omega) hL) dL_law_807 ?_
  refine lv_aload_n hx0 hb dL_law_808 rfl (lv_at hl 0 rfl) ?_
  refine lv_iload_n hx0 hb dL_law_809 rfl (lv_at hl 3 rfl) ?_
  refine lv_iconst (v := (4 : Int32)) hx0 hb dL_law_810 (by decide) ?_
  refine lv_iadd hx0 hb dL_law_811 ?_
  refine va_sld hx0 hb hX hbl hbA hS (vin (k := 4) (by omega) hL) dL_law_812 ?_
  obtain ⟨r, xj, xb, mj, mb, hcX, hcM, hI2⟩ := O_sign l dC dI cI cZ te hx hm aX aM h (xs ((nI i) + (1 : Int32)).toNatClampNeg) (xs ((nI i) + (2 : Int32)).toNatClampNeg) (xs ((nI i) + (3 : Int32)).toNatClampNeg) (xs ((nI i) + (4 : Int32)).toNatClampNeg) xi xa mi ma hI
  refine CM_callW (C := RX9) (As := [.int (xs ((nI i) + (1 : Int32)).toNatClampNeg), .int (xs ((nI i) + (2 : Int32)).toNatClampNeg), .int (xs ((nI i) + (3 : Int32)).toNatClampNeg), .int (xs ((nI i) + (4 : Int32)).toNatClampNeg)]) (rest := []) (v := some (.int r)) ⟨hx0, hb, hml, hown, hts⟩ hcX (cwV 4 hts (gV0 kw_1033 kw_873 kw_874 kw_695 kw_875) rfl rfl rfl (by decide +kernel) ⟨Nat.le_of_ble_eq_true rfl, Nat.le_of_ble_eq_true rfl⟩) (kS_env te) hK hP hD hS hA hE 0 7 rfl rfl rfl rfl hl.1 rfl (Nat.le_of_ble_eq_true rfl) dL_law_813 hcs (fun H locs hP hD hS => ?_)
  show W p l e room_1 s m #[Value.ref b] below meth c H locs cells slots Q (F0 m 816 ls [.int r])
  refine lv_aload_n hx0 hb dL_law_816 rfl (lv_at hl 2 rfl) ?_
  refine lv_aload_n hx0 hb dL_law_817 rfl (lv_at hl 0 rfl) ?_
  refine lv_iload_n hx0 hb dL_law_818 rfl (lv_at hl 3 rfl) ?_
  refine lv_iconst (v := (1 : Int32)) hx0 hb dL_law_819 (by decide) ?_
  refine lv_iadd hx0 hb dL_law_820 ?_
  refine va_sld hx0 hb hX hbl hbA hS (vin (k := 1) (by omega) hL) dL_law_821 ?_
  refine lv_aload_n hx0 hb dL_law_822 rfl (lv_at hl 0 rfl) ?_
  refine lv_iload_n hx0 hb dL_law_823 rfl (lv_at hl 3 rfl) ?_
  refine lv_iconst (v := (2 : Int32)) hx0 hb dL_law_824 (by decide) ?_
  refine lv_iadd hx0 hb dL_law_825 ?_
  refine va_sld hx0 hb hX hbl hbA hS (vin (k := 2) (by omega) hL) dL_law_826 ?_
  refine lv_aload_n hx0 hb dL_law_827 rfl (lv_at hl 0 rfl) ?_
  refine lv_iload_n hx0 hb dL_law_828 rfl (lv_at hl 3 rfl) ?_
  refine lv_iconst (v := (3 : Int32)) hx0 hb dL_law_829 (by decide) ?_
  refine lv_iadd hx0 hb dL_law_830 ?_
  refine va_sld hx0 hb hX hbl hbA hS (vin (k := 3) (by omega) hL) dL_law_831 ?_
  refine lv_aload_n hx0 hb dL_law_832 rfl (lv_at hl 0 rfl) ?_
  refine lv_iload_n hx0 hb dL_law_833 rfl (lv_at hl 3 rfl) ?_
  refine lv_iconst (v := (4 : Int32)) hx0 hb dL_law_834 (by decide) ?_
  refine lv_iadd hx0 hb dL_law_835 ?_
  refine va_sld hx0 hb hX hbl hbA hS (vin (k := 4) (by omega) hL) dL_law_836 ?_
  refine CM_callW (C := RX10) (As := [.int (xs ((nI i) + (1 : Int32)).toNatClampNeg), .int (xs ((nI i) + (2 : Int32)).toNatClampNeg), .int (xs ((nI i) + (3 : Int32)).toNatClampNeg), .int (xs ((nI i) + (4 : Int32)).toNatClampNeg)]) (rest := [.int r]) (v := some (.int r)) ⟨hx0, hb, hml, hown, hts⟩ hcM (cwV 4 hts (gV0 kw_1034 kw_383 kw_384 kw_159 kw_385) rfl rfl rfl (by decide +kernel) ⟨Nat.le_of_ble_eq_true rfl, Nat.le_of_ble_eq_true rfl⟩) (kS_env te) hK hP hD hS hA hE 90 8 rfl rfl rfl rfl hl.1 rfl (Nat.le_of_ble_eq_true rfl) dL_law_837 hcs (fun H locs hP hD hS => ?_)
  show W p l e room_1 s m #[Value.ref b] below meth c H locs cells slots Q (F0 m 840 ls [.int r, .int r])
  refine lv_icmp_eq (tgt := 1291) hx0 hb dL_law_840 (by decide) (fun _ => ?_) (fun hne => absurd rfl hne)
  exact kk _ _ _ _ hI2 _ _ hP hD hS _ hl
set_option maxHeartbeats 8000000 in
set_option maxRecDepth 100000 in
theorem lc_stand {INV : (Nat → Int32) → (Nat → Nat → Int32) → (Nat → Int32) → (Nat → Nat → Int32) → Prop} {p : Program} {l : Launch} {e : Env} {s : State} {m : MethodId} {below : List Frame} {meth : Method} {c : Code} {dC : Nat → ClassId} {dI : Nat → Nat → Nat} {cI cZ : ClassId} {te : Nat → Nat} {hx hm : Nat} {aX aM : Nat → Nat} {b L : Nat} {xs : Nat → Int32} {cells slots : Nat} {Q : State → Prop} (hL : L ≤ 3072) (C0 : lw_At p s m meth c b L xs) (hE : kS te (fun q : Nat => s.heap.size ≤ q) s s.heap) (hK : va_K (dC, dI) vwCl (kT cI cZ) s) (h : PP_stand INV) {i : Nat} (hi : i + 6 ≤ L) (hcs : cells ≤ room_1.cells ∧ slots ≤ room_1.slots) {xi : Nat → Int32} {xa : Nat → Nat → Int32} {mi : Nat → Int32} {ma : Nat → Nat → Int32} (hI : INV xi xa mi ma)
    (kk : ∀ (xj : Nat → Int32) (xb : Nat → Nat → Int32) (mj : Nat → Int32) (mb : Nat → Nat → Int32), INV xj xb mj mb → ∀ (H : Heap) (locs : List Loc), va_P (dC, dI) vwCl (wW cI cZ hx hm aX aM xj xb mj mb) H → va_D (fun q : Nat => s.heap.size ≤ q) (wW cI cZ hx hm aX aM xj xb mj mb) → va_S (fun q : Nat => s.heap.size ≤ q) s.heap H locs → ∀ ls : Array Slot, lv_has ls 4 [(0, .ref b), (1, .ref hx), (2, .ref hm), (3, .int (nI i))] → W p l e room_1 s m #[Value.ref b] below meth c H locs cells slots Q (F0 m 1291 ls [])) :
    ∀ (H : Heap) (locs : List Loc), va_P (dC, dI) vwCl (wW cI cZ hx hm aX aM xi xa mi ma) H → va_D (fun q : Nat => s.heap.size ≤ q) (wW cI cZ hx hm aX aM xi xa mi ma) → va_S (fun q : Nat => s.heap.size ≤ q) s.heap H locs → ∀ ls : Array Slot, lv_has ls 4 [(0, .ref b), (1, .ref hx), (2, .ref hm), (3, .int (nI i))] → W p l e room_1 s m #[Value.ref b] below meth c H locs cells slots Q (F0 m 845 ls []) := by
  obtain ⟨hx0, hb, hr, hml, hown, hts, hX, hbl, hlocks, hgv⟩ := C0
  have hts : ∀ w ∈ tG, w.before #[Value.ref b] s = true := fun w h => hts w (List.mem_filter.mp h).1
  have hown : s.vm.findClass RL = some m.cls := hown
  have hA : ∀ q : Nat, s.heap.size ≤ q → (fun q : Nat => s.heap.size ≤ q) q := fun _ h => h
  have hbA : ¬ (fun q : Nat => s.heap.size ≤ q) b := Nat.not_le.mpr hbl
  intro H locs hP hD hS ls hl
  refine lv_aload_n hx0 hb dL_law_845 rfl (lv_at hl 1 rfl) ?_
  refine lv_aload_n hx0 hb dL_law_846 rfl (lv_at hl 0 rfl) ?_
  refine lv_iload_n hx0 hb dL_law_847 rfl (lv_at hl 3 rfl) ?_
  refine lv_iconst (v := (1 : Int32)) hx0 hb dL_law_848 (by decide) ?_
  refine lv_iadd hx0 hb dL_law_849 ?_
  refine va_sld hx0 hb hX hbl hbA hS (vin (k := 1) (by omega) hL) dL_law_850 ?_
  obtain ⟨r, xj, xb, mj, mb, hcX, hcM, hI2⟩ := O_stand l dC dI cI cZ te hx hm aX aM h (xs ((nI i) + (1 : Int32)).toNatClampNeg) xi xa mi ma hI
  refine CM_callW (C := RX9) (As := [.int (xs ((nI i) + (1 : Int32)).toNatClampNeg)]) (rest := []) (v := some (.int r)) ⟨hx0, hb, hml, hown, hts⟩ hcX (cwV 1 hts (gV0 kw_1035 kw_1036 kw_1037 kw_695 kw_1038) rfl rfl rfl (by decide +kernel) ⟨Nat.le_of_ble_eq_true rfl, Nat.le_of_ble_eq_true rfl⟩) (kS_env te) hK hP hD hS hA hE 0 7 rfl rfl rfl rfl hl.1 rfl (Nat.le_of_ble_eq_true rfl) dL_law_851 hcs (fun H locs hP hD hS => ?_)
  show W p l e room_1 s m #[Value.ref b] below meth c H locs cells slots Q (F0 m 854 ls [.int r])
  refine lv_aload_n hx0 hb dL_law_854 rfl (lv_at hl 2 rfl) ?_
  refine lv_aload_n hx0 hb dL_law_855 rfl (lv_at hl 0 rfl) ?_
  refine lv_iload_n hx0 hb dL_law_856 rfl (lv_at hl 3 rfl) ?_
  refine lv_iconst (v := (1 : Int32)) hx0 hb dL_law_857 (by decide) ?_
  refine lv_iadd hx0 hb dL_law_858 ?_
  refine va_sld hx0 hb hX hbl hbA hS (vin (k := 1) (by omega) hL) dL_law_859 ?_
  refine CM_callW (C := RX10) (As := [.int (xs ((nI i) + (1 : Int32)).toNatClampNeg)]) (rest := [.int r]) (v := some (.int r)) ⟨hx0, hb, hml, hown, hts⟩ hcM (cwV 1 hts (gV0 kw_1039 kw_1040 kw_1041 kw_159 kw_1042) rfl rfl rfl (by decide +kernel) ⟨Nat.le_of_ble_eq_true rfl, Nat.le_of_ble_eq_true rfl⟩) (kS_env te) hK hP hD hS hA hE 90 8 rfl rfl rfl rfl hl.1 rfl (Nat.le_of_ble_eq_true rfl) dL_law_860 hcs (fun H locs hP hD hS => ?_)
  show W p l e room_1 s m #[Value.ref b] below meth c H locs cells slots Q (F0 m 863 ls [.int r, .int r])
  refine lv_icmp_eq (tgt := 1291) hx0 hb dL_law_863 (by decide) (fun _ => ?_) (fun hne => absurd rfl hne)
  exact kk _ _ _ _ hI2 _ _ hP hD hS _ hl
set_option maxHeartbeats 8000000 in
set_option maxRecDepth 100000 in
theorem lc_area {INV : (Nat → Int32) → (Nat → Nat → Int32) → (Nat → Int32) → (Nat → Nat → Int32) → Prop} {p : Program} {l : Launch} {e : Env} {s : State} {m : MethodId} {below : List Frame} {meth : Method} {c : Code} {dC : Nat → ClassId} {dI : Nat → Nat → Nat} {cI cZ : ClassId} {te : Nat → Nat} {hx hm : Nat} {aX aM : Nat → Nat} {b L : Nat} {xs : Nat → Int32} {cells slots : Nat} {Q : State → Prop} (hL : L ≤ 3072) (C0 : lw_At p s m meth c b L xs) (hE : kS te (fun q : Nat => s.heap.size ≤ q) s s.heap) (hK : va_K (dC, dI) vwCl (kT cI cZ) s) (h : PP_area INV) {i : Nat} (hi : i + 6 ≤ L) (hcs : cells ≤ room_1.cells ∧ slots ≤ room_1.slots) {xi : Nat → Int32} {xa : Nat → Nat → Int32} {mi : Nat → Int32} {ma : Nat → Nat → Int32} (hI : INV xi xa mi ma)
    (kk : ∀ (xj : Nat → Int32) (xb : Nat → Nat → Int32) (mj : Nat → Int32) (mb : Nat → Nat → Int32), INV xj xb mj mb → ∀ (H : Heap) (locs : List Loc), va_P (dC, dI) vwCl (wW cI cZ hx hm aX aM xj xb mj mb) H → va_D (fun q : Nat => s.heap.size ≤ q) (wW cI cZ hx hm aX aM xj xb mj mb) → va_S (fun q : Nat => s.heap.size ≤ q) s.heap H locs → ∀ ls : Array Slot, lv_has ls 4 [(0, .ref b), (1, .ref hx), (2, .ref hm), (3, .int (nI i))] → W p l e room_1 s m #[Value.ref b] below meth c H locs cells slots Q (F0 m 1291 ls [])) :
    ∀ (H : Heap) (locs : List Loc), va_P (dC, dI) vwCl (wW cI cZ hx hm aX aM xi xa mi ma) H → va_D (fun q : Nat => s.heap.size ≤ q) (wW cI cZ hx hm aX aM xi xa mi ma) → va_S (fun q : Nat => s.heap.size ≤ q) s.heap H locs → ∀ ls : Array Slot, lv_has ls 4 [(0, .ref b), (1, .ref hx), (2, .ref hm), (3, .int (nI i))] → W p l e room_1 s m #[Value.ref b] below meth c H locs cells slots Q (F0 m 868 ls []) := by
  obtain ⟨hx0, hb, hr, hml, hown, hts, hX, hbl, hlocks, hgv⟩ := C0
  have hts : ∀ w ∈ tG, w.before #[Value.ref b] s = true := fun w h => hts w (List.mem_filter.mp h).1
  have hown : s.vm.findClass RL = some m.cls := hown
  have hA : ∀ q : Nat, s.heap.size ≤ q → (fun q : Nat => s.heap.size ≤ q) q := fun _ h => h
  have hbA : ¬ (fun q : Nat => s.heap.size ≤ q) b := Nat.not_le.mpr hbl
  intro H locs hP hD hS ls hl
  refine lv_aload_n hx0 hb dL_law_868 rfl (lv_at hl 1 rfl) ?_
  refine lv_aload_n hx0 hb dL_law_869 rfl (lv_at hl 0 rfl) ?_
  refine lv_iload_n hx0 hb dL_law_870 rfl (lv_at hl 3 rfl) ?_
  refine lv_iconst (v := (1 : Int32)) hx0 hb dL_law_871 (by decide) ?_
  refine lv_iadd hx0 hb dL_law_872 ?_
  refine va_sld hx0 hb hX hbl hbA hS (vin (k := 1) (by omega) hL) dL_law_873 ?_
  refine lv_aload_n hx0 hb dL_law_874 rfl (lv_at hl 0 rfl) ?_
  refine lv_iload_n hx0 hb dL_law_875 rfl (lv_at hl 3 rfl) ?_
  refine lv_iconst (v := (2 : Int32)) hx0 hb dL_law_876 (by decide) ?_
  refine lv_iadd hx0 hb dL_law_877 ?_
  refine va_sld hx0 hb hX hbl hbA hS (vin (k := 2) (by omega) hL) dL_law_878 ?_
  obtain ⟨r, xj, xb, mj, mb, hcX, hcM, hI2⟩ := O_area l dC dI cI cZ te hx hm aX aM h (xs ((nI i) + (1 : Int32)).toNatClampNeg) (xs ((nI i) + (2 : Int32)).toNatClampNeg) xi xa mi ma hI
  refine CM_callW (C := RX9) (As := [.int (xs ((nI i) + (1 : Int32)).toNatClampNeg), .int (xs ((nI i) + (2 : Int32)).toNatClampNeg)]) (rest := []) (v := some (.int r)) ⟨hx0, hb, hml, hown, hts⟩ hcX (cwV 2 hts (gV0 kw_1043 kw_1044 kw_1045 kw_695 kw_1046) rfl rfl rfl (by decide +kernel) ⟨Nat.le_of_ble_eq_true rfl, Nat.le_of_ble_eq_true rfl⟩) (kS_env te) hK hP hD hS hA hE 0 7 rfl rfl rfl rfl hl.1 rfl (Nat.le_of_ble_eq_true rfl) dL_law_879 hcs (fun H locs hP hD hS => ?_)
  show W p l e room_1 s m #[Value.ref b] below meth c H locs cells slots Q (F0 m 882 ls [.int r])
  refine lv_aload_n hx0 hb dL_law_882 rfl (lv_at hl 2 rfl) ?_
  refine lv_aload_n hx0 hb dL_law_883 rfl (lv_at hl 0 rfl) ?_
  refine lv_iload_n hx0 hb dL_law_884 rfl (lv_at hl 3 rfl) ?_
  refine lv_iconst (v := (1 : Int32)) hx0 hb dL_law_885 (by decide) ?_
  refine lv_iadd hx0 hb dL_law_886 ?_
  refine va_sld hx0 hb hX hbl hbA hS (vin (k := 1) (by omega) hL) dL_law_887 ?_
  refine lv_aload_n hx0 hb dL_law_888 rfl (lv_at hl 0 rfl) ?_
  refine lv_iload_n hx0 hb dL_law_889 rfl (lv_at hl 3 rfl) ?_
  refine lv_iconst (v := (2 : Int32)) hx0 hb dL_law_890 (by decide) ?_
  refine lv_iadd hx0 hb dL_law_891 ?_
  refine va_sld hx0 hb hX hbl hbA hS (vin (k := 2) (by omega) hL) dL_law_892 ?_
  refine CM_callW (C := RX10) (As := [.int (xs ((nI i) + (1 : Int32)).toNatClampNeg), .int (xs ((nI i) + (2 : Int32)).toNatClampNeg)]) (rest := [.int r]) (v := some (.int r)) ⟨hx0, hb, hml, hown, hts⟩ hcM (cwV 2 hts (gV0 kw_1047 kw_1048 kw_1049 kw_159 kw_1050) rfl rfl rfl (by decide +kernel) ⟨Nat.le_of_ble_eq_true rfl, Nat.le_of_ble_eq_true rfl⟩) (kS_env te) hK hP hD hS hA hE 90 8 rfl rfl rfl rfl hl.1 rfl (Nat.le_of_ble_eq_true rfl) dL_law_893 hcs (fun H locs hP hD hS => ?_)
  show W p l e room_1 s m #[Value.ref b] below meth c H locs cells slots Q (F0 m 896 ls [.int r, .int r])
  refine lv_icmp_eq (tgt := 1291) hx0 hb dL_law_896 (by decide) (fun _ => ?_) (fun hne => absurd rfl hne)
  exact kk _ _ _ _ hI2 _ _ hP hD hS _ hl
set_option maxHeartbeats 8000000 in
set_option maxRecDepth 100000 in
theorem lc_lake {INV : (Nat → Int32) → (Nat → Nat → Int32) → (Nat → Int32) → (Nat → Nat → Int32) → Prop} {p : Program} {l : Launch} {e : Env} {s : State} {m : MethodId} {below : List Frame} {meth : Method} {c : Code} {dC : Nat → ClassId} {dI : Nat → Nat → Nat} {cI cZ : ClassId} {te : Nat → Nat} {hx hm : Nat} {aX aM : Nat → Nat} {b L : Nat} {xs : Nat → Int32} {cells slots : Nat} {Q : State → Prop} (hL : L ≤ 3072) (C0 : lw_At p s m meth c b L xs) (hE : kS te (fun q : Nat => s.heap.size ≤ q) s s.heap) (hK : va_K (dC, dI) vwCl (kT cI cZ) s) (h : PP_lake INV) {i : Nat} (hi : i + 6 ≤ L) (hcs : cells ≤ room_1.cells ∧ slots ≤ room_1.slots) {xi : Nat → Int32} {xa : Nat → Nat → Int32} {mi : Nat → Int32} {ma : Nat → Nat → Int32} (hI : INV xi xa mi ma)
    (kk : ∀ (xj : Nat → Int32) (xb : Nat → Nat → Int32) (mj : Nat → Int32) (mb : Nat → Nat → Int32), INV xj xb mj mb → ∀ (H : Heap) (locs : List Loc), va_P (dC, dI) vwCl (wW cI cZ hx hm aX aM xj xb mj mb) H → va_D (fun q : Nat => s.heap.size ≤ q) (wW cI cZ hx hm aX aM xj xb mj mb) → va_S (fun q : Nat => s.heap.size ≤ q) s.heap H locs → ∀ ls : Array Slot, lv_has ls 4 [(0, .ref b), (1, .ref hx), (2, .ref hm), (3, .int (nI i))] → W p l e room_1 s m #[Value.ref b] below meth c H locs cells slots Q (F0 m 1291 ls [])) :
    ∀ (H : Heap) (locs : List Loc), va_P (dC, dI) vwCl (wW cI cZ hx hm aX aM xi xa mi ma) H → va_D (fun q : Nat => s.heap.size ≤ q) (wW cI cZ hx hm aX aM xi xa mi ma) → va_S (fun q : Nat => s.heap.size ≤ q) s.heap H locs → ∀ ls : Array Slot, lv_has ls 4 [(0, .ref b), (1, .ref hx), (2, .ref hm), (3, .int (nI i))] → W p l e room_1 s m #[Value.ref b] below meth c H locs cells slots Q (F0 m 901 ls []) := by
  obtain ⟨hx0, hb, hr, hml, hown, hts, hX, hbl, hlocks, hgv⟩ := C0
  have hts : ∀ w ∈ tG, w.before #[Value.ref b] s = true := fun w h => hts w (List.mem_filter.mp h).1
  have hown : s.vm.findClass RL = some m.cls := hown
  have hA : ∀ q : Nat, s.heap.size ≤ q → (fun q : Nat => s.heap.size ≤ q) q := fun _ h => h
  have hbA : ¬ (fun q : Nat => s.heap.size ≤ q) b := Nat.not_le.mpr hbl
  intro H locs hP hD hS ls hl
  refine lv_aload_n hx0 hb dL_law_901 rfl (lv_at hl 1 rfl) ?_
  refine lv_aload_n hx0 hb dL_law_902 rfl (lv_at hl 0 rfl) ?_
  refine lv_iload_n hx0 hb dL_law_903 rfl (lv_at hl 3 rfl) ?_
  refine lv_iconst (v := (1 : Int32)) hx0 hb dL_law_904 (by decide) ?_
  refine lv_iadd hx0 hb dL_law_905 ?_
  refine va_sld hx0 hb hX hbl hbA hS (vin (k := 1) (by omega) hL) dL_law_906 ?_
  refine lv_aload_n hx0 hb dL_law_907 rfl (lv_at hl 0 rfl) ?_
  refine lv_iload_n hx0 hb dL_law_908 rfl (lv_at hl 3 rfl) ?_
  refine lv_iconst (v := (2 : Int32)) hx0 hb dL_law_909 (by decide) ?_
  refine lv_iadd hx0 hb dL_law_910 ?_
  refine va_sld hx0 hb hX hbl hbA hS (vin (k := 2) (by omega) hL) dL_law_911 ?_
  refine lv_aload_n hx0 hb dL_law_912 rfl (lv_at hl 0 rfl) ?_
  refine lv_iload_n hx0 hb dL_law_913 rfl (lv_at hl 3 rfl) ?_
  refine lv_iconst (v := (3 : Int32)) hx0 hb dL_law_914 (by decide) ?_
  refine lv_iadd hx0 hb dL_law_915 ?_
  refine va_sld hx0 hb hX hbl hbA hS (vin (k := 3) (by omega) hL) dL_law_916 ?_
  obtain ⟨r, xj, xb, mj, mb, hcX, hcM, hI2⟩ := O_lake l dC dI cI cZ te hx hm aX aM h (xs ((nI i) + (1 : Int32)).toNatClampNeg) (xs ((nI i) + (2 : Int32)).toNatClampNeg) (xs ((nI i) + (3 : Int32)).toNatClampNeg) xi xa mi ma hI
  refine CM_callW (C := RX9) (As := [.int (xs ((nI i) + (1 : Int32)).toNatClampNeg), .int (xs ((nI i) + (2 : Int32)).toNatClampNeg), .int (xs ((nI i) + (3 : Int32)).toNatClampNeg)]) (rest := []) (v := some (.int r)) ⟨hx0, hb, hml, hown, hts⟩ hcX (cwV 3 hts (gV0 kw_1051 kw_1052 kw_1053 kw_695 kw_1054) rfl rfl rfl (by decide +kernel) ⟨Nat.le_of_ble_eq_true rfl, Nat.le_of_ble_eq_true rfl⟩) (kS_env te) hK hP hD hS hA hE 0 7 rfl rfl rfl rfl hl.1 rfl (Nat.le_of_ble_eq_true rfl) dL_law_917 hcs (fun H locs hP hD hS => ?_)
  show W p l e room_1 s m #[Value.ref b] below meth c H locs cells slots Q (F0 m 920 ls [.int r])
  refine lv_aload_n hx0 hb dL_law_920 rfl (lv_at hl 2 rfl) ?_
  refine lv_aload_n hx0 hb dL_law_921 rfl (lv_at hl 0 rfl) ?_
  refine lv_iload_n hx0 hb dL_law_922 rfl (lv_at hl 3 rfl) ?_
  refine lv_iconst (v := (1 : Int32)) hx0 hb dL_law_923 (by decide) ?_
  refine lv_iadd hx0 hb dL_law_924 ?_
  refine va_sld hx0 hb hX hbl hbA hS (vin (k := 1) (by omega) hL) dL_law_925 ?_
  refine lv_aload_n hx0 hb dL_law_926 rfl (lv_at hl 0 rfl) ?_
  refine lv_iload_n hx0 hb dL_law_927 rfl (lv_at hl 3 rfl) ?_
  refine lv_iconst (v := (2 : Int32)) hx0 hb dL_law_928 (by decide) ?_
  refine lv_iadd hx0 hb dL_law_929 ?_
  refine va_sld hx0 hb hX hbl hbA hS (vin (k := 2) (by omega) hL) dL_law_930 ?_
  refine lv_aload_n hx0 hb dL_law_931 rfl (lv_at hl 0 rfl) ?_
  refine lv_iload_n hx0 hb dL_law_932 rfl (lv_at hl 3 rfl) ?_
  refine lv_iconst (v := (3 : Int32)) hx0 hb dL_law_933 (by decide) ?_
  refine lv_iadd hx0 hb dL_law_934 ?_
  refine va_sld hx0 hb hX hbl hbA hS (vin (k := 3) (by omega) hL) dL_law_935 ?_
  refine CM_callW (C := RX10) (As := [.int (xs ((nI i) + (1 : Int32)).toNatClampNeg), .int (xs ((nI i) + (2 : Int32)).toNatClampNeg), .int (xs ((nI i) + (3 : Int32)).toNatClampNeg)]) (rest := [.int r]) (v := some (.int r)) ⟨hx0, hb, hml, hown, hts⟩ hcM (cwV 3 hts (gV0 kw_1055 kw_1056 kw_1057 kw_159 kw_1058) rfl rfl rfl (by decide +kernel) ⟨Nat.le_of_ble_eq_true rfl, Nat.le_of_ble_eq_true rfl⟩) (kS_env te) hK hP hD hS hA hE 90 8 rfl rfl rfl rfl hl.1 rfl (Nat.le_of_ble_eq_true rfl) dL_law_936 hcs (fun H locs hP hD hS => ?_)
  show W p l e room_1 s m #[Value.ref b] below meth c H locs cells slots Q (F0 m 939 ls [.int r, .int r])
  refine lv_icmp_eq (tgt := 1291) hx0 hb dL_law_939 (by decide) (fun _ => ?_) (fun hne => absurd rfl hne)
  exact kk _ _ _ _ hI2 _ _ hP hD hS _ hl
set_option maxHeartbeats 8000000 in
set_option maxRecDepth 100000 in
theorem lc_shore {INV : (Nat → Int32) → (Nat → Nat → Int32) → (Nat → Int32) → (Nat → Nat → Int32) → Prop} {p : Program} {l : Launch} {e : Env} {s : State} {m : MethodId} {below : List Frame} {meth : Method} {c : Code} {dC : Nat → ClassId} {dI : Nat → Nat → Nat} {cI cZ : ClassId} {te : Nat → Nat} {hx hm : Nat} {aX aM : Nat → Nat} {b L : Nat} {xs : Nat → Int32} {cells slots : Nat} {Q : State → Prop} (hL : L ≤ 3072) (C0 : lw_At p s m meth c b L xs) (hE : kS te (fun q : Nat => s.heap.size ≤ q) s s.heap) (hK : va_K (dC, dI) vwCl (kT cI cZ) s) (h : PP_shore INV) {i : Nat} (hi : i + 6 ≤ L) (hcs : cells ≤ room_1.cells ∧ slots ≤ room_1.slots) {xi : Nat → Int32} {xa : Nat → Nat → Int32} {mi : Nat → Int32} {ma : Nat → Nat → Int32} (hI : INV xi xa mi ma)
    (kk : ∀ (xj : Nat → Int32) (xb : Nat → Nat → Int32) (mj : Nat → Int32) (mb : Nat → Nat → Int32), INV xj xb mj mb → ∀ (H : Heap) (locs : List Loc), va_P (dC, dI) vwCl (wW cI cZ hx hm aX aM xj xb mj mb) H → va_D (fun q : Nat => s.heap.size ≤ q) (wW cI cZ hx hm aX aM xj xb mj mb) → va_S (fun q : Nat => s.heap.size ≤ q) s.heap H locs → ∀ ls : Array Slot, lv_has ls 4 [(0, .ref b), (1, .ref hx), (2, .ref hm), (3, .int (nI i))] → W p l e room_1 s m #[Value.ref b] below meth c H locs cells slots Q (F0 m 1291 ls [])) :
    ∀ (H : Heap) (locs : List Loc), va_P (dC, dI) vwCl (wW cI cZ hx hm aX aM xi xa mi ma) H → va_D (fun q : Nat => s.heap.size ≤ q) (wW cI cZ hx hm aX aM xi xa mi ma) → va_S (fun q : Nat => s.heap.size ≤ q) s.heap H locs → ∀ ls : Array Slot, lv_has ls 4 [(0, .ref b), (1, .ref hx), (2, .ref hm), (3, .int (nI i))] → W p l e room_1 s m #[Value.ref b] below meth c H locs cells slots Q (F0 m 944 ls []) := by
  obtain ⟨hx0, hb, hr, hml, hown, hts, hX, hbl, hlocks, hgv⟩ := C0
  have hts : ∀ w ∈ tG, w.before #[Value.ref b] s = true := fun w h => hts w (List.mem_filter.mp h).1
  have hown : s.vm.findClass RL = some m.cls := hown
  have hA : ∀ q : Nat, s.heap.size ≤ q → (fun q : Nat => s.heap.size ≤ q) q := fun _ h => h
  have hbA : ¬ (fun q : Nat => s.heap.size ≤ q) b := Nat.not_le.mpr hbl
  intro H locs hP hD hS ls hl
  refine lv_aload_n hx0 hb dL_law_944 rfl (lv_at hl 1 rfl) ?_
  refine lv_aload_n hx0 hb dL_law_945 rfl (lv_at hl 0 rfl) ?_
  refine lv_iload_n hx0 hb dL_law_946 rfl (lv_at hl 3 rfl) ?_
  refine lv_iconst (v := (1 : Int32)) hx0 hb dL_law_947 (by decide) ?_
  refine lv_iadd hx0 hb dL_law_948 ?_
  refine va_sld hx0 hb hX hbl hbA hS (vin (k := 1) (by omega) hL) dL_law_949 ?_
  refine lv_aload_n hx0 hb dL_law_950 rfl (lv_at hl 0 rfl) ?_
  refine lv_iload_n hx0 hb dL_law_951 rfl (lv_at hl 3 rfl) ?_
  refine lv_iconst (v := (2 : Int32)) hx0 hb dL_law_952 (by decide) ?_
  refine lv_iadd hx0 hb dL_law_953 ?_
  refine va_sld hx0 hb hX hbl hbA hS (vin (k := 2) (by omega) hL) dL_law_954 ?_
  refine lv_aload_n hx0 hb dL_law_955 rfl (lv_at hl 0 rfl) ?_
  refine lv_iload_n hx0 hb dL_law_956 rfl (lv_at hl 3 rfl) ?_
  refine lv_iconst (v := (3 : Int32)) hx0 hb dL_law_957 (by decide) ?_
  refine lv_iadd hx0 hb dL_law_958 ?_
  refine va_sld hx0 hb hX hbl hbA hS (vin (k := 3) (by omega) hL) dL_law_959 ?_
  refine lv_aload_n hx0 hb dL_law_960 rfl (lv_at hl 0 rfl) ?_
  refine lv_iload_n hx0 hb dL_law_961 rfl (lv_at hl 3 rfl) ?_
  refine lv_iconst (v := (4 : Int32)) hx0 hb dL_law_962 (by decide) ?_
  refine lv_iadd hx0 hb dL_law_963 ?_
  refine va_sld hx0 hb hX hbl hbA hS (vin (k := 4) (by omega) hL) dL_law_964 ?_
  obtain ⟨r, xj, xb, mj, mb, hcX, hcM, hI2⟩ := O_shore l dC dI cI cZ te hx hm aX aM h (xs ((nI i) + (1 : Int32)).toNatClampNeg) (xs ((nI i) + (2 : Int32)).toNatClampNeg) (xs ((nI i) + (3 : Int32)).toNatClampNeg) (xs ((nI i) + (4 : Int32)).toNatClampNeg) xi xa mi ma hI
  refine CM_callW (C := RX9) (As := [.int (xs ((nI i) + (1 : Int32)).toNatClampNeg), .int (xs ((nI i) + (2 : Int32)).toNatClampNeg), .int (xs ((nI i) + (3 : Int32)).toNatClampNeg), .int (xs ((nI i) + (4 : Int32)).toNatClampNeg)]) (rest := []) (v := some (.int r)) ⟨hx0, hb, hml, hown, hts⟩ hcX (cwV 4 hts (gV0 kw_1059 kw_1060 kw_1061 kw_695 kw_1062) rfl rfl rfl (by decide +kernel) ⟨Nat.le_of_ble_eq_true rfl, Nat.le_of_ble_eq_true rfl⟩) (kS_env te) hK hP hD hS hA hE 0 7 rfl rfl rfl rfl hl.1 rfl (Nat.le_of_ble_eq_true rfl) dL_law_965 hcs (fun H locs hP hD hS => ?_)
  show W p l e room_1 s m #[Value.ref b] below meth c H locs cells slots Q (F0 m 968 ls [.int r])
  refine lv_aload_n hx0 hb dL_law_968 rfl (lv_at hl 2 rfl) ?_
  refine lv_aload_n hx0 hb dL_law_969 rfl (lv_at hl 0 rfl) ?_
  refine lv_iload_n hx0 hb dL_law_970 rfl (lv_at hl 3 rfl) ?_
  refine lv_iconst (v := (1 : Int32)) hx0 hb dL_law_971 (by decide) ?_
  refine lv_iadd hx0 hb dL_law_972 ?_
  refine va_sld hx0 hb hX hbl hbA hS (vin (k := 1) (by omega) hL) dL_law_973 ?_
  refine lv_aload_n hx0 hb dL_law_974 rfl (lv_at hl 0 rfl) ?_
  refine lv_iload_n hx0 hb dL_law_975 rfl (lv_at hl 3 rfl) ?_
  refine lv_iconst (v := (2 : Int32)) hx0 hb dL_law_976 (by decide) ?_
  refine lv_iadd hx0 hb dL_law_977 ?_
  refine va_sld hx0 hb hX hbl hbA hS (vin (k := 2) (by omega) hL) dL_law_978 ?_
  refine lv_aload_n hx0 hb dL_law_979 rfl (lv_at hl 0 rfl) ?_
  refine lv_iload_n hx0 hb dL_law_980 rfl (lv_at hl 3 rfl) ?_
  refine lv_iconst (v := (3 : Int32)) hx0 hb dL_law_981 (by decide) ?_
  refine lv_iadd hx0 hb dL_law_982 ?_
  refine va_sld hx0 hb hX hbl hbA hS (vin (k := 3) (by omega) hL) dL_law_983 ?_
  refine lv_aload_n hx0 hb dL_law_984 rfl (lv_at hl 0 rfl) ?_
  refine lv_iload_n hx0 hb dL_law_985 rfl (lv_at hl 3 rfl) ?_
  refine lv_iconst (v := (4 : Int32)) hx0 hb dL_law_986 (by decide) ?_
  refine lv_iadd hx0 hb dL_law_987 ?_
  refine va_sld hx0 hb hX hbl hbA hS (vin (k := 4) (by omega) hL) dL_law_988 ?_
  refine CM_callW (C := RX10) (As := [.int (xs ((nI i) + (1 : Int32)).toNatClampNeg), .int (xs ((nI i) + (2 : Int32)).toNatClampNeg), .int (xs ((nI i) + (3 : Int32)).toNatClampNeg), .int (xs ((nI i) + (4 : Int32)).toNatClampNeg)]) (rest := [.int r]) (v := some (.int r)) ⟨hx0, hb, hml, hown, hts⟩ hcM (cwV 4 hts (gV0 kw_1063 kw_1064 kw_1065 kw_159 kw_1066) rfl rfl rfl (by decide +kernel) ⟨Nat.le_of_ble_eq_true rfl, Nat.le_of_ble_eq_true rfl⟩) (kS_env te) hK hP hD hS hA hE 90 8 rfl rfl rfl rfl hl.1 rfl (Nat.le_of_ble_eq_true rfl) dL_law_989 hcs (fun H locs hP hD hS => ?_)
  show W p l e room_1 s m #[Value.ref b] below meth c H locs cells slots Q (F0 m 992 ls [.int r, .int r])
  refine lv_icmp_eq (tgt := 1291) hx0 hb dL_law_992 (by decide) (fun _ => ?_) (fun hne => absurd rfl hne)
  exact kk _ _ _ _ hI2 _ _ hP hD hS _ hl
set_option maxHeartbeats 8000000 in
set_option maxRecDepth 100000 in
theorem lc_zone {INV : (Nat → Int32) → (Nat → Nat → Int32) → (Nat → Int32) → (Nat → Nat → Int32) → Prop} {p : Program} {l : Launch} {e : Env} {s : State} {m : MethodId} {below : List Frame} {meth : Method} {c : Code} {dC : Nat → ClassId} {dI : Nat → Nat → Nat} {cI cZ : ClassId} {te : Nat → Nat} {hx hm : Nat} {aX aM : Nat → Nat} {b L : Nat} {xs : Nat → Int32} {cells slots : Nat} {Q : State → Prop} (hL : L ≤ 3072) (C0 : lw_At p s m meth c b L xs) (hE : kS te (fun q : Nat => s.heap.size ≤ q) s s.heap) (hK : va_K (dC, dI) vwCl (kT cI cZ) s) (h : PP_zone INV) {i : Nat} (hi : i + 6 ≤ L) (hcs : cells ≤ room_1.cells ∧ slots ≤ room_1.slots) {xi : Nat → Int32} {xa : Nat → Nat → Int32} {mi : Nat → Int32} {ma : Nat → Nat → Int32} (hI : INV xi xa mi ma)
    (kk : ∀ (xj : Nat → Int32) (xb : Nat → Nat → Int32) (mj : Nat → Int32) (mb : Nat → Nat → Int32), INV xj xb mj mb → ∀ (H : Heap) (locs : List Loc), va_P (dC, dI) vwCl (wW cI cZ hx hm aX aM xj xb mj mb) H → va_D (fun q : Nat => s.heap.size ≤ q) (wW cI cZ hx hm aX aM xj xb mj mb) → va_S (fun q : Nat => s.heap.size ≤ q) s.heap H locs → ∀ ls : Array Slot, lv_has ls 4 [(0, .ref b), (1, .ref hx), (2, .ref hm), (3, .int (nI i))] → W p l e room_1 s m #[Value.ref b] below meth c H locs cells slots Q (F0 m 1291 ls [])) :
    ∀ (H : Heap) (locs : List Loc), va_P (dC, dI) vwCl (wW cI cZ hx hm aX aM xi xa mi ma) H → va_D (fun q : Nat => s.heap.size ≤ q) (wW cI cZ hx hm aX aM xi xa mi ma) → va_S (fun q : Nat => s.heap.size ≤ q) s.heap H locs → ∀ ls : Array Slot, lv_has ls 4 [(0, .ref b), (1, .ref hx), (2, .ref hm), (3, .int (nI i))] → W p l e room_1 s m #[Value.ref b] below meth c H locs cells slots Q (F0 m 997 ls []) := by
  obtain ⟨hx0, hb, hr, hml, hown, hts, hX, hbl, hlocks, hgv⟩ := C0
  have hts : ∀ w ∈ tG, w.before #[Value.ref b] s = true := fun w h => hts w (List.mem_filter.mp h).1
  have hown : s.vm.findClass RL = some m.cls := hown
  have hA : ∀ q : Nat, s.heap.size ≤ q → (fun q : Nat => s.heap.size ≤ q) q := fun _ h => h
  have hbA : ¬ (fun q : Nat => s.heap.size ≤ q) b := Nat.not_le.mpr hbl
  intro H locs hP hD hS ls hl
  refine lv_aload_n hx0 hb dL_law_997 rfl (lv_at hl 1 rfl) ?_
  refine lv_aload_n hx0 hb dL_law_998 rfl (lv_at hl 0 rfl) ?_
  refine lv_iload_n hx0 hb dL_law_999 rfl (lv_at hl 3 rfl) ?_
  refine lv_iconst (v := (1 : Int32)) hx0 hb dL_law_1000 (by decide) ?_
  refine lv_iadd hx0 hb dL_law_1001 ?_
  refine va_sld hx0 hb hX hbl hbA hS (vin (k := 1) (by omega) hL) dL_law_1002 ?_
  refine lv_aload_n hx0 hb dL_law_1003 rfl (lv_at hl 0 rfl) ?_
  refine lv_iload_n hx0 hb dL_law_1004 rfl (lv_at hl 3 rfl) ?_
  refine lv_iconst (v := (2 : Int32)) hx0 hb dL_law_1005 (by decide) ?_
  refine lv_iadd hx0 hb dL_law_1006 ?_
  refine va_sld hx0 hb hX hbl hbA hS (vin (k := 2) (by omega) hL) dL_law_1007 ?_
  obtain ⟨r, xj, xb, mj, mb, hcX, hcM, hI2⟩ := O_zone l dC dI cI cZ te hx hm aX aM h (xs ((nI i) + (1 : Int32)).toNatClampNeg) (xs ((nI i) + (2 : Int32)).toNatClampNeg) xi xa mi ma hI
  refine CM_callW (C := RX9) (As := [.int (xs ((nI i) + (1 : Int32)).toNatClampNeg), .int (xs ((nI i) + (2 : Int32)).toNatClampNeg)]) (rest := []) (v := some (.int r)) ⟨hx0, hb, hml, hown, hts⟩ hcX (cwV 2 hts (gV0 kw_1067 kw_1068 kw_1069 kw_695 kw_1070) rfl rfl rfl (by decide +kernel) ⟨Nat.le_of_ble_eq_true rfl, Nat.le_of_ble_eq_true rfl⟩) (kS_env te) hK hP hD hS hA hE 0 7 rfl rfl rfl rfl hl.1 rfl (Nat.le_of_ble_eq_true rfl) dL_law_1008 hcs (fun H locs hP hD hS => ?_)
  show W p l e room_1 s m #[Value.ref b] below meth c H locs cells slots Q (F0 m 1011 ls [.int r])
  refine lv_aload_n hx0 hb dL_law_1011 rfl (lv_at hl 2 rfl) ?_
  refine lv_aload_n hx0 hb dL_law_1012 rfl (lv_at hl 0 rfl) ?_
  refine lv_iload_n hx0 hb dL_law_1013 rfl (lv_at hl 3 rfl) ?_
  refine lv_iconst (v := (1 : Int32)) hx0 hb dL_law_1014 (by decide) ?_
  refine lv_iadd hx0 hb dL_law_1015 ?_
  refine va_sld hx0 hb hX hbl hbA hS (vin (k := 1) (by omega) hL) dL_law_1016 ?_
  refine lv_aload_n hx0 hb dL_law_1017 rfl (lv_at hl 0 rfl) ?_
  refine lv_iload_n hx0 hb dL_law_1018 rfl (lv_at hl 3 rfl) ?_
  refine lv_iconst (v := (2 : Int32)) hx0 hb dL_law_1019 (by decide) ?_
  refine lv_iadd hx0 hb dL_law_1020 ?_
  refine va_sld hx0 hb hX hbl hbA hS (vin (k := 2) (by omega) hL) dL_law_1021 ?_
  refine CM_callW (C := RX10) (As := [.int (xs ((nI i) + (1 : Int32)).toNatClampNeg), .int (xs ((nI i) + (2 : Int32)).toNatClampNeg)]) (rest := [.int r]) (v := some (.int r)) ⟨hx0, hb, hml, hown, hts⟩ hcM (cwV 2 hts (gV0 kw_1071 kw_1072 kw_1073 kw_159 kw_1074) rfl rfl rfl (by decide +kernel) ⟨Nat.le_of_ble_eq_true rfl, Nat.le_of_ble_eq_true rfl⟩) (kS_env te) hK hP hD hS hA hE 90 8 rfl rfl rfl rfl hl.1 rfl (Nat.le_of_ble_eq_true rfl) dL_law_1022 hcs (fun H locs hP hD hS => ?_)
  show W p l e room_1 s m #[Value.ref b] below meth c H locs cells slots Q (F0 m 1025 ls [.int r, .int r])
  refine lv_icmp_eq (tgt := 1291) hx0 hb dL_law_1025 (by decide) (fun _ => ?_) (fun hne => absurd rfl hne)
  exact kk _ _ _ _ hI2 _ _ hP hD hS _ hl
set_option maxHeartbeats 8000000 in
set_option maxRecDepth 100000 in
theorem lc_ice {INV : (Nat → Int32) → (Nat → Nat → Int32) → (Nat → Int32) → (Nat → Nat → Int32) → Prop} {p : Program} {l : Launch} {e : Env} {s : State} {m : MethodId} {below : List Frame} {meth : Method} {c : Code} {dC : Nat → ClassId} {dI : Nat → Nat → Nat} {cI cZ : ClassId} {te : Nat → Nat} {hx hm : Nat} {aX aM : Nat → Nat} {b L : Nat} {xs : Nat → Int32} {cells slots : Nat} {Q : State → Prop} (hL : L ≤ 3072) (C0 : lw_At p s m meth c b L xs) (hE : kS te (fun q : Nat => s.heap.size ≤ q) s s.heap) (hK : va_K (dC, dI) vwCl (kT cI cZ) s) (h : PP_ice INV) {i : Nat} (hi : i + 6 ≤ L) (hcs : cells ≤ room_1.cells ∧ slots ≤ room_1.slots) {xi : Nat → Int32} {xa : Nat → Nat → Int32} {mi : Nat → Int32} {ma : Nat → Nat → Int32} (hI : INV xi xa mi ma)
    (kk : ∀ (xj : Nat → Int32) (xb : Nat → Nat → Int32) (mj : Nat → Int32) (mb : Nat → Nat → Int32), INV xj xb mj mb → ∀ (H : Heap) (locs : List Loc), va_P (dC, dI) vwCl (wW cI cZ hx hm aX aM xj xb mj mb) H → va_D (fun q : Nat => s.heap.size ≤ q) (wW cI cZ hx hm aX aM xj xb mj mb) → va_S (fun q : Nat => s.heap.size ≤ q) s.heap H locs → ∀ ls : Array Slot, lv_has ls 4 [(0, .ref b), (1, .ref hx), (2, .ref hm), (3, .int (nI i))] → W p l e room_1 s m #[Value.ref b] below meth c H locs cells slots Q (F0 m 1291 ls [])) :
    ∀ (H : Heap) (locs : List Loc), va_P (dC, dI) vwCl (wW cI cZ hx hm aX aM xi xa mi ma) H → va_D (fun q : Nat => s.heap.size ≤ q) (wW cI cZ hx hm aX aM xi xa mi ma) → va_S (fun q : Nat => s.heap.size ≤ q) s.heap H locs → ∀ ls : Array Slot, lv_has ls 4 [(0, .ref b), (1, .ref hx), (2, .ref hm), (3, .int (nI i))] → W p l e room_1 s m #[Value.ref b] below meth c H locs cells slots Q (F0 m 1030 ls []) := by
  obtain ⟨hx0, hb, hr, hml, hown, hts, hX, hbl, hlocks, hgv⟩ := C0
  have hts : ∀ w ∈ tG, w.before #[Value.ref b] s = true := fun w h => hts w (List.mem_filter.mp h).1
  have hown : s.vm.findClass RL = some m.cls := hown
  have hA : ∀ q : Nat, s.heap.size ≤ q → (fun q : Nat => s.heap.size ≤ q) q := fun _ h => h
  have hbA : ¬ (fun q : Nat => s.heap.size ≤ q) b := Nat.not_le.mpr hbl
  intro H locs hP hD hS ls hl
  refine lv_aload_n hx0 hb dL_law_1030 rfl (lv_at hl 1 rfl) ?_
  refine lv_aload_n hx0 hb dL_law_1031 rfl (lv_at hl 0 rfl) ?_
  refine lv_iload_n hx0 hb dL_law_1032 rfl (lv_at hl 3 rfl) ?_
  refine lv_iconst (v := (1 : Int32)) hx0 hb dL_law_1033 (by decide) ?_
  refine lv_iadd hx0 hb dL_law_1034 ?_
  refine va_sld hx0 hb hX hbl hbA hS (vin (k := 1) (by omega) hL) dL_law_1035 ?_
  refine lv_aload_n hx0 hb dL_law_1036 rfl (lv_at hl 0 rfl) ?_
  refine lv_iload_n hx0 hb dL_law_1037 rfl (lv_at hl 3 rfl) ?_
  refine lv_iconst (v := (2 : Int32)) hx0 hb dL_law_1038 (by decide) ?_
  refine lv_iadd hx0 hb dL_law_1039 ?_
  refine va_sld hx0 hb hX hbl hbA hS (vin (k := 2) (by omega) hL) dL_law_1040 ?_
  obtain ⟨r, xj, xb, mj, mb, hcX, hcM, hI2⟩ := O_ice l dC dI cI cZ te hx hm aX aM h (xs ((nI i) + (1 : Int32)).toNatClampNeg) (xs ((nI i) + (2 : Int32)).toNatClampNeg) xi xa mi ma hI
  refine CM_callW (C := RX9) (As := [.int (xs ((nI i) + (1 : Int32)).toNatClampNeg), .int (xs ((nI i) + (2 : Int32)).toNatClampNeg)]) (rest := []) (v := some (.int r)) ⟨hx0, hb, hml, hown, hts⟩ hcX (cwV 2 hts (gV0 kw_1075 kw_1076 kw_1077 kw_695 kw_1078) rfl rfl rfl (by decide +kernel) ⟨Nat.le_of_ble_eq_true rfl, Nat.le_of_ble_eq_true rfl⟩) (kS_env te) hK hP hD hS hA hE 0 7 rfl rfl rfl rfl hl.1 rfl (Nat.le_of_ble_eq_true rfl) dL_law_1041 hcs (fun H locs hP hD hS => ?_)
  show W p l e room_1 s m #[Value.ref b] below meth c H locs cells slots Q (F0 m 1044 ls [.int r])
  refine lv_aload_n hx0 hb dL_law_1044 rfl (lv_at hl 2 rfl) ?_
  refine lv_aload_n hx0 hb dL_law_1045 rfl (lv_at hl 0 rfl) ?_
  refine lv_iload_n hx0 hb dL_law_1046 rfl (lv_at hl 3 rfl) ?_
  refine lv_iconst (v := (1 : Int32)) hx0 hb dL_law_1047 (by decide) ?_
  refine lv_iadd hx0 hb dL_law_1048 ?_
  refine va_sld hx0 hb hX hbl hbA hS (vin (k := 1) (by omega) hL) dL_law_1049 ?_
  refine lv_aload_n hx0 hb dL_law_1050 rfl (lv_at hl 0 rfl) ?_
  refine lv_iload_n hx0 hb dL_law_1051 rfl (lv_at hl 3 rfl) ?_
  refine lv_iconst (v := (2 : Int32)) hx0 hb dL_law_1052 (by decide) ?_
  refine lv_iadd hx0 hb dL_law_1053 ?_
  refine va_sld hx0 hb hX hbl hbA hS (vin (k := 2) (by omega) hL) dL_law_1054 ?_
  refine CM_callW (C := RX10) (As := [.int (xs ((nI i) + (1 : Int32)).toNatClampNeg), .int (xs ((nI i) + (2 : Int32)).toNatClampNeg)]) (rest := [.int r]) (v := some (.int r)) ⟨hx0, hb, hml, hown, hts⟩ hcM (cwV 2 hts (gV0 kw_1079 kw_1080 kw_1081 kw_159 kw_1082) rfl rfl rfl (by decide +kernel) ⟨Nat.le_of_ble_eq_true rfl, Nat.le_of_ble_eq_true rfl⟩) (kS_env te) hK hP hD hS hA hE 90 8 rfl rfl rfl rfl hl.1 rfl (Nat.le_of_ble_eq_true rfl) dL_law_1055 hcs (fun H locs hP hD hS => ?_)
  show W p l e room_1 s m #[Value.ref b] below meth c H locs cells slots Q (F0 m 1058 ls [.int r, .int r])
  refine lv_icmp_eq (tgt := 1291) hx0 hb dL_law_1058 (by decide) (fun _ => ?_) (fun hne => absurd rfl hne)
  exact kk _ _ _ _ hI2 _ _ hP hD hS _ hl
set_option maxHeartbeats 8000000 in
set_option maxRecDepth 100000 in
theorem lc_warm {INV : (Nat → Int32) → (Nat → Nat → Int32) → (Nat → Int32) → (Nat → Nat → Int32) → Prop} {p : Program} {l : Launch} {e : Env} {s : State} {m : MethodId} {below : List Frame} {meth : Method} {c : Code} {dC : Nat → ClassId} {dI : Nat → Nat → Nat} {cI cZ : ClassId} {te : Nat → Nat} {hx hm : Nat} {aX aM : Nat → Nat} {b L : Nat} {xs : Nat → Int32} {cells slots : Nat} {Q : State → Prop} (hL : L ≤ 3072) (C0 : lw_At p s m meth c b L xs) (hE : kS te (fun q : Nat => s.heap.size ≤ q) s s.heap) (hK : va_K (dC, dI) vwCl (kT cI cZ) s) (h : PP_warm INV) {i : Nat} (hi : i + 6 ≤ L) (hcs : cells ≤ room_1.cells ∧ slots ≤ room_1.slots) {xi : Nat → Int32} {xa : Nat → Nat → Int32} {mi : Nat → Int32} {ma : Nat → Nat → Int32} (hI : INV xi xa mi ma)
    (kk : ∀ (xj : Nat → Int32) (xb : Nat → Nat → Int32) (mj : Nat → Int32) (mb : Nat → Nat → Int32), INV xj xb mj mb → ∀ (H : Heap) (locs : List Loc), va_P (dC, dI) vwCl (wW cI cZ hx hm aX aM xj xb mj mb) H → va_D (fun q : Nat => s.heap.size ≤ q) (wW cI cZ hx hm aX aM xj xb mj mb) → va_S (fun q : Nat => s.heap.size ≤ q) s.heap H locs → ∀ ls : Array Slot, lv_has ls 4 [(0, .ref b), (1, .ref hx), (2, .ref hm), (3, .int (nI i))] → W p l e room_1 s m #[Value.ref b] below meth c H locs cells slots Q (F0 m 1291 ls [])) :
    ∀ (H : Heap) (locs : List Loc), va_P (dC, dI) vwCl (wW cI cZ hx hm aX aM xi xa mi ma) H → va_D (fun q : Nat => s.heap.size ≤ q) (wW cI cZ hx hm aX aM xi xa mi ma) → va_S (fun q : Nat => s.heap.size ≤ q) s.heap H locs → ∀ ls : Array Slot, lv_has ls 4 [(0, .ref b), (1, .ref hx), (2, .ref hm), (3, .int (nI i))] → W p l e room_1 s m #[Value.ref b] below meth c H locs cells slots Q (F0 m 1063 ls []) := by
  obtain ⟨hx0, hb, hr, hml, hown, hts, hX, hbl, hlocks, hgv⟩ := C0
  have hts : ∀ w ∈ tG, w.before #[Value.ref b] s = true := fun w h => hts w (List.mem_filter.mp h).1
  have hown : s.vm.findClass RL = some m.cls := hown
  have hA : ∀ q : Nat, s.heap.size ≤ q → (fun q : Nat => s.heap.size ≤ q) q := fun _ h => h
  have hbA : ¬ (fun q : Nat => s.heap.size ≤ q) b := Nat.not_le.mpr hbl
  intro H locs hP hD hS ls hl
  refine lv_aload_n hx0 hb dL_law_1063 rfl (lv_at hl 1 rfl) ?_
  refine lv_aload_n hx0 hb dL_law_1064 rfl (lv_at hl 0 rfl) ?_
  refine lv_iload_n hx0 hb dL_law_1065 rfl (lv_at hl 3 rfl) ?_
  refine lv_iconst (v := (1 : Int32)) hx0 hb dL_law_1066 (by decide) ?_
  refine lv_iadd hx0 hb dL_law_1067 ?_
  refine va_sld hx0 hb hX hbl hbA hS (vin (k := 1) (by omega) hL) dL_law_1068 ?_
  refine lv_aload_n hx0 hb dL_law_1069 rfl (lv_at hl 0 rfl) ?_
  refine lv_iload_n hx0 hb dL_law_1070 rfl (lv_at hl 3 rfl) ?_
  refine lv_iconst (v := (2 : Int32)) hx0 hb dL_law_1071 (by decide) ?_
  refine lv_iadd hx0 hb dL_law_1072 ?_
  refine va_sld hx0 hb hX hbl hbA hS (vin (k := 2) (by omega) hL) dL_law_1073 ?_
  refine lv_aload_n hx0 hb dL_law_1074 rfl (lv_at hl 0 rfl) ?_
  refine lv_iload_n hx0 hb dL_law_1075 rfl (lv_at hl 3 rfl) ?_
  refine lv_iconst (v := (3 : Int32)) hx0 hb dL_law_1076 (by decide) ?_
  refine lv_iadd hx0 hb dL_law_1077 ?_
  refine va_sld hx0 hb hX hbl hbA hS (vin (k := 3) (by omega) hL) dL_law_1078 ?_
  obtain ⟨r, xj, xb, mj, mb, hcX, hcM, hI2⟩ := O_warm l dC dI cI cZ te hx hm aX aM h (xs ((nI i) + (1 : Int32)).toNatClampNeg) (xs ((nI i) + (2 : Int32)).toNatClampNeg) (xs ((nI i) + (3 : Int32)).toNatClampNeg) xi xa mi ma hI
  refine CM_callW (C := RX9) (As := [.int (xs ((nI i) + (1 : Int32)).toNatClampNeg), .int (xs ((nI i) + (2 : Int32)).toNatClampNeg), .int (xs ((nI i) + (3 : Int32)).toNatClampNeg)]) (rest := []) (v := some (.int r)) ⟨hx0, hb, hml, hown, hts⟩ hcX (cwV 3 hts (gV0 kw_1083 kw_1084 kw_1085 kw_695 kw_1086) rfl rfl rfl (by decide +kernel) ⟨Nat.le_of_ble_eq_true rfl, Nat.le_of_ble_eq_true rfl⟩) (kS_env te) hK hP hD hS hA hE 0 7 rfl rfl rfl rfl hl.1 rfl (Nat.le_of_ble_eq_true rfl) dL_law_1079 hcs (fun H locs hP hD hS => ?_)
  show W p l e room_1 s m #[Value.ref b] below meth c H locs cells slots Q (F0 m 1082 ls [.int r])
  refine lv_aload_n hx0 hb dL_law_1082 rfl (lv_at hl 2 rfl) ?_
  refine lv_aload_n hx0 hb dL_law_1083 rfl (lv_at hl 0 rfl) ?_
  refine lv_iload_n hx0 hb dL_law_1084 rfl (lv_at hl 3 rfl) ?_
  refine lv_iconst (v := (1 : Int32)) hx0 hb dL_law_1085 (by decide) ?_
  refine lv_iadd hx0 hb dL_law_1086 ?_
  refine va_sld hx0 hb hX hbl hbA hS (vin (k := 1) (by omega) hL) dL_law_1087 ?_
  refine lv_aload_n hx0 hb dL_law_1088 rfl (lv_at hl 0 rfl) ?_
  refine lv_iload_n hx0 hb dL_law_1089 rfl (lv_at hl 3 rfl) ?_
  refine lv_iconst (v := (2 : Int32)) hx0 hb dL_law_1090 (by decide) ?_
  refine lv_iadd hx0 hb dL_law_1091 ?_
  refine va_sld hx0 hb hX hbl hbA hS (vin (k := 2) (by omega) hL) dL_law_1092 ?_
  refine lv_aload_n hx0 hb dL_law_1093 rfl (lv_at hl 0 rfl) ?_
  refine lv_iload_n hx0 hb dL_law_1094 rfl (lv_at hl 3 rfl) ?_
  refine lv_iconst (v := (3 : Int32)) hx0 hb dL_law_1095 (by decide) ?_
  refine lv_iadd hx0 hb dL_law_1096 ?_
  refine va_sld hx0 hb hX hbl hbA hS (vin (k := 3) (by omega) hL) dL_law_1097 ?_
  refine CM_callW (C := RX10) (As := [.int (xs ((nI i) + (1 : Int32)).toNatClampNeg), .int (xs ((nI i) + (2 : Int32)).toNatClampNeg), .int (xs ((nI i) + (3 : Int32)).toNatClampNeg)]) (rest := [.int r]) (v := some (.int r)) ⟨hx0, hb, hml, hown, hts⟩ hcM (cwV 3 hts (gV0 kw_1087 kw_1088 kw_1089 kw_159 kw_1090) rfl rfl rfl (by decide +kernel) ⟨Nat.le_of_ble_eq_true rfl, Nat.le_of_ble_eq_true rfl⟩) (kS_env te) hK hP hD hS hA hE 90 8 rfl rfl rfl rfl hl.1 rfl (Nat.le_of_ble_eq_true rfl) dL_law_1098 hcs (fun H locs hP hD hS => ?_)
  show W p l e room_1 s m #[Value.ref b] below meth c H locs cells slots Q (F0 m 1101 ls [.int r, .int r])
  refine lv_icmp_eq (tgt := 1291) hx0 hb dL_law_1101 (by decide) (fun _ => ?_) (fun hne => absurd rfl hne)
  exact kk _ _ _ _ hI2 _ _ hP hD hS _ hl
set_option maxHeartbeats 8000000 in
set_option maxRecDepth 100000 in
theorem lc_type {INV : (Nat → Int32) → (Nat → Nat → Int32) → (Nat → Int32) → (Nat → Nat → Int32) → Prop} {p : Program} {l : Launch} {e : Env} {s : State} {m : MethodId} {below : List Frame} {meth : Method} {c : Code} {dC : Nat → ClassId} {dI : Nat → Nat → Nat} {cI cZ : ClassId} {te : Nat → Nat} {hx hm : Nat} {aX aM : Nat → Nat} {b L : Nat} {xs : Nat → Int32} {cells slots : Nat} {Q : State → Prop} (hL : L ≤ 3072) (C0 : lw_At p s m meth c b L xs) (hE : kS te (fun q : Nat => s.heap.size ≤ q) s s.heap) (hK : va_K (dC, dI) vwCl (kT cI cZ) s) (h : PP_type INV) {i : Nat} (hi : i + 6 ≤ L) (hcs : cells ≤ room_1.cells ∧ slots ≤ room_1.slots) {xi : Nat → Int32} {xa : Nat → Nat → Int32} {mi : Nat → Int32} {ma : Nat → Nat → Int32} (hI : INV xi xa mi ma)
    (kk : ∀ (xj : Nat → Int32) (xb : Nat → Nat → Int32) (mj : Nat → Int32) (mb : Nat → Nat → Int32), INV xj xb mj mb → ∀ (H : Heap) (locs : List Loc), va_P (dC, dI) vwCl (wW cI cZ hx hm aX aM xj xb mj mb) H → va_D (fun q : Nat => s.heap.size ≤ q) (wW cI cZ hx hm aX aM xj xb mj mb) → va_S (fun q : Nat => s.heap.size ≤ q) s.heap H locs → ∀ ls : Array Slot, lv_has ls 4 [(0, .ref b), (1, .ref hx), (2, .ref hm), (3, .int (nI i))] → W p l e room_1 s m #[Value.ref b] below meth c H locs cells slots Q (F0 m 1291 ls [])) :
    ∀ (H : Heap) (locs : List Loc), va_P (dC, dI) vwCl (wW cI cZ hx hm aX aM xi xa mi ma) H → va_D (fun q : Nat => s.heap.size ≤ q) (wW cI cZ hx hm aX aM xi xa mi ma) → va_S (fun q : Nat => s.heap.size ≤ q) s.heap H locs → ∀ ls : Array Slot, lv_has ls 4 [(0, .ref b), (1, .ref hx), (2, .ref hm), (3, .int (nI i))] → W p l e room_1 s m #[Value.ref b] below meth c H locs cells slots Q (F0 m 1106 ls []) := by
  obtain ⟨hx0, hb, hr, hml, hown, hts, hX, hbl, hlocks, hgv⟩ := C0
  have hts : ∀ w ∈ tG, w.before #[Value.ref b] s = true := fun w h => hts w (List.mem_filter.mp h).1
  have hown : s.vm.findClass RL = some m.cls := hown
  have hA : ∀ q : Nat, s.heap.size ≤ q → (fun q : Nat => s.heap.size ≤ q) q := fun _ h => h
  have hbA : ¬ (fun q : Nat => s.heap.size ≤ q) b := Nat.not_le.mpr hbl
  intro H locs hP hD hS ls hl
  refine lv_aload_n hx0 hb dL_law_1106 rfl (lv_at hl 1 rfl) ?_
  refine lv_aload_n hx0 hb dL_law_1107 rfl (lv_at hl 0 rfl) ?_
  refine lv_iload_n hx0 hb dL_law_1108 rfl (lv_at hl 3 rfl) ?_
  refine lv_iconst (v := (1 : Int32)) hx0 hb dL_law_1109 (by decide) ?_
  refine lv_iadd hx0 hb dL_law_1110 ?_
  refine va_sld hx0 hb hX hbl hbA hS (vin (k := 1) (by omega) hL) dL_law_1111 ?_
  refine lv_i2l hx0 hb dL_law_1112 rfl ?_
  refine lv_bipush (v := (32 : Int32)) hx0 hb dL_law_1113 (by decide) ?_
  refine lv_lshl hx0 hb dL_law_1115 rfl ?_
  refine lv_aload_n hx0 hb dL_law_1116 rfl (lv_at hl 0 rfl) ?_
  refine lv_iload_n hx0 hb dL_law_1117 rfl (lv_at hl 3 rfl) ?_
  refine lv_iconst (v := (2 : Int32)) hx0 hb dL_law_1118 (by decide) ?_
  refine lv_iadd hx0 hb dL_law_1119 ?_
  refine va_sld hx0 hb hX hbl hbA hS (vin (k := 2) (by omega) hL) dL_law_1120 ?_
  refine lv_i2l hx0 hb dL_law_1121 rfl ?_
  refine lv_ldc2 (v := (4294967295 : Int64)) hx0 hb hown (hts _ kw_1091) dL_law_1122 ?_
  refine lv_land hx0 hb dL_law_1125 ?_
  refine lv_lor hx0 hb dL_law_1126 ?_
  refine lv_aload_n hx0 hb dL_law_1127 rfl (lv_at hl 0 rfl) ?_
  refine lv_iload_n hx0 hb dL_law_1128 rfl (lv_at hl 3 rfl) ?_
  refine lv_iconst (v := (3 : Int32)) hx0 hb dL_law_1129 (by decide) ?_
  refine lv_iadd hx0 hb dL_law_1130 ?_
  refine va_sld hx0 hb hX hbl hbA hS (vin (k := 3) (by omega) hL) dL_law_1131 ?_
  obtain ⟨r, xj, xb, mj, mb, hcX, hcM, hI2⟩ := O_type l dC dI cI cZ te hx hm aX aM h (((xs ((nI i) + (1 : Int32)).toNatClampNeg).toInt64 <<< ((32 : Int32).toInt64 &&& 63)) ||| ((xs ((nI i) + (2 : Int32)).toNatClampNeg).toInt64 &&& (4294967295 : Int64))) (xs ((nI i) + (3 : Int32)).toNatClampNeg) xi xa mi ma hI
  refine CM_callW (C := RX9) (As := [.long (((xs ((nI i) + (1 : Int32)).toNatClampNeg).toInt64 <<< ((32 : Int32).toInt64 &&& 63)) ||| ((xs ((nI i) + (2 : Int32)).toNatClampNeg).toInt64 &&& (4294967295 : Int64))), .int (xs ((nI i) + (3 : Int32)).toNatClampNeg)]) (rest := []) (v := some (.int r)) ⟨hx0, hb, hml, hown, hts⟩ hcX (cwV 2 hts (gV0 kw_1092 kw_1093 kw_1094 kw_695 kw_1095) rfl rfl rfl (by decide +kernel) ⟨Nat.le_of_ble_eq_true rfl, Nat.le_of_ble_eq_true rfl⟩) (kS_env te) hK hP hD hS hA hE 0 7 rfl rfl rfl rfl hl.1 rfl (Nat.le_of_ble_eq_true rfl) dL_law_1132 hcs (fun H locs hP hD hS => ?_)
  show W p l e room_1 s m #[Value.ref b] below meth c H locs cells slots Q (F0 m 1135 ls [.int r])
  refine lv_aload_n hx0 hb dL_law_1135 rfl (lv_at hl 2 rfl) ?_
  refine lv_aload_n hx0 hb dL_law_1136 rfl (lv_at hl 0 rfl) ?_
  refine lv_iload_n hx0 hb dL_law_1137 rfl (lv_at hl 3 rfl) ?_
  refine lv_iconst (v := (1 : Int32)) hx0 hb dL_law_1138 (by decide) ?_
  refine lv_iadd hx0 hb dL_law_1139 ?_
  refine va_sld hx0 hb hX hbl hbA hS (vin (k := 1) (by omega) hL) dL_law_1140 ?_
  refine lv_i2l hx0 hb dL_law_1141 rfl ?_
  refine lv_bipush (v := (32 : Int32)) hx0 hb dL_law_1142 (by decide) ?_
  refine lv_lshl hx0 hb dL_law_1144 rfl ?_
  refine lv_aload_n hx0 hb dL_law_1145 rfl (lv_at hl 0 rfl) ?_
  refine lv_iload_n hx0 hb dL_law_1146 rfl (lv_at hl 3 rfl) ?_
  refine lv_iconst (v := (2 : Int32)) hx0 hb dL_law_1147 (by decide) ?_
  refine lv_iadd hx0 hb dL_law_1148 ?_
  refine va_sld hx0 hb hX hbl hbA hS (vin (k := 2) (by omega) hL) dL_law_1149 ?_
  refine lv_i2l hx0 hb dL_law_1150 rfl ?_
  refine lv_ldc2 (v := (4294967295 : Int64)) hx0 hb hown (hts _ kw_1091) dL_law_1151 ?_
  refine lv_land hx0 hb dL_law_1154 ?_
  refine lv_lor hx0 hb dL_law_1155 ?_
  refine lv_aload_n hx0 hb dL_law_1156 rfl (lv_at hl 0 rfl) ?_
  refine lv_iload_n hx0 hb dL_law_1157 rfl (lv_at hl 3 rfl) ?_
  refine lv_iconst (v := (3 : Int32)) hx0 hb dL_law_1158 (by decide) ?_
  refine lv_iadd hx0 hb dL_law_1159 ?_
  refine va_sld hx0 hb hX hbl hbA hS (vin (k := 3) (by omega) hL) dL_law_1160 ?_
  refine CM_callW (C := RX10) (As := [.long (((xs ((nI i) + (1 : Int32)).toNatClampNeg).toInt64 <<< ((32 : Int32).toInt64 &&& 63)) ||| ((xs ((nI i) + (2 : Int32)).toNatClampNeg).toInt64 &&& (4294967295 : Int64))), .int (xs ((nI i) + (3 : Int32)).toNatClampNeg)]) (rest := [.int r]) (v := some (.int r)) ⟨hx0, hb, hml, hown, hts⟩ hcM (cwV 2 hts (gV0 kw_1096 kw_1097 kw_1098 kw_159 kw_1099) rfl rfl rfl (by decide +kernel) ⟨Nat.le_of_ble_eq_true rfl, Nat.le_of_ble_eq_true rfl⟩) (kS_env te) hK hP hD hS hA hE 90 8 rfl rfl rfl rfl hl.1 rfl (Nat.le_of_ble_eq_true rfl) dL_law_1161 hcs (fun H locs hP hD hS => ?_)
  show W p l e room_1 s m #[Value.ref b] below meth c H locs cells slots Q (F0 m 1164 ls [.int r, .int r])
  refine lv_icmp_eq (tgt := 1291) hx0 hb dL_law_1164 (by decide) (fun _ => ?_) (fun hne => absurd rfl hne)
  exact kk _ _ _ _ hI2 _ _ hP hD hS _ hl
set_option maxHeartbeats 8000000 in
set_option maxRecDepth 100000 in
theorem lc_clear {INV : (Nat → Int32) → (Nat → Nat → Int32) → (Nat → Int32) → (Nat → Nat → Int32) → Prop} {p : Program} {l : Launch} {e : Env} {s : State} {m : MethodId} {below : List Frame} {meth : Method} {c : Code} {dC : Nat → ClassId} {dI : Nat → Nat → Nat} {cI cZ : ClassId} {te : Nat → Nat} {hx hm : Nat} {aX aM : Nat → Nat} {b L : Nat} {xs : Nat → Int32} {cells slots : Nat} {Q : State → Prop} (hL : L ≤ 3072) (C0 : lw_At p s m meth c b L xs) (hE : kS te (fun q : Nat => s.heap.size ≤ q) s s.heap) (hK : va_K (dC, dI) vwCl (kT cI cZ) s) (h : PP_clear INV) {i : Nat} (hi : i + 6 ≤ L) (hcs : cells ≤ room_1.cells ∧ slots ≤ room_1.slots) {xi : Nat → Int32} {xa : Nat → Nat → Int32} {mi : Nat → Int32} {ma : Nat → Nat → Int32} (hI : INV xi xa mi ma)
    (kk : ∀ (xj : Nat → Int32) (xb : Nat → Nat → Int32) (mj : Nat → Int32) (mb : Nat → Nat → Int32), INV xj xb mj mb → ∀ (H : Heap) (locs : List Loc), va_P (dC, dI) vwCl (wW cI cZ hx hm aX aM xj xb mj mb) H → va_D (fun q : Nat => s.heap.size ≤ q) (wW cI cZ hx hm aX aM xj xb mj mb) → va_S (fun q : Nat => s.heap.size ≤ q) s.heap H locs → ∀ ls : Array Slot, lv_has ls 4 [(0, .ref b), (1, .ref hx), (2, .ref hm), (3, .int (nI i))] → W p l e room_1 s m #[Value.ref b] below meth c H locs cells slots Q (F0 m 1291 ls [])) :
    ∀ (H : Heap) (locs : List Loc), va_P (dC, dI) vwCl (wW cI cZ hx hm aX aM xi xa mi ma) H → va_D (fun q : Nat => s.heap.size ≤ q) (wW cI cZ hx hm aX aM xi xa mi ma) → va_S (fun q : Nat => s.heap.size ≤ q) s.heap H locs → ∀ ls : Array Slot, lv_has ls 4 [(0, .ref b), (1, .ref hx), (2, .ref hm), (3, .int (nI i))] → W p l e room_1 s m #[Value.ref b] below meth c H locs cells slots Q (F0 m 1169 ls []) := by
  obtain ⟨hx0, hb, hr, hml, hown, hts, hX, hbl, hlocks, hgv⟩ := C0
  have hts : ∀ w ∈ tG, w.before #[Value.ref b] s = true := fun w h => hts w (List.mem_filter.mp h).1
  have hown : s.vm.findClass RL = some m.cls := hown
  have hA : ∀ q : Nat, s.heap.size ≤ q → (fun q : Nat => s.heap.size ≤ q) q := fun _ h => h
  have hbA : ¬ (fun q : Nat => s.heap.size ≤ q) b := Nat.not_le.mpr hbl
  intro H locs hP hD hS ls hl
  refine lv_aload_n hx0 hb dL_law_1169 rfl (lv_at hl 1 rfl) ?_
  obtain ⟨r, xj, xb, mj, mb, hcX, hcM, hI2⟩ := O_clear l dC dI cI cZ te hx hm aX aM h xi xa mi ma hI
  refine CM_callW (C := RX9) (As := []) (rest := []) (v := some (.int r)) ⟨hx0, hb, hml, hown, hts⟩ hcX (cwV 0 hts (gV0 kw_1100 kw_1101 kw_1102 kw_695 kw_1103) rfl rfl rfl (by decide +kernel) ⟨Nat.le_of_ble_eq_true rfl, Nat.le_of_ble_eq_true rfl⟩) (kS_env te) hK hP hD hS hA hE 0 7 rfl rfl rfl rfl hl.1 rfl (Nat.le_of_ble_eq_true rfl) dL_law_1170 hcs (fun H locs hP hD hS => ?_)
  show W p l e room_1 s m #[Value.ref b] below meth c H locs cells slots Q (F0 m 1173 ls [.int r])
  refine lv_aload_n hx0 hb dL_law_1173 rfl (lv_at hl 2 rfl) ?_
  refine CM_callW (C := RX10) (As := []) (rest := [.int r]) (v := some (.int r)) ⟨hx0, hb, hml, hown, hts⟩ hcM (cwV 0 hts (gV0 kw_1104 kw_1105 kw_1106 kw_159 kw_1107) rfl rfl rfl (by decide +kernel) ⟨Nat.le_of_ble_eq_true rfl, Nat.le_of_ble_eq_true rfl⟩) (kS_env te) hK hP hD hS hA hE 90 8 rfl rfl rfl rfl hl.1 rfl (Nat.le_of_ble_eq_true rfl) dL_law_1174 hcs (fun H locs hP hD hS => ?_)
  show W p l e room_1 s m #[Value.ref b] below meth c H locs cells slots Q (F0 m 1177 ls [.int r, .int r])
  refine lv_icmp_eq (tgt := 1291) hx0 hb dL_law_1177 (by decide) (fun _ => ?_) (fun hne => absurd rfl hne)
  exact kk _ _ _ _ hI2 _ _ hP hD hS _ hl
set_option maxHeartbeats 8000000 in
set_option maxRecDepth 100000 in
theorem lc_fault {INV : (Nat → Int32) → (Nat → Nat → Int32) → (Nat → Int32) → (Nat → Nat → Int32) → Prop} {p : Program} {l : Launch} {e : Env} {s : State} {m : MethodId} {below : List Frame} {meth : Method} {c : Code} {dC : Nat → ClassId} {dI : Nat → Nat → Nat} {cI cZ : ClassId} {te : Nat → Nat} {hx hm : Nat} {aX aM : Nat → Nat} {b L : Nat} {xs : Nat → Int32} {cells slots : Nat} {Q : State → Prop} (hL : L ≤ 3072) (C0 : lw_At p s m meth c b L xs) (hE : kS te (fun q : Nat => s.heap.size ≤ q) s s.heap) (hK : va_K (dC, dI) vwCl (kT cI cZ) s) (h : PP_fault INV) {i : Nat} (hi : i + 6 ≤ L) (hcs : cells ≤ room_1.cells ∧ slots ≤ room_1.slots) {xi : Nat → Int32} {xa : Nat → Nat → Int32} {mi : Nat → Int32} {ma : Nat → Nat → Int32} (hI : INV xi xa mi ma)
    (kk : ∀ (xj : Nat → Int32) (xb : Nat → Nat → Int32) (mj : Nat → Int32) (mb : Nat → Nat → Int32), INV xj xb mj mb → ∀ (H : Heap) (locs : List Loc), va_P (dC, dI) vwCl (wW cI cZ hx hm aX aM xj xb mj mb) H → va_D (fun q : Nat => s.heap.size ≤ q) (wW cI cZ hx hm aX aM xj xb mj mb) → va_S (fun q : Nat => s.heap.size ≤ q) s.heap H locs → ∀ ls : Array Slot, lv_has ls 4 [(0, .ref b), (1, .ref hx), (2, .ref hm), (3, .int (nI i))] → W p l e room_1 s m #[Value.ref b] below meth c H locs cells slots Q (F0 m 1291 ls [])) :
    ∀ (H : Heap) (locs : List Loc), va_P (dC, dI) vwCl (wW cI cZ hx hm aX aM xi xa mi ma) H → va_D (fun q : Nat => s.heap.size ≤ q) (wW cI cZ hx hm aX aM xi xa mi ma) → va_S (fun q : Nat => s.heap.size ≤ q) s.heap H locs → ∀ ls : Array Slot, lv_has ls 4 [(0, .ref b), (1, .ref hx), (2, .ref hm), (3, .int (nI i))] → W p l e room_1 s m #[Value.ref b] below meth c H locs cells slots Q (F0 m 1182 ls []) := by
  obtain ⟨hx0, hb, hr, hml, hown, hts, hX, hbl, hlocks, hgv⟩ := C0
  have hts : ∀ w ∈ tG, w.before #[Value.ref b] s = true := fun w h => hts w (List.mem_filter.mp h).1
  have hown : s.vm.findClass RL = some m.cls := hown
  have hA : ∀ q : Nat, s.heap.size ≤ q → (fun q : Nat => s.heap.size ≤ q) q := fun _ h => h
  have hbA : ¬ (fun q : Nat => s.heap.size ≤ q) b := Nat.not_le.mpr hbl
  intro H locs hP hD hS ls hl
  refine lv_aload_n hx0 hb dL_law_1182 rfl (lv_at hl 1 rfl) ?_
  obtain ⟨r, xj, xb, mj, mb, hcX, hcM, hI2⟩ := O_fault l dC dI cI cZ te hx hm aX aM h xi xa mi ma hI
  refine CM_callW (C := RX9) (As := []) (rest := []) (v := some (.int r)) ⟨hx0, hb, hml, hown, hts⟩ hcX (cwV 0 hts (gV0 kw_1108 kw_1109 kw_1110 kw_695 kw_1111) rfl rfl rfl (by decide +kernel) ⟨Nat.le_of_ble_eq_true rfl, Nat.le_of_ble_eq_true rfl⟩) (kS_env te) hK hP hD hS hA hE 0 7 rfl rfl rfl rfl hl.1 rfl (Nat.le_of_ble_eq_true rfl) dL_law_1183 hcs (fun H locs hP hD hS => ?_)
  show W p l e room_1 s m #[Value.ref b] below meth c H locs cells slots Q (F0 m 1186 ls [.int r])
  refine lv_aload_n hx0 hb dL_law_1186 rfl (lv_at hl 2 rfl) ?_
  refine CM_callW (C := RX10) (As := []) (rest := [.int r]) (v := some (.int r)) ⟨hx0, hb, hml, hown, hts⟩ hcM (cwV 0 hts (gV0 kw_1112 kw_1113 kw_1114 kw_159 kw_1115) rfl rfl rfl (by decide +kernel) ⟨Nat.le_of_ble_eq_true rfl, Nat.le_of_ble_eq_true rfl⟩) (kS_env te) hK hP hD hS hA hE 90 8 rfl rfl rfl rfl hl.1 rfl (Nat.le_of_ble_eq_true rfl) dL_law_1187 hcs (fun H locs hP hD hS => ?_)
  show W p l e room_1 s m #[Value.ref b] below meth c H locs cells slots Q (F0 m 1190 ls [.int r, .int r])
  refine lv_icmp_eq (tgt := 1291) hx0 hb dL_law_1190 (by decide) (fun _ => ?_) (fun hne => absurd rfl hne)
  exact kk _ _ _ _ hI2 _ _ hP hD hS _ hl
set_option maxHeartbeats 8000000 in
set_option maxRecDepth 100000 in
theorem lc_read {INV : (Nat → Int32) → (Nat → Nat → Int32) → (Nat → Int32) → (Nat → Nat → Int32) → Prop} {p : Program} {l : Launch} {e : Env} {s : State} {m : MethodId} {below : List Frame} {meth : Method} {c : Code} {dC : Nat → ClassId} {dI : Nat → Nat → Nat} {cI cZ : ClassId} {te : Nat → Nat} {hx hm : Nat} {aX aM : Nat → Nat} {b L : Nat} {xs : Nat → Int32} {cells slots : Nat} {Q : State → Prop} (hL : L ≤ 3072) (C0 : lw_At p s m meth c b L xs) (hE : kS te (fun q : Nat => s.heap.size ≤ q) s s.heap) (hK : va_K (dC, dI) vwCl (kT cI cZ) s) (h : PP_read INV) {i : Nat} (hi : i + 6 ≤ L) (hcs : cells ≤ room_1.cells ∧ slots ≤ room_1.slots) {xi : Nat → Int32} {xa : Nat → Nat → Int32} {mi : Nat → Int32} {ma : Nat → Nat → Int32} (hI : INV xi xa mi ma)
    (kk : ∀ (xj : Nat → Int32) (xb : Nat → Nat → Int32) (mj : Nat → Int32) (mb : Nat → Nat → Int32), INV xj xb mj mb → ∀ (H : Heap) (locs : List Loc), va_P (dC, dI) vwCl (wW cI cZ hx hm aX aM xj xb mj mb) H → va_D (fun q : Nat => s.heap.size ≤ q) (wW cI cZ hx hm aX aM xj xb mj mb) → va_S (fun q : Nat => s.heap.size ≤ q) s.heap H locs → ∀ ls : Array Slot, lv_has ls 4 [(0, .ref b), (1, .ref hx), (2, .ref hm), (3, .int (nI i))] → W p l e room_1 s m #[Value.ref b] below meth c H locs cells slots Q (F0 m 1291 ls [])) :
    ∀ (H : Heap) (locs : List Loc), va_P (dC, dI) vwCl (wW cI cZ hx hm aX aM xi xa mi ma) H → va_D (fun q : Nat => s.heap.size ≤ q) (wW cI cZ hx hm aX aM xi xa mi ma) → va_S (fun q : Nat => s.heap.size ≤ q) s.heap H locs → ∀ ls : Array Slot, lv_has ls 4 [(0, .ref b), (1, .ref hx), (2, .ref hm), (3, .int (nI i))] → W p l e room_1 s m #[Value.ref b] below meth c H locs cells slots Q (F0 m 1195 ls []) := by
  obtain ⟨hx0, hb, hr, hml, hown, hts, hX, hbl, hlocks, hgv⟩ := C0
  have hts : ∀ w ∈ tG, w.before #[Value.ref b] s = true := fun w h => hts w (List.mem_filter.mp h).1
  have hown : s.vm.findClass RL = some m.cls := hown
  have hA : ∀ q : Nat, s.heap.size ≤ q → (fun q : Nat => s.heap.size ≤ q) q := fun _ h => h
  have hbA : ¬ (fun q : Nat => s.heap.size ≤ q) b := Nat.not_le.mpr hbl
  intro H locs hP hD hS ls hl
  refine lv_aload_n hx0 hb dL_law_1195 rfl (lv_at hl 1 rfl) ?_
  obtain ⟨r, xj, xb, mj, mb, hcX, hcM, hI2⟩ := O_read l dC dI cI cZ te hx hm aX aM h xi xa mi ma hI
  refine CM_callW (C := RX9) (As := []) (rest := []) (v := some (.int r)) ⟨hx0, hb, hml, hown, hts⟩ hcX (cwV 0 hts (gV0 kw_1116 kw_1117 kw_1118 kw_695 kw_1119) rfl rfl rfl (by decide +kernel) ⟨Nat.le_of_ble_eq_true rfl, Nat.le_of_ble_eq_true rfl⟩) (kS_env te) hK hP hD hS hA hE 0 7 rfl rfl rfl rfl hl.1 rfl (Nat.le_of_ble_eq_true rfl) dL_law_1196 hcs (fun H locs hP hD hS => ?_)
  show W p l e room_1 s m #[Value.ref b] below meth c H locs cells slots Q (F0 m 1199 ls [.int r])
  refine lv_aload_n hx0 hb dL_law_1199 rfl (lv_at hl 2 rfl) ?_
  refine CM_callW (C := RX10) (As := []) (rest := [.int r]) (v := some (.int r)) ⟨hx0, hb, hml, hown, hts⟩ hcM (cwV 0 hts (gV0 kw_1120 kw_1121 kw_1122 kw_159 kw_1123) rfl rfl rfl (by decide +kernel) ⟨Nat.le_of_ble_eq_true rfl, Nat.le_of_ble_eq_true rfl⟩) (kS_env te) hK hP hD hS hA hE 90 8 rfl rfl rfl rfl hl.1 rfl (Nat.le_of_ble_eq_true rfl) dL_law_1200 hcs (fun H locs hP hD hS => ?_)
  show W p l e room_1 s m #[Value.ref b] below meth c H locs cells slots Q (F0 m 1203 ls [.int r, .int r])
  refine lv_icmp_eq (tgt := 1291) hx0 hb dL_law_1203 (by decide) (fun _ => ?_) (fun hne => absurd rfl hne)
  exact kk _ _ _ _ hI2 _ _ hP hD hS _ hl
set_option maxHeartbeats 8000000 in
set_option maxRecDepth 100000 in
theorem lc_image {INV : (Nat → Int32) → (Nat → Nat → Int32) → (Nat → Int32) → (Nat → Nat → Int32) → Prop} {p : Program} {l : Launch} {e : Env} {s : State} {m : MethodId} {below : List Frame} {meth : Method} {c : Code} {dC : Nat → ClassId} {dI : Nat → Nat → Nat} {cI cZ : ClassId} {te : Nat → Nat} {hx hm : Nat} {aX aM : Nat → Nat} {b L : Nat} {xs : Nat → Int32} {cells slots : Nat} {Q : State → Prop} (hL : L ≤ 3072) (C0 : lw_At p s m meth c b L xs) (hE : kS te (fun q : Nat => s.heap.size ≤ q) s s.heap) (hK : va_K (dC, dI) vwCl (kT cI cZ) s) (h : PP_image INV) {i : Nat} (hi : i + 6 ≤ L) (hcs : cells ≤ room_1.cells ∧ slots ≤ room_1.slots) {xi : Nat → Int32} {xa : Nat → Nat → Int32} {mi : Nat → Int32} {ma : Nat → Nat → Int32} (hI : INV xi xa mi ma)
    (kk : ∀ (xj : Nat → Int32) (xb : Nat → Nat → Int32) (mj : Nat → Int32) (mb : Nat → Nat → Int32), INV xj xb mj mb → ∀ (H : Heap) (locs : List Loc), va_P (dC, dI) vwCl (wW cI cZ hx hm aX aM xj xb mj mb) H → va_D (fun q : Nat => s.heap.size ≤ q) (wW cI cZ hx hm aX aM xj xb mj mb) → va_S (fun q : Nat => s.heap.size ≤ q) s.heap H locs → ∀ ls : Array Slot, lv_has ls 4 [(0, .ref b), (1, .ref hx), (2, .ref hm), (3, .int (nI i))] → W p l e room_1 s m #[Value.ref b] below meth c H locs cells slots Q (F0 m 1291 ls [])) :
    ∀ (H : Heap) (locs : List Loc), va_P (dC, dI) vwCl (wW cI cZ hx hm aX aM xi xa mi ma) H → va_D (fun q : Nat => s.heap.size ≤ q) (wW cI cZ hx hm aX aM xi xa mi ma) → va_S (fun q : Nat => s.heap.size ≤ q) s.heap H locs → ∀ ls : Array Slot, lv_has ls 4 [(0, .ref b), (1, .ref hx), (2, .ref hm), (3, .int (nI i))] → W p l e room_1 s m #[Value.ref b] below meth c H locs cells slots Q (F0 m 1208 ls []) := by
  obtain ⟨hx0, hb, hr, hml, hown, hts, hX, hbl, hlocks, hgv⟩ := C0
  have hts : ∀ w ∈ tG, w.before #[Value.ref b] s = true := fun w h => hts w (List.mem_filter.mp h).1
  have hown : s.vm.findClass RL = some m.cls := hown
  have hA : ∀ q : Nat, s.heap.size ≤ q → (fun q : Nat => s.heap.size ≤ q) q := fun _ h => h
  have hbA : ¬ (fun q : Nat => s.heap.size ≤ q) b := Nat.not_le.mpr hbl
  intro H locs hP hD hS ls hl
  refine lv_aload_n hx0 hb dL_law_1208 rfl (lv_at hl 1 rfl) ?_
  refine lv_aload_n hx0 hb dL_law_1209 rfl (lv_at hl 0 rfl) ?_
  refine lv_iload_n hx0 hb dL_law_1210 rfl (lv_at hl 3 rfl) ?_
  refine lv_iconst (v := (1 : Int32)) hx0 hb dL_law_1211 (by decide) ?_
  refine lv_iadd hx0 hb dL_law_1212 ?_
  refine va_sld hx0 hb hX hbl hbA hS (vin (k := 1) (by omega) hL) dL_law_1213 ?_
  obtain ⟨r, xj, xb, mj, mb, hcX, hcM, hI2⟩ := O_image l dC dI cI cZ te hx hm aX aM h (xs ((nI i) + (1 : Int32)).toNatClampNeg) xi xa mi ma hI
  refine CM_callW (C := RX9) (As := [.int (xs ((nI i) + (1 : Int32)).toNatClampNeg)]) (rest := []) (v := some (.int r)) ⟨hx0, hb, hml, hown, hts⟩ hcX (cwV 1 hts (gV0 kw_1124 kw_1125 kw_1126 kw_695 kw_1127) rfl rfl rfl (by decide +kernel) ⟨Nat.le_of_ble_eq_true rfl, Nat.le_of_ble_eq_true rfl⟩) (kS_env te) hK hP hD hS hA hE 0 7 rfl rfl rfl rfl hl.1 rfl (Nat.le_of_ble_eq_true rfl) dL_law_1214 hcs (fun H locs hP hD hS => ?_)
  show W p l e room_1 s m #[Value.ref b] below meth c H locs cells slots Q (F0 m 1217 ls [.int r])
  refine lv_aload_n hx0 hb dL_law_1217 rfl (lv_at hl 2 rfl) ?_
  refine lv_aload_n hx0 hb dL_law_1218 rfl (lv_at hl 0 rfl) ?_
  refine lv_iload_n hx0 hb dL_law_1219 rfl (lv_at hl 3 rfl) ?_
  refine lv_iconst (v := (1 : Int32)) hx0 hb dL_law_1220 (by decide) ?_
  refine lv_iadd hx0 hb dL_law_1221 ?_
  refine va_sld hx0 hb hX hbl hbA hS (vin (k := 1) (by omega) hL) dL_law_1222 ?_
  refine CM_callW (C := RX10) (As := [.int (xs ((nI i) + (1 : Int32)).toNatClampNeg)]) (rest := [.int r]) (v := some (.int r)) ⟨hx0, hb, hml, hown, hts⟩ hcM (cwV 1 hts (gV0 kw_1128 kw_1129 kw_1130 kw_159 kw_1131) rfl rfl rfl (by decide +kernel) ⟨Nat.le_of_ble_eq_true rfl, Nat.le_of_ble_eq_true rfl⟩) (kS_env te) hK hP hD hS hA hE 90 8 rfl rfl rfl rfl hl.1 rfl (Nat.le_of_ble_eq_true rfl) dL_law_1223 hcs (fun H locs hP hD hS => ?_)
  show W p l e room_1 s m #[Value.ref b] below meth c H locs cells slots Q (F0 m 1226 ls [.int r, .int r])
  refine lv_icmp_eq (tgt := 1291) hx0 hb dL_law_1226 (by decide) (fun _ => ?_) (fun hne => absurd rfl hne)
  exact kk _ _ _ _ hI2 _ _ hP hD hS _ hl
set_option maxHeartbeats 8000000 in
set_option maxRecDepth 100000 in
theorem lc_from {INV : (Nat → Int32) → (Nat → Nat → Int32) → (Nat → Int32) → (Nat → Nat → Int32) → Prop} {p : Program} {l : Launch} {e : Env} {s : State} {m : MethodId} {below : List Frame} {meth : Method} {c : Code} {dC : Nat → ClassId} {dI : Nat → Nat → Nat} {cI cZ : ClassId} {te : Nat → Nat} {hx hm : Nat} {aX aM : Nat → Nat} {b L : Nat} {xs : Nat → Int32} {cells slots : Nat} {Q : State → Prop} (hL : L ≤ 3072) (C0 : lw_At p s m meth c b L xs) (hE : kS te (fun q : Nat => s.heap.size ≤ q) s s.heap) (hK : va_K (dC, dI) vwCl (kT cI cZ) s) (h : PP_from INV) {i : Nat} (hi : i + 6 ≤ L) (hcs : cells ≤ room_1.cells ∧ slots ≤ room_1.slots) {xi : Nat → Int32} {xa : Nat → Nat → Int32} {mi : Nat → Int32} {ma : Nat → Nat → Int32} (hI : INV xi xa mi ma)
    (kk : ∀ (xj : Nat → Int32) (xb : Nat → Nat → Int32) (mj : Nat → Int32) (mb : Nat → Nat → Int32), INV xj xb mj mb → ∀ (H : Heap) (locs : List Loc), va_P (dC, dI) vwCl (wW cI cZ hx hm aX aM xj xb mj mb) H → va_D (fun q : Nat => s.heap.size ≤ q) (wW cI cZ hx hm aX aM xj xb mj mb) → va_S (fun q : Nat => s.heap.size ≤ q) s.heap H locs → ∀ ls : Array Slot, lv_has ls 4 [(0, .ref b), (1, .ref hx), (2, .ref hm), (3, .int (nI i))] → W p l e room_1 s m #[Value.ref b] below meth c H locs cells slots Q (F0 m 1291 ls [])) :
    ∀ (H : Heap) (locs : List Loc), va_P (dC, dI) vwCl (wW cI cZ hx hm aX aM xi xa mi ma) H → va_D (fun q : Nat => s.heap.size ≤ q) (wW cI cZ hx hm aX aM xi xa mi ma) → va_S (fun q : Nat => s.heap.size ≤ q) s.heap H locs → ∀ ls : Array Slot, lv_has ls 4 [(0, .ref b), (1, .ref hx), (2, .ref hm), (3, .int (nI i))] → W p l e room_1 s m #[Value.ref b] below meth c H locs cells slots Q (F0 m 1231 ls []) := by
  obtain ⟨hx0, hb, hr, hml, hown, hts, hX, hbl, hlocks, hgv⟩ := C0
  have hts : ∀ w ∈ tG, w.before #[Value.ref b] s = true := fun w h => hts w (List.mem_filter.mp h).1
  have hown : s.vm.findClass RL = some m.cls := hown
  have hA : ∀ q : Nat, s.heap.size ≤ q → (fun q : Nat => s.heap.size ≤ q) q := fun _ h => h
  have hbA : ¬ (fun q : Nat => s.heap.size ≤ q) b := Nat.not_le.mpr hbl
  intro H locs hP hD hS ls hl
  refine lv_aload_n hx0 hb dL_law_1231 rfl (lv_at hl 1 rfl) ?_
  refine lv_aload_n hx0 hb dL_law_1232 rfl (lv_at hl 0 rfl) ?_
  refine lv_iload_n hx0 hb dL_law_1233 rfl (lv_at hl 3 rfl) ?_
  refine lv_iconst (v := (1 : Int32)) hx0 hb dL_law_1234 (by decide) ?_
  refine lv_iadd hx0 hb dL_law_1235 ?_
  refine va_sld hx0 hb hX hbl hbA hS (vin (k := 1) (by omega) hL) dL_law_1236 ?_
  obtain ⟨r, xj, xb, mj, mb, hcX, hcM, hI2⟩ := O_from l dC dI cI cZ te hx hm aX aM h (xs ((nI i) + (1 : Int32)).toNatClampNeg) xi xa mi ma hI
  refine CM_callW (C := RX9) (As := [.int (xs ((nI i) + (1 : Int32)).toNatClampNeg)]) (rest := []) (v := some (.int r)) ⟨hx0, hb, hml, hown, hts⟩ hcX (cwV 1 hts (gV0 kw_1132 kw_1133 kw_1134 kw_695 kw_1135) rfl rfl rfl (by decide +kernel) ⟨Nat.le_of_ble_eq_true rfl, Nat.le_of_ble_eq_true rfl⟩) (kS_env te) hK hP hD hS hA hE 0 7 rfl rfl rfl rfl hl.1 rfl (Nat.le_of_ble_eq_true rfl) dL_law_1237 hcs (fun H locs hP hD hS => ?_)
  show W p l e room_1 s m #[Value.ref b] below meth c H locs cells slots Q (F0 m 1240 ls [.int r])
  refine lv_aload_n hx0 hb dL_law_1240 rfl (lv_at hl 2 rfl) ?_
  refine lv_aload_n hx0 hb dL_law_1241 rfl (lv_at hl 0 rfl) ?_
  refine lv_iload_n hx0 hb dL_law_1242 rfl (lv_at hl 3 rfl) ?_
  refine lv_iconst (v := (1 : Int32)) hx0 hb dL_law_1243 (by decide) ?_
  refine lv_iadd hx0 hb dL_law_1244 ?_
  refine va_sld hx0 hb hX hbl hbA hS (vin (k := 1) (by omega) hL) dL_law_1245 ?_
  refine CM_callW (C := RX10) (As := [.int (xs ((nI i) + (1 : Int32)).toNatClampNeg)]) (rest := [.int r]) (v := some (.int r)) ⟨hx0, hb, hml, hown, hts⟩ hcM (cwV 1 hts (gV0 kw_1136 kw_1137 kw_1138 kw_159 kw_1139) rfl rfl rfl (by decide +kernel) ⟨Nat.le_of_ble_eq_true rfl, Nat.le_of_ble_eq_true rfl⟩) (kS_env te) hK hP hD hS hA hE 90 8 rfl rfl rfl rfl hl.1 rfl (Nat.le_of_ble_eq_true rfl) dL_law_1246 hcs (fun H locs hP hD hS => ?_)
  show W p l e room_1 s m #[Value.ref b] below meth c H locs cells slots Q (F0 m 1249 ls [.int r, .int r])
  refine lv_icmp_eq (tgt := 1291) hx0 hb dL_law_1249 (by decide) (fun _ => ?_) (fun hne => absurd rfl hne)
  exact kk _ _ _ _ hI2 _ _ hP hD hS _ hl
set_option maxHeartbeats 8000000 in
set_option maxRecDepth 100000 in
theorem lc_count {INV : (Nat → Int32) → (Nat → Nat → Int32) → (Nat → Int32) → (Nat → Nat → Int32) → Prop} {p : Program} {l : Launch} {e : Env} {s : State} {m : MethodId} {below : List Frame} {meth : Method} {c : Code} {dC : Nat → ClassId} {dI : Nat → Nat → Nat} {cI cZ : ClassId} {te : Nat → Nat} {hx hm : Nat} {aX aM : Nat → Nat} {b L : Nat} {xs : Nat → Int32} {cells slots : Nat} {Q : State → Prop} (hL : L ≤ 3072) (C0 : lw_At p s m meth c b L xs) (hE : kS te (fun q : Nat => s.heap.size ≤ q) s s.heap) (hK : va_K (dC, dI) vwCl (kT cI cZ) s) (h : PP_count INV) {i : Nat} (hi : i + 6 ≤ L) (hcs : cells ≤ room_1.cells ∧ slots ≤ room_1.slots) {xi : Nat → Int32} {xa : Nat → Nat → Int32} {mi : Nat → Int32} {ma : Nat → Nat → Int32} (hI : INV xi xa mi ma)
    (kk : ∀ (xj : Nat → Int32) (xb : Nat → Nat → Int32) (mj : Nat → Int32) (mb : Nat → Nat → Int32), INV xj xb mj mb → ∀ (H : Heap) (locs : List Loc), va_P (dC, dI) vwCl (wW cI cZ hx hm aX aM xj xb mj mb) H → va_D (fun q : Nat => s.heap.size ≤ q) (wW cI cZ hx hm aX aM xj xb mj mb) → va_S (fun q : Nat => s.heap.size ≤ q) s.heap H locs → ∀ ls : Array Slot, lv_has ls 4 [(0, .ref b), (1, .ref hx), (2, .ref hm), (3, .int (nI i))] → W p l e room_1 s m #[Value.ref b] below meth c H locs cells slots Q (F0 m 1291 ls [])) :
    ∀ (H : Heap) (locs : List Loc), va_P (dC, dI) vwCl (wW cI cZ hx hm aX aM xi xa mi ma) H → va_D (fun q : Nat => s.heap.size ≤ q) (wW cI cZ hx hm aX aM xi xa mi ma) → va_S (fun q : Nat => s.heap.size ≤ q) s.heap H locs → ∀ ls : Array Slot, lv_has ls 4 [(0, .ref b), (1, .ref hx), (2, .ref hm), (3, .int (nI i))] → W p l e room_1 s m #[Value.ref b] below meth c H locs cells slots Q (F0 m 1254 ls []) := by
  obtain ⟨hx0, hb, hr, hml, hown, hts, hX, hbl, hlocks, hgv⟩ := C0
  have hts : ∀ w ∈ tG, w.before #[Value.ref b] s = true := fun w h => hts w (List.mem_filter.mp h).1
  have hown : s.vm.findClass RL = some m.cls := hown
  have hA : ∀ q : Nat, s.heap.size ≤ q → (fun q : Nat => s.heap.size ≤ q) q := fun _ h => h
  have hbA : ¬ (fun q : Nat => s.heap.size ≤ q) b := Nat.not_le.mpr hbl
  intro H locs hP hD hS ls hl
  refine lv_aload_n hx0 hb dL_law_1254 rfl (lv_at hl 1 rfl) ?_
  refine lv_aload_n hx0 hb dL_law_1255 rfl (lv_at hl 0 rfl) ?_
  refine lv_iload_n hx0 hb dL_law_1256 rfl (lv_at hl 3 rfl) ?_
  refine lv_iconst (v := (1 : Int32)) hx0 hb dL_law_1257 (by decide) ?_
  refine lv_iadd hx0 hb dL_law_1258 ?_
  refine va_sld hx0 hb hX hbl hbA hS (vin (k := 1) (by omega) hL) dL_law_1259 ?_
  obtain ⟨r, xj, xb, mj, mb, hcX, hcM, hI2⟩ := O_count l dC dI cI cZ te hx hm aX aM h (xs ((nI i) + (1 : Int32)).toNatClampNeg) xi xa mi ma hI
  refine CM_callW (C := RX9) (As := [.int (xs ((nI i) + (1 : Int32)).toNatClampNeg)]) (rest := []) (v := some (.int r)) ⟨hx0, hb, hml, hown, hts⟩ hcX (cwV 1 hts (gV0 kw_1140 kw_896 kw_897 kw_695 kw_898) rfl rfl rfl (by decide +kernel) ⟨Nat.le_of_ble_eq_true rfl, Nat.le_of_ble_eq_true rfl⟩) (kS_env te) hK hP hD hS hA hE 0 7 rfl rfl rfl rfl hl.1 rfl (Nat.le_of_ble_eq_true rfl) dL_law_1260 hcs (fun H locs hP hD hS => ?_)
  show W p l e room_1 s m #[Value.ref b] below meth c H locs cells slots Q (F0 m 1263 ls [.int r])
  refine lv_aload_n hx0 hb dL_law_1263 rfl (lv_at hl 2 rfl) ?_
  refine lv_aload_n hx0 hb dL_law_1264 rfl (lv_at hl 0 rfl) ?_
  refine lv_iload_n hx0 hb dL_law_1265 rfl (lv_at hl 3 rfl) ?_
  refine lv_iconst (v := (1 : Int32)) hx0 hb dL_law_1266 (by decide) ?_
  refine lv_iadd hx0 hb dL_law_1267 ?_
  refine va_sld hx0 hb hX hbl hbA hS (vin (k := 1) (by omega) hL) dL_law_1268 ?_
  refine CM_callW (C := RX10) (As := [.int (xs ((nI i) + (1 : Int32)).toNatClampNeg)]) (rest := [.int r]) (v := some (.int r)) ⟨hx0, hb, hml, hown, hts⟩ hcM (cwV 1 hts (gV0 kw_1141 kw_1142 kw_1143 kw_159 kw_1144) rfl rfl rfl (by decide +kernel) ⟨Nat.le_of_ble_eq_true rfl, Nat.le_of_ble_eq_true rfl⟩) (kS_env te) hK hP hD hS hA hE 90 8 rfl rfl rfl rfl hl.1 rfl (Nat.le_of_ble_eq_true rfl) dL_law_1269 hcs (fun H locs hP hD hS => ?_)
  show W p l e room_1 s m #[Value.ref b] below meth c H locs cells slots Q (F0 m 1272 ls [.int r, .int r])
  refine lv_icmp_eq (tgt := 1291) hx0 hb dL_law_1272 (by decide) (fun _ => ?_) (fun hne => absurd rfl hne)
  exact kk _ _ _ _ hI2 _ _ hP hD hS _ hl
set_option maxHeartbeats 8000000 in
set_option maxRecDepth 100000 in
theorem lc_digest {INV : (Nat → Int32) → (Nat → Nat → Int32) → (Nat → Int32) → (Nat → Nat → Int32) → Prop} {p : Program} {l : Launch} {e : Env} {s : State} {m : MethodId} {below : List Frame} {meth : Method} {c : Code} {dC : Nat → ClassId} {dI : Nat → Nat → Nat} {cI cZ : ClassId} {te : Nat → Nat} {hx hm : Nat} {aX aM : Nat → Nat} {b L : Nat} {xs : Nat → Int32} {cells slots : Nat} {Q : State → Prop} (hL : L ≤ 3072) (C0 : lw_At p s m meth c b L xs) (hE : kS te (fun q : Nat => s.heap.size ≤ q) s s.heap) (hK : va_K (dC, dI) vwCl (kT cI cZ) s) (h : PP_digest INV) {i : Nat} (hi : i + 6 ≤ L) (hcs : cells ≤ room_1.cells ∧ slots ≤ room_1.slots) {xi : Nat → Int32} {xa : Nat → Nat → Int32} {mi : Nat → Int32} {ma : Nat → Nat → Int32} (hI : INV xi xa mi ma)
    (kk : ∀ (xj : Nat → Int32) (xb : Nat → Nat → Int32) (mj : Nat → Int32) (mb : Nat → Nat → Int32), INV xj xb mj mb → ∀ (H : Heap) (locs : List Loc), va_P (dC, dI) vwCl (wW cI cZ hx hm aX aM xj xb mj mb) H → va_D (fun q : Nat => s.heap.size ≤ q) (wW cI cZ hx hm aX aM xj xb mj mb) → va_S (fun q : Nat => s.heap.size ≤ q) s.heap H locs → ∀ ls : Array Slot, lv_has ls 4 [(0, .ref b), (1, .ref hx), (2, .ref hm), (3, .int (nI i))] → W p l e room_1 s m #[Value.ref b] below meth c H locs cells slots Q (F0 m 1291 ls [])) :
    ∀ (H : Heap) (locs : List Loc), va_P (dC, dI) vwCl (wW cI cZ hx hm aX aM xi xa mi ma) H → va_D (fun q : Nat => s.heap.size ≤ q) (wW cI cZ hx hm aX aM xi xa mi ma) → va_S (fun q : Nat => s.heap.size ≤ q) s.heap H locs → ∀ ls : Array Slot, lv_has ls 4 [(0, .ref b), (1, .ref hx), (2, .ref hm), (3, .int (nI i))] → W p l e room_1 s m #[Value.ref b] below meth c H locs cells slots Q (F0 m 1277 ls []) := by
  obtain ⟨hx0, hb, hr, hml, hown, hts, hX, hbl, hlocks, hgv⟩ := C0
  have hts : ∀ w ∈ tG, w.before #[Value.ref b] s = true := fun w h => hts w (List.mem_filter.mp h).1
  have hown : s.vm.findClass RL = some m.cls := hown
  have hA : ∀ q : Nat, s.heap.size ≤ q → (fun q : Nat => s.heap.size ≤ q) q := fun _ h => h
  have hbA : ¬ (fun q : Nat => s.heap.size ≤ q) b := Nat.not_le.mpr hbl
  intro H locs hP hD hS ls hl
  refine lv_aload_n hx0 hb dL_law_1277 rfl (lv_at hl 1 rfl) ?_
  obtain ⟨r, xj, xb, mj, mb, hcX, hcM, hI2⟩ := O_digest l dC dI cI cZ te hx hm aX aM h xi xa mi ma hI
  refine CM_callW (C := RX9) (As := []) (rest := []) (v := some (.long r)) ⟨hx0, hb, hml, hown, hts⟩ hcX (cwV 0 hts (gV0 kw_1145 kw_1146 kw_1147 kw_695 kw_1148) rfl rfl rfl (by decide +kernel) ⟨Nat.le_of_ble_eq_true rfl, Nat.le_of_ble_eq_true rfl⟩) (kS_env te) hK hP hD hS hA hE 0 7 rfl rfl rfl rfl hl.1 rfl (Nat.le_of_ble_eq_true rfl) dL_law_1278 hcs (fun H locs hP hD hS => ?_)
  show W p l e room_1 s m #[Value.ref b] below meth c H locs cells slots Q (F0 m 1281 ls [.long r])
  refine lv_aload_n hx0 hb dL_law_1281 rfl (lv_at hl 2 rfl) ?_
  refine CM_callW (C := RX10) (As := []) (rest := [.long r]) (v := some (.long r)) ⟨hx0, hb, hml, hown, hts⟩ hcM (cwV 0 hts (gV0 kw_1149 kw_1150 kw_1151 kw_159 kw_1152) rfl rfl rfl (by decide +kernel) ⟨Nat.le_of_ble_eq_true rfl, Nat.le_of_ble_eq_true rfl⟩) (kS_env te) hK hP hD hS hA hE 90 8 rfl rfl rfl rfl hl.1 rfl (Nat.le_of_ble_eq_true rfl) dL_law_1282 hcs (fun H locs hP hD hS => ?_)
  show W p l e room_1 s m #[Value.ref b] below meth c H locs cells slots Q (F0 m 1285 ls [.long r, .long r])
  refine W.lcmp hx0 hb dL_law_1285 ?_
  refine lv_if_eq (tgt := 1291) hx0 hb dL_law_1286 (by decide) (fun _ => ?_) (fun hne => absurd (lg_self r) hne)
  exact kk _ _ _ _ hI2 _ _ hP hD hS _ hl
