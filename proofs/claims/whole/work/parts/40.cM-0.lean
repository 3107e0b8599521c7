def rmJ6_numberOfTrailingZeros_0f7a4 : Room := { frames := 0, cells := 0, slots := 0, locals := 0 }
abbrev wqJ6_numberOfTrailingZeros_0f7a4 : List Cond := Cond.code yJ6_numberOfTrailingZeros_0f7a4 cJ6_numberOfTrailingZeros_0f7a4 2 (some .int) :: tG
set_option maxHeartbeats 4000000 in
set_option maxRecDepth 100000 in
theorem c_J6_numberOfTrailingZeros_0f7a4 (l : Launch) (dC : Nat → ClassId) (dI : Nat → Nat → Nat) (cI cZ : ClassId) (te : Nat → Nat) (p1 : Int32) (o0 : Int32) (hf : f_J6_numberOfTrailingZeros_0f7a4 p1 = some o0) : CM l yJ6_numberOfTrailingZeros_0f7a4 wqJ6_numberOfTrailingZeros_0f7a4 rmJ6_numberOfTrailingZeros_0f7a4 (kS te) dC dI cI cZ [.int p1] [] [] (some (.int o0)) := by
  refine CM_of (cc := cJ6_numberOfTrailingZeros_0f7a4) (maxL := 2) (ret := (some .int)) (by decide +kernel) rfl (Nat.le_of_ble_eq_true rfl) ?_
  intro p e s m args below meth c A Q hx hb hr hml hown hts hlocks hA hK hP hD hS hE hQ hAe ls hl
  have hown : s.vm.findClass RJ6 = some m.cls := hown
  have hl : lv_has ls 2 [(0, .int p1)] := hl
  unfold f_J6_numberOfTrailingZeros_0f7a4 at hf
  refine lv_iload_n hx hb dJ6_numberOfTrailingZeros_0f7a4_0 rfl (lv_at hl 0 rfl) ?_
  refine lv_iconst (v := (-1 : Int32)) hx hb dJ6_numberOfTrailingZeros_0f7a4_1 (by decide) ?_
  refine lv_ixor hx hb dJ6_numberOfTrailingZeros_0f7a4_2 ?_
  refine lv_iload_n hx hb dJ6_numberOfTrailingZeros_0f7a4_3 rfl (lv_at hl 0 rfl) ?_
  refine lv_iconst (v := (1 : Int32)) hx hb dJ6_numberOfTrailingZeros_0f7a4_4 (by decide) ?_
  refine lv_isub hx hb dJ6_numberOfTrailingZeros_0f7a4_5 ?_
  refine lv_iand hx hb dJ6_numberOfTrailingZeros_0f7a4_6 ?_
  obtain ⟨x1, e2, hf⟩ := nm_some hf
  refine lv_tope e2 ?_
  refine lv_istore_n (lv' := [(0, .int x1)]) hx hb dJ6_numberOfTrailingZeros_0f7a4_7 rfl hl (by decide) rfl (fun ls hl => ?_)
  refine lv_iload_n hx hb dJ6_numberOfTrailingZeros_0f7a4_8 rfl (lv_at hl 0 rfl) ?_
  refine lv_if_gt (tgt := 17) hx hb dJ6_numberOfTrailingZeros_0f7a4_9 (by decide) (fun c3 => ?_) (fun c3 => ?_)
  · replace hf := ifp c3 hf
    refine lv_iconst (v := (1 : Int32)) hx hb dJ6_numberOfTrailingZeros_0f7a4_17 (by decide) ?_
    refine lv_istore_n (lv' := [(1, .int (1 : Int32)), (0, .int x1)]) hx hb dJ6_numberOfTrailingZeros_0f7a4_18 rfl hl (by decide) rfl (fun ls hl => ?_)
    refine lv_iload_n hx hb dJ6_numberOfTrailingZeros_0f7a4_19 rfl (lv_at hl 1 rfl) ?_
    refine lv_ldcw (v := (65536 : Int32)) hx hb hown (hts _ (List.mem_cons_of_mem _ kw_135)) dJ6_numberOfTrailingZeros_0f7a4_20 ?_
    obtain ⟨x4, x5, hg, hf⟩ := bd2_some hf
    have J6 : ∀ (H : Heap) (locs : List Loc), va_P (dC, dI) vwCl [] H → va_D A [] → va_S A s.heap H locs → ∀ ls : Array Slot, lv_has ls 2 [(0, .int x4), (1, .int x5)] → W p l e rmJ6_numberOfTrailingZeros_0f7a4 s m args below meth c H locs 0 0 Q (F0 m 34 ls []) := by
      intro H locs hP hD hS ls hl
      refine lv_iload_n hx hb dJ6_numberOfTrailingZeros_0f7a4_34 rfl (lv_at hl 0 rfl) ?_
      refine lv_sipush (v := (256 : Int32)) hx hb dJ6_numberOfTrailingZeros_0f7a4_35 (by decide) ?_
      obtain ⟨x7, x8, hg, hf⟩ := bd2_some hf
      have J9 : ∀ (H : Heap) (locs : List Loc), va_P (dC, dI) vwCl [] H → va_D A [] → va_S A s.heap H locs → ∀ ls : Array Slot, lv_has ls 2 [(0, .int x7), (1, .int x8)] → W p l e rmJ6_numberOfTrailingZeros_0f7a4 s m args below meth c H locs 0 0 Q (F0 m 49 ls []) := by
        intro H locs hP hD hS ls hl
        refine lv_iload_n hx hb dJ6_numberOfTrailingZeros_0f7a4_49 rfl (lv_at hl 0 rfl) ?_
        refine lv_bipush (v := (16 : Int32)) hx hb dJ6_numberOfTrailingZeros_0f7a4_50 (by decide) ?_
        obtain ⟨x10, x11, hg, hf⟩ := bd2_some hf
        have J12 : ∀ (H : Heap) (locs : List Loc), va_P (dC, dI) vwCl [] H → va_D A [] → va_S A s.heap H locs → ∀ ls : Array Slot, lv_has ls 2 [(0, .int x10), (1, .int x11)] → W p l e rmJ6_numberOfTrailingZeros_0f7a4 s m args below meth c H locs 0 0 Q (F0 m 62 ls []) := by
          intro H locs hP hD hS ls hl
          refine lv_iload_n hx hb dJ6_numberOfTrailingZeros_0f7a4_62 rfl (lv_at hl 0 rfl) ?_
          refine lv_iconst (v := (4 : Int32)) hx hb dJ6_numberOfTrailingZeros_0f7a4_63 (by decide) ?_
          refine lv_icmp_le (tgt := 74) hx hb dJ6_numberOfTrailingZeros_0f7a4_64 (by decide) (fun c13 => ?_) (fun c13 => ?_)
          · replace hf := ifp c13 hf
            refine lv_iload_n hx hb dJ6_numberOfTrailingZeros_0f7a4_74 rfl (lv_at hl 1 rfl) ?_
            refine lv_iload_n hx hb dJ6_numberOfTrailingZeros_0f7a4_75 rfl (lv_at hl 0 rfl) ?_
            refine lv_iconst (v := (1 : Int32)) hx hb dJ6_numberOfTrailingZeros_0f7a4_76 (by decide) ?_
            refine lv_iushr hx hb dJ6_numberOfTrailingZeros_0f7a4_77 rfl ?_
            refine lv_iadd hx hb dJ6_numberOfTrailingZeros_0f7a4_78 ?_
            obtain rfl := inj1 hf
            subst hQ
            exact CM_iret hx hb hr rfl hlocks hAe hP hD hS dJ6_numberOfTrailingZeros_0f7a4_79
          · replace hf := ifn c13 hf
            refine lv_iinc (v := (x11 + (2 : Int32))) (lv' := [(1, .int (x11 + (2 : Int32))), (0, .int x10)]) hx hb dJ6_numberOfTrailingZeros_0f7a4_67 hl (k := 1) rfl rfl (by decide) rfl (fun ls hl => ?_)
            refine lv_iload_n hx hb dJ6_numberOfTrailingZeros_0f7a4_70 rfl (lv_at hl 1 rfl) ?_
            refine lv_iconst (v := (2 : Int32)) hx hb dJ6_numberOfTrailingZeros_0f7a4_71 (by decide) ?_
            refine lv_iushr hx hb dJ6_numberOfTrailingZeros_0f7a4_72 rfl ?_
            obtain ⟨x14, e15, hf⟩ := nm_some hf
            refine lv_tope e15 ?_
            refine lv_istore_n (lv' := [(0, .int x14), (1, .int (x11 + (2 : Int32)))]) hx hb dJ6_numberOfTrailingZeros_0f7a4_73 rfl hl (by decide) rfl (fun ls hl => ?_)
            refine lv_iload_n hx hb dJ6_numberOfTrailingZeros_0f7a4_74 rfl (lv_at hl 1 rfl) ?_
            refine lv_iload_n hx hb dJ6_numberOfTrailingZeros_0f7a4_75 rfl (lv_at hl 0 rfl) ?_
            refine lv_iconst (v := (1 : Int32)) hx hb dJ6_numberOfTrailingZeros_0f7a4_76 (by decide) ?_
            refine lv_iushr hx hb dJ6_numberOfTrailingZeros_0f7a4_77 rfl ?_
            refine lv_iadd hx hb dJ6_numberOfTrailingZeros_0f7a4_78 ?_
            obtain rfl := inj1 hf
            subst hQ
            exact CM_iret hx hb hr rfl hlocks hAe hP hD hS dJ6_numberOfTrailingZeros_0f7a4_79
        clear hf
        have hf := hg
        refine lv_icmp_le (tgt := 62) hx hb dJ6_numberOfTrailingZeros_0f7a4_52 (by decide) (fun c16 => ?_) (fun c16 => ?_)
        · replace hf := ifp c16 hf
          obtain ⟨rfl, rfl⟩ := inj2 hf
          exact J12 _ _ hP hD hS _ (lv_sub hl [0, 1] rfl)
        · replace hf := ifn c16 hf
          refine lv_iinc (v := (x8 + (4 : Int32))) (lv' := [(1, .int (x8 + (4 : Int32))), (0, .int x7)]) hx hb dJ6_numberOfTrailingZeros_0f7a4_55 hl (k := 1) rfl rfl (by decide) rfl (fun ls hl => ?_)
          refine lv_iload_n hx hb dJ6_numberOfTrailingZeros_0f7a4_58 rfl (lv_at hl 1 rfl) ?_
          refine lv_iconst (v := (4 : Int32)) hx hb dJ6_numberOfTrailingZeros_0f7a4_59 (by decide) ?_
          refine lv_iushr hx hb dJ6_numberOfTrailingZeros_0f7a4_60 rfl ?_
          obtain ⟨x17, e18, hf⟩ := nm_some hf
          refine lv_tope e18 ?_
          refine lv_istore_n (lv' := [(0, .int x17), (1, .int (x8 + (4 : Int32)))]) hx hb dJ6_numberOfTrailingZeros_0f7a4_61 rfl hl (by decide) rfl (fun ls hl => ?_)
          obtain ⟨rfl, rfl⟩ := inj2 hf
          exact J12 _ _ hP hD hS _ (lv_sub hl [0, 1] rfl)
      clear hf
      have hf := hg
      refine lv_icmp_le (tgt := 49) hx hb dJ6_numberOfTrailingZeros_0f7a4_38 (by decide) (fun c19 => ?_) (fun c19 => ?_)
      · replace hf := ifp c19 hf
        obtain ⟨rfl, rfl⟩ := inj2 hf
        exact J9 _ _ hP hD hS _ (lv_sub hl [0, 1] rfl)
      · replace hf := ifn c19 hf
        refine lv_iinc (v := (x5 + (8 : Int32))) (lv' := [(1, .int (x5 + (8 : Int32))), (0, .int x4)]) hx hb dJ6_numberOfTrailingZeros_0f7a4_41 hl (k := 1) rfl rfl (by decide) rfl (fun ls hl => ?_)
        refine lv_iload_n hx hb dJ6_numberOfTrailingZeros_0f7a4_44 rfl (lv_at hl 1 rfl) ?_
        refine lv_bipush (v := (8 : Int32)) hx hb dJ6_numberOfTrailingZeros_0f7a4_45 (by decide) ?_
        refine lv_iushr hx hb dJ6_numberOfTrailingZeros_0f7a4_47 rfl ?_
        obtain ⟨x20, e21, hf⟩ := nm_some hf
        refine lv_tope e21 ?_
        refine lv_istore_n (lv' := [(0, .int x20), (1, .int (x5 + (8 : Int32)))]) hx hb dJ6_numberOfTrailingZeros_0f7a4_48 rfl hl (by decide) rfl (fun ls hl => ?_)
        obtain ⟨rfl, rfl⟩ := inj2 hf
        exact J9 _ _ hP hD hS _ (lv_sub hl [0, 1] rfl)
    clear hf
    have hf := hg
    refine lv_icmp_le (tgt := 34) hx hb dJ6_numberOfTrailingZeros_0f7a4_23 (by decide) (fun c22 => ?_) (fun c22 => ?_)
    · replace hf := ifp c22 hf
      obtain ⟨rfl, rfl⟩ := inj2 hf
      exact J6 _ _ hP hD hS _ (lv_sub hl [1, 0] rfl)
    · replace hf := ifn c22 hf
      refine lv_iinc (v := ((1 : Int32) + (16 : Int32))) (lv' := [(1, .int ((1 : Int32) + (16 : Int32))), (0, .int x1)]) hx hb dJ6_numberOfTrailingZeros_0f7a4_26 hl (k := 0) rfl rfl (by decide) rfl (fun ls hl => ?_)
      refine lv_iload_n hx hb dJ6_numberOfTrailingZeros_0f7a4_29 rfl (lv_at hl 1 rfl) ?_
      refine lv_bipush (v := (16 : Int32)) hx hb dJ6_numberOfTrailingZeros_0f7a4_30 (by decide) ?_
      refine lv_iushr hx hb dJ6_numberOfTrailingZeros_0f7a4_32 rfl ?_
      obtain ⟨x23, e24, hf⟩ := nm_some hf
      refine lv_tope e24 ?_
      refine lv_istore_n (lv' := [(0, .int x23), (1, .int ((1 : Int32) + (16 : Int32)))]) hx hb dJ6_numberOfTrailingZeros_0f7a4_33 rfl hl (by decide) rfl (fun ls hl => ?_)
      obtain ⟨rfl, rfl⟩ := inj2 hf
      exact J6 _ _ hP hD hS _ (lv_sub hl [0, 1] rfl)
  · replace hf := ifn c3 hf
    refine lv_iload_n hx hb dJ6_numberOfTrailingZeros_0f7a4_12 rfl (lv_at hl 0 rfl) ?_
    refine lv_bipush (v := (32 : Int32)) hx hb dJ6_numberOfTrailingZeros_0f7a4_13 (by decide) ?_
    refine lv_iand hx hb dJ6_numberOfTrailingZeros_0f7a4_15 ?_
    obtain rfl := inj1 hf
    subst hQ
    exact CM_iret hx hb hr rfl hlocks hAe hP hD hS dJ6_numberOfTrailingZeros_0f7a4_16
def rmJ9_floorMod_7cf53 : Room := { frames := 0, cells := 0, slots := 0, locals := 0 }
abbrev wqJ9_floorMod_7cf53 : List Cond := Cond.code yJ9_floorMod_7cf53 cJ9_floorMod_7cf53 3 (some .int) :: tG
set_option maxHeartbeats 4000000 in
set_option maxRecDepth 100000 in
theorem c_J9_floorMod_7cf53 (l : Launch) (dC : Nat → ClassId) (dI : Nat → Nat → Nat) (cI cZ : ClassId) (te : Nat → Nat) (p1 : Int32) (p2 : Int32) (o0 : Int32) (hf : f_J9_floorMod_7cf53 p1 p2 = some o0) : CM l yJ9_floorMod_7cf53 wqJ9_floorMod_7cf53 rmJ9_floorMod_7cf53 (kS te) dC dI cI cZ [.int p1, .int p2] [] [] (some (.int o0)) := by
  refine CM_of (cc := cJ9_floorMod_7cf53) (maxL := 3) (ret := (some .int)) (by decide +kernel) rfl (Nat.le_of_ble_eq_true rfl) ?_
  intro p e s m args below meth c A Q hx hb hr hml hown hts hlocks hA hK hP hD hS hE hQ hAe ls hl
  have hown : s.vm.findClass RJ9 = some m.cls := hown
  have hl : lv_has ls 3 [(0, .int p1), (1, .int p2)] := hl
  unfold f_J9_floorMod_7cf53 at hf
  refine lv_iload_n hx hb dJ9_floorMod_7cf53_0 rfl (lv_at hl 0 rfl) ?_
  refine lv_iload_n hx hb dJ9_floorMod_7cf53_1 rfl (lv_at hl 1 rfl) ?_
  obtain ⟨g1, hf⟩ := chk_some hf
  refine lv_irem hx hb dJ9_floorMod_7cf53_2 (gne_ne g1) ?_
  obtain ⟨x2, e3, hf⟩ := nm_some hf
  refine lv_tope e3 ?_
  refine lv_istore_n (lv' := [(2, .int x2), (0, .int p1), (1, .int p2)]) hx hb dJ9_floorMod_7cf53_3 rfl hl (by decide) rfl (fun ls hl => ?_)
  refine lv_iload_n hx hb dJ9_floorMod_7cf53_4 rfl (lv_at hl 1 rfl) ?_
  refine lv_iload_n hx hb dJ9_floorMod_7cf53_5 rfl (lv_at hl 2 rfl) ?_
  refine lv_ixor hx hb dJ9_floorMod_7cf53_6 ?_
  refine lv_if_ge (tgt := 18) hx hb dJ9_floorMod_7cf53_7 (by decide) (fun c4 => ?_) (fun c4 => ?_)
  · replace hf := ifp c4 hf
    refine lv_iload_n hx hb dJ9_floorMod_7cf53_18 rfl (lv_at hl 0 rfl) ?_
    obtain rfl := inj1 hf
    subst hQ
    exact CM_iret hx hb hr rfl hlocks hAe hP hD hS dJ9_floorMod_7cf53_19
  · replace hf := ifn c4 hf
    refine lv_iload_n hx hb dJ9_floorMod_7cf53_10 rfl (lv_at hl 0 rfl) ?_
    refine lv_if_eq (tgt := 18) hx hb dJ9_floorMod_7cf53_11 (by decide) (fun c5 => ?_) (fun c5 => ?_)
    · replace hf := ifp c5 hf
      refine lv_iload_n hx hb dJ9_floorMod_7cf53_18 rfl (lv_at hl 0 rfl) ?_
      obtain rfl := inj1 hf
      subst hQ
      exact CM_iret hx hb hr rfl hlocks hAe hP hD hS dJ9_floorMod_7cf53_19
    · replace hf := ifn c5 hf
      refine lv_iload_n hx hb dJ9_floorMod_7cf53_14 rfl (lv_at hl 0 rfl) ?_
      refine lv_iload_n hx hb dJ9_floorMod_7cf53_15 rfl (lv_at hl 2 rfl) ?_
      refine lv_iadd hx hb dJ9_floorMod_7cf53_16 ?_
      obtain rfl := inj1 hf
      subst hQ
      exact CM_iret hx hb hr rfl hlocks hAe hP hD hS dJ9_floorMod_7cf53_17
def rmJ0_isLatin1_aae02 : Room := { frames := 0, cells := 0, slots := 0, locals := 0 }
abbrev wqJ0_isLatin1_aae02 : List Cond := Cond.code yJ0_isLatin1_aae02 cJ0_isLatin1_aae02 1 (some .boolean) :: tG
set_option maxHeartbeats 4000000 in
set_option maxRecDepth 100000 in
theorem c_J0_isLatin1_aae02 (l : Launch) (dC : Nat → ClassId) (dI : Nat → Nat → Nat) (cI cZ : ClassId) (te : Nat → Nat) (o0 : Int32) (hf : f_J0_isLatin1_aae02 = some o0) : CM l yJ0_isLatin1_aae02 wqJ0_isLatin1_aae02 rmJ0_isLatin1_aae02 (kS te) dC dI cI cZ [.ref (te 10)] [] [] (some (.int o0)) := by
  refine CM_of (cc := cJ0_isLatin1_aae02) (maxL := 1) (ret := (some .boolean)) (by decide +kernel) rfl (Nat.le_of_ble_eq_true rfl) ?_
  intro p e s m args below meth c A Q hx hb hr hml hown hts hlocks hA hK hP hD hS hE hQ hAe ls hl
  have hown : s.vm.findClass RJ0 = some m.cls := hown
  have hl : lv_has ls 1 [(0, .ref (te 10))] := hl
  unfold f_J0_isLatin1_aae02 at hf
  refine va_gets hx hb (C := "java/lang/String") (n := "COMPACT_STRINGS") (d := "Z") (kS_cs hE) hS hown (hts _ (List.mem_cons_of_mem _ kw_136)) (fun _ h9 => h9) dJ0_isLatin1_aae02_0 ?_
  refine lv_if_eq (tgt := 17) hx hb dJ0_isLatin1_aae02_3 (by decide) (fun c1 => ?_) (fun c1 => ?_)
  · replace hf := ifp c1 hf
    refine lv_iconst (v := (0 : Int32)) hx hb dJ0_isLatin1_aae02_17 (by decide) ?_
    obtain rfl := inj1 hf
    subst hQ
    exact CM_iret hx hb hr rfl hlocks hAe hP hD hS dJ0_isLatin1_aae02_18
  · replace hf := ifn c1 hf
    refine lv_aload_n hx hb dJ0_isLatin1_aae02_6 rfl (lv_at hl 0 rfl) ?_
    refine vk_getf hx hb (kS_co hE) hS hown (hts _ (List.mem_cons_of_mem _ kw_137)) (fun _ h9 => h9) dJ0_isLatin1_aae02_7 ?_
    refine lv_if_ne (tgt := 17) hx hb dJ0_isLatin1_aae02_10 (by decide) (fun c2 => ?_) (fun c2 => ?_)
    · replace hf := ifn c2 hf
      refine lv_iconst (v := (0 : Int32)) hx hb dJ0_isLatin1_aae02_17 (by decide) ?_
      obtain rfl := inj1 hf
      subst hQ
      exact CM_iret hx hb hr rfl hlocks hAe hP hD hS dJ0_isLatin1_aae02_18
    · replace hf := ifp c2 hf
      refine lv_iconst (v := (1 : Int32)) hx hb dJ0_isLatin1_aae02_13 (by decide) ?_
      refine lv_goto (tgt := 18) hx hb dJ0_isLatin1_aae02_14 (by decide) ?_
      obtain rfl := inj1 hf
      subst hQ
      exact CM_iret hx hb hr rfl hlocks hAe hP hD hS dJ0_isLatin1_aae02_18
def rmJ3_checkIndex_8e157 : Room := { frames := 0, cells := 0, slots := 0, locals := 0 }
abbrev wqJ3_checkIndex_8e157 : List Cond := Cond.code yJ3_checkIndex_8e157 cJ3_checkIndex_8e157 3 (some .int) :: tG
set_option maxHeartbeats 4000000 in
set_option maxRecDepth 100000 in
theorem c_J3_checkIndex_8e157 (l : Launch) (dC : Nat → ClassId) (dI : Nat → Nat → Nat) (cI cZ : ClassId) (te : Nat → Nat) (p1 : Int32) (p2 : Int32) (fv : Value) (hfv : fv = .null ∨ ∃ t : Nat, fv = .ref t) (o0 : Int32) (hf : f_J3_checkIndex_8e157 p1 p2 = some o0) : CM l yJ3_checkIndex_8e157 wqJ3_checkIndex_8e157 rmJ3_checkIndex_8e157 (kS te) dC dI cI cZ [.int p1, .int p2, fv] [] [] (some (.int o0)) := by
  rcases hfv with rfl | ⟨tz, rfl⟩
  · refine CM_of (cc := cJ3_checkIndex_8e157) (maxL := 3) (ret := (some .int)) (by decide +kernel) rfl (Nat.le_of_ble_eq_true rfl) ?_
    intro p e s m args below meth c A Q hx hb hr hml hown hts hlocks hA hK hP hD hS hE hQ hAe ls hl
    have hown : s.vm.findClass RJ3 = some m.cls := hown
    have hl : lv_has ls 3 [(0, .int p1), (1, .int p2), (2, .null)] := hl
    unfold f_J3_checkIndex_8e157 at hf
    refine lv_iload_n hx hb dJ3_checkIndex_8e157_0 rfl (lv_at hl 0 rfl) ?_
    refine lv_if_lt (tgt := 9) hx hb dJ3_checkIndex_8e157_1 (by decide) (fun c1 => ?_) (fun c1 => ?_)
    · replace hf := ifp c1 hf
      exact none_ne hf
    · replace hf := ifn c1 hf
      refine lv_iload_n hx hb dJ3_checkIndex_8e157_4 rfl (lv_at hl 0 rfl) ?_
      refine lv_iload_n hx hb dJ3_checkIndex_8e157_5 rfl (lv_at hl 1 rfl) ?_
      refine lv_icmp_lt (tgt := 16) hx hb dJ3_checkIndex_8e157_6 (by decide) (fun c2 => ?_) (fun c2 => ?_)
      · replace hf := ifp c2 hf
        refine lv_iload_n hx hb dJ3_checkIndex_8e157_16 rfl (lv_at hl 0 rfl) ?_
        obtain rfl := inj1 hf
        subst hQ
        exact CM_iret hx hb hr rfl hlocks hAe hP hD hS dJ3_checkIndex_8e157_17
      · replace hf := ifn c2 hf
        exact none_ne hf
  · refine CM_of (cc := cJ3_checkIndex_8e157) (maxL := 3) (ret := (some .int)) (by decide +kernel) rfl (Nat.le_of_ble_eq_true rfl) ?_
    intro p e s m args below meth c A Q hx hb hr hml hown hts hlocks hA hK hP hD hS hE hQ hAe ls hl
    have hown : s.vm.findClass RJ3 = some m.cls := hown
    have hl : lv_has ls 3 [(0, .int p1), (1, .int p2), (2, .ref tz)] := hl
    unfold f_J3_checkIndex_8e157 at hf
    refine lv_iload_n hx hb dJ3_checkIndex_8e157_0 rfl (lv_at hl 0 rfl) ?_
    refine lv_if_lt (tgt := 9) hx hb dJ3_checkIndex_8e157_1 (by decide) (fun c1 => ?_) (fun c1 => ?_)
    · replace hf := ifp c1 hf
      exact none_ne hf
    · replace hf := ifn c1 hf
      refine lv_iload_n hx hb dJ3_checkIndex_8e157_4 rfl (lv_at hl 0 rfl) ?_
      refine lv_iload_n hx hb dJ3_checkIndex_8e157_5 rfl (lv_at hl 1 rfl) ?_
      refine lv_icmp_lt (tgt := 16) hx hb dJ3_checkIndex_8e157_6 (by decide) (fun c2 => ?_) (fun c2 => ?_)
      · replace hf := ifp c2 hf
        refine lv_iload_n hx hb dJ3_checkIndex_8e157_16 rfl (lv_at hl 0 rfl) ?_
        obtain rfl := inj1 hf
        subst hQ
        exact CM_iret hx hb hr rfl hlocks hAe hP hD hS dJ3_checkIndex_8e157_17
      · replace hf := ifn c2 hf
        exact none_ne hf
def rmJ0_checkIndex_df160 : Room := { frames := 1, cells := 0, slots := 0, locals := 22 }
abbrev wqJ0_checkIndex_df160 : List Cond := Cond.code yJ0_checkIndex_df160 cJ0_checkIndex_df160 2 none :: tG
set_option maxHeartbeats 4000000 in
set_option maxRecDepth 100000 in
theorem c_J0_checkIndex_df160 (l : Launch) (dC : Nat → ClassId) (dI : Nat → Nat → Nat) (cI cZ : ClassId) (te : Nat → Nat) (p1 : Int32) (p2 : Int32) (hf : f_J0_checkIndex_df160 p1 p2 = some ()) : CM l yJ0_checkIndex_df160 wqJ0_checkIndex_df160 rmJ0_checkIndex_df160 (kS te) dC dI cI cZ [.int p1, .int p2] [] [] none := by
  refine CM_of (cc := cJ0_checkIndex_df160) (maxL := 2) (ret := none) (by decide +kernel) rfl (Nat.le_of_ble_eq_true rfl) ?_
  intro p e s m args below meth c A Q hx hb hr hml hown hts hlocks hA hK hP hD hS hE hQ hAe ls hl
  have hown : s.vm.findClass RJ0 = some m.cls := hown
  have hl : lv_has ls 2 [(0, .int p1), (1, .int p2)] := hl
  unfold f_J0_checkIndex_df160 at hf
  refine lv_iload_n hx hb dJ0_checkIndex_df160_0 rfl (lv_at hl 0 rfl) ?_
  refine lv_iload_n hx hb dJ0_checkIndex_df160_1 rfl (lv_at hl 1 rfl) ?_
  rcases kS_fm hE with hZ | ⟨tz, hZ⟩
  · refine va_gets hx hb (C := "jdk/internal/util/Preconditions") (n := "SIOOBE_FORMATTER") (d := "Ljava/util/function/BiFunction;") hZ hS hown (hts _ (List.mem_cons_of_mem _ kw_138)) (fun _ h9 => h9) dJ0_checkIndex_df160_2 ?_
    obtain ⟨r1, hg2, hf⟩ := bd1_some hf
    refine CM_callS (As := [.int p1, .int p2, .null]) (rest := []) (wc := []) (w1 := []) (wr := []) (wo := []) (v := (some (.int r1))) ⟨hx, hb, hml, hown, hts⟩ (c_J3_checkIndex_8e157 l dC dI cI cZ te p1 p2 (.null : Value) (Or.inl rfl) r1 hg2) (va_cwS 3 hts (gS kw_139 kw_140 kw_141 kw_142) rfl rfl rfl (by decide +kernel) ⟨Nat.le_of_ble_eq_true rfl, Nat.le_of_ble_eq_true rfl⟩) (kS_env te) hK hP hD hS hA hE [] [] [] rfl rfl (by decide) (by decide) (by decide) (by decide) rfl rfl hl.1 rfl (Nat.le_of_ble_eq_true rfl) dJ0_checkIndex_df160_5 ⟨Nat.zero_le _, Nat.zero_le _⟩ (fun H locs hP hD hS => ?_)
    show W p l e rmJ0_checkIndex_df160 s m args below meth c H locs 0 0 Q (F0 m 8 ls [.int r1])
    refine lv_pop hx hb dJ0_checkIndex_df160_8 rfl ?_
    subst hQ
    exact CM_vret hx hb hr hlocks hAe hP hD hS dJ0_checkIndex_df160_9
  · refine va_gets hx hb (C := "jdk/internal/util/Preconditions") (n := "SIOOBE_FORMATTER") (d := "Ljava/util/function/BiFunction;") hZ hS hown (hts _ (List.mem_cons_of_mem _ kw_138)) (fun _ h9 => h9) dJ0_checkIndex_df160_2 ?_
    obtain ⟨r1, hg2, hf⟩ := bd1_some hf
    refine CM_callS (As := [.int p1, .int p2, .ref tz]) (rest := []) (wc := []) (w1 := []) (wr := []) (wo := []) (v := (some (.int r1))) ⟨hx, hb, hml, hown, hts⟩ (c_J3_checkIndex_8e157 l dC dI cI cZ te p1 p2 (.ref tz : Value) (Or.inr ⟨tz, rfl⟩) r1 hg2) (va_cwS 3 hts (gS kw_139 kw_140 kw_141 kw_142) rfl rfl rfl (by decide +kernel) ⟨Nat.le_of_ble_eq_true rfl, Nat.le_of_ble_eq_true rfl⟩) (kS_env te) hK hP hD hS hA hE [] [] [] rfl rfl (by decide) (by decide) (by decide) (by decide) rfl rfl hl.1 rfl (Nat.le_of_ble_eq_true rfl) dJ0_checkIndex_df160_5 ⟨Nat.zero_le _, Nat.zero_le _⟩ (fun H locs hP hD hS => ?_)
    show W p l e rmJ0_checkIndex_df160 s m args below meth c H locs 0 0 Q (F0 m 8 ls [.int r1])
    refine lv_pop hx hb dJ0_checkIndex_df160_8 rfl ?_
    subst hQ
    exact CM_vret hx hb hr hlocks hAe hP hD hS dJ0_checkIndex_df160_9
def rmJ1_charAt_3b067 : Room := { frames := 2, cells := 0, slots := 0, locals := 43 }
abbrev wqJ1_charAt_3b067 : List Cond := Cond.code yJ1_charAt_3b067 cJ1_charAt_3b067 2 (some .char) :: tG
set_option maxHeartbeats 4000000 in
set_option maxRecDepth 100000 in
theorem c_J1_charAt_3b067 (l : Launch) (dC : Nat → ClassId) (dI : Nat → Nat → Nat) (cI cZ : ClassId) (te : Nat → Nat) (p2 : Int32) (o0 : Int32) (hf : f_J1_charAt_3b067 p2 = some o0) : CM l yJ1_charAt_3b067 wqJ1_charAt_3b067 rmJ1_charAt_3b067 (kS te) dC dI cI cZ [.ref (te 11), .int p2] [] [] (some (.int o0)) := by
  refine CM_of (cc := cJ1_charAt_3b067) (maxL := 2) (ret := (some .char)) (by decide +kernel) rfl (Nat.le_of_ble_eq_true rfl) ?_
  intro p e s m args below meth c A Q hx hb hr hml hown hts hlocks hA hK hP hD hS hE hQ hAe ls hl
  have hown : s.vm.findClass RJ1 = some m.cls := hown
  have hl : lv_has ls 2 [(0, .ref (te 11)), (1, .int p2)] := hl
  unfold f_J1_charAt_3b067 at hf
  refine lv_iload_n hx hb dJ1_charAt_3b067_0 rfl (lv_at hl 1 rfl) ?_
  refine lv_aload_n hx hb dJ1_charAt_3b067_1 rfl (lv_at hl 0 rfl) ?_
  refine va_tlen hx hb (kS_tS hE) hS (v := (96 : Int32)) (show Int32.ofNat 96 = (96 : Int32) from by decide) dJ1_charAt_3b067_2 ?_
  obtain ⟨z2, hg1, hf⟩ := bd1_some hf
  refine CM_callS (As := [.int p2, .int (96 : Int32)]) (rest := []) (wc := []) (w1 := []) (wr := []) (wo := []) (v := (none)) ⟨hx, hb, hml, hown, hts⟩ (c_J0_checkIndex_df160 l dC dI cI cZ te p2 (96 : Int32) hg1) (va_cwS 2 hts (gS kw_143 kw_144 kw_145 kw_146) rfl rfl rfl (by decide +kernel) ⟨Nat.le_of_ble_eq_true rfl, Nat.le_of_ble_eq_true rfl⟩) (kS_env te) hK hP hD hS hA hE [] [] [] rfl rfl (by decide) (by decide) (by decide) (by decide) rfl rfl hl.1 rfl (Nat.le_of_ble_eq_true rfl) dJ1_charAt_3b067_3 ⟨Nat.zero_le _, Nat.zero_le _⟩ (fun H locs hP hD hS => ?_)
  show W p l e rmJ1_charAt_3b067 s m args below meth c H locs 0 0 Q (F0 m 6 ls [])
  refine lv_aload_n hx hb dJ1_charAt_3b067_6 rfl (lv_at hl 0 rfl) ?_
  refine lv_iload_n hx hb dJ1_charAt_3b067_7 rfl (lv_at hl 1 rfl) ?_
  obtain ⟨g3, hf⟩ := chk_some hf
  refine va_tb hx hb (kS_tS hE) hS (gin_in g3) (v := .int (tbS p2.toNatClampNeg)) rfl dJ1_charAt_3b067_8 ?_
  refine lv_sipush (v := (255 : Int32)) hx hb dJ1_charAt_3b067_9 (by decide) ?_
  refine lv_iand hx hb dJ1_charAt_3b067_12 ?_
  refine lv_i2c hx hb dJ1_charAt_3b067_13 rfl ?_
  obtain ⟨g4, hf⟩ := chk_some hf
  obtain rfl := inj1 hf
  subst hQ
  exact CM_iret hx hb hr (gch_n g4) hlocks hAe hP hD hS dJ1_charAt_3b067_14
def rmJ0_charAt_5068e : Room := { frames := 3, cells := 0, slots := 0, locals := 64 }
abbrev wqJ0_charAt_5068e : List Cond := Cond.code yJ0_charAt_5068e cJ0_charAt_5068e 2 (some .char) :: tG
set_option maxHeartbeats 4000000 in
set_option maxRecDepth 100000 in
theorem c_J0_charAt_5068e (l : Launch) (dC : Nat → ClassId) (dI : Nat → Nat → Nat) (cI cZ : ClassId) (te : Nat → Nat) (p1 : Int32) (o0 : Int32) (hf : f_J0_charAt_5068e p1 = some o0) : CM l yJ0_charAt_5068e wqJ0_charAt_5068e rmJ0_charAt_5068e (kS te) dC dI cI cZ [.ref (te 10), .int p1] [] [] (some (.int o0)) := by
  refine CM_of (cc := cJ0_charAt_5068e) (maxL := 2) (ret := (some .char)) (by decide +kernel) rfl (Nat.le_of_ble_eq_true rfl) ?_
  intro p e s m args below meth c A Q hx hb hr hml hown hts hlocks hA hK hP hD hS hE hQ hAe ls hl
  have hown : s.vm.findClass RJ0 = some m.cls := hown
  have hl : lv_has ls 2 [(0, .ref (te 10)), (1, .int p1)] := hl
  unfold f_J0_charAt_5068e at hf
  refine lv_aload_n hx hb dJ0_charAt_5068e_0 rfl (lv_at hl 0 rfl) ?_
  obtain ⟨r1, hg2, hf⟩ := bd1_some hf
  refine CM_callVs (C := RJ0) (As := []) (rest := []) (wc := []) (w1 := []) (wr := []) (wo := []) (v := (some (.int r1))) ⟨hx, hb, hml, hown, hts⟩ (c_J0_isLatin1_aae02 l dC dI cI cZ te r1 hg2) (cwV 0 hts (gV kw_147 kw_148 kw_149 kw_145 kw_150) rfl rfl rfl (by decide +kernel) ⟨Nat.le_of_ble_eq_true rfl, Nat.le_of_ble_eq_true rfl⟩) (kS_env te) hK hP hD hS hA hE [] [] [] rfl rfl (by decide) (by decide) (by decide) (by decide) rfl (kS_rc hE hS) rfl hl.1 rfl (Nat.le_of_ble_eq_true rfl) dJ0_charAt_5068e_1 ⟨Nat.zero_le _, Nat.zero_le _⟩ (fun H locs hP hD hS => ?_)
  show W p l e rmJ0_charAt_5068e s m args below meth c H locs 0 0 Q (F0 m 4 ls [.int r1])
  refine lv_if_eq (tgt := 16) hx hb dJ0_charAt_5068e_4 (by decide) (fun c3 => ?_) (fun c3 => ?_)
  · replace hf := ifp c3 hf
    refine lv_aload_n hx hb dJ0_charAt_5068e_16 rfl (lv_at hl 0 rfl) ?_
    refine vk_getf hx hb (kS_va hE) hS hown (hts _ (List.mem_cons_of_mem _ kw_151)) (fun _ h9 => h9) dJ0_charAt_5068e_17 ?_
    refine lv_iload_n hx hb dJ0_charAt_5068e_20 rfl (lv_at hl 1 rfl) ?_
    exact none_ne hf
  · replace hf := ifn c3 hf
    refine lv_aload_n hx hb dJ0_charAt_5068e_7 rfl (lv_at hl 0 rfl) ?_
    refine vk_getf hx hb (kS_va hE) hS hown (hts _ (List.mem_cons_of_mem _ kw_151)) (fun _ h9 => h9) dJ0_charAt_5068e_8 ?_
    refine lv_iload_n hx hb dJ0_charAt_5068e_11 rfl (lv_at hl 1 rfl) ?_
    obtain ⟨r4, hg5, hf⟩ := bd1_some hf
    refine CM_callS (As := [.ref (te 11), .int p1]) (rest := []) (wc := []) (w1 := []) (wr := []) (wo := []) (v := (some (.int r4))) ⟨hx, hb, hml, hown, hts⟩ (c_J1_charAt_3b067 l dC dI cI cZ te p1 r4 hg5) (va_cwS 2 hts (gS kw_152 kw_153 kw_154 kw_155) rfl rfl rfl (by decide +kernel) ⟨Nat.le_of_ble_eq_true rfl, Nat.le_of_ble_eq_true rfl⟩) (kS_env te) hK hP hD hS hA hE [] [] [] rfl rfl (by decide) (by decide) (by decide) (by decide) rfl rfl hl.1 rfl (Nat.le_of_ble_eq_true rfl) dJ0_charAt_5068e_12 ⟨Nat.zero_le _, Nat.zero_le _⟩ (fun H locs hP hD hS => ?_)
    show W p l e rmJ0_charAt_5068e s m args below meth c H locs 0 0 Q (F0 m 15 ls [.int r4])
    obtain ⟨g6, hf⟩ := chk_some hf
    obtain rfl := inj1 hf
    subst hQ
    exact CM_iret hx hb hr (gch_n g6) hlocks hAe hP hD hS dJ0_charAt_5068e_15
def rmJ7_fill_53178 : Room := { frames := 0, cells := 0, slots := 0, locals := 0 }
abbrev wqJ7_fill_53178 : List Cond := Cond.code yJ7_fill_53178 cJ7_fill_53178 4 none :: tG
set_option maxHeartbeats 4000000 in
set_option maxRecDepth 100000 in
theorem c_J7_fill_53178 (l : Launch) (dC : Nat → ClassId) (dI : Nat → Nat → Nat) (cI cZ : ClassId) (te : Nat → Nat) (h_p1 : Nat) (n_p1 : Nat) (p1 : Nat → Int32) (p2 : Int32) (o0 : Nat → Int32) (hf : f_J7_fill_53178 n_p1 p1 p2 = some o0) : CM l yJ7_fill_53178 wqJ7_fill_53178 rmJ7_fill_53178 (kS te) dC dI cI cZ [.ref h_p1, .int p2] [(h_p1, .inl (cI, n_p1, .inl p1))] [(h_p1, .inl (cI, n_p1, .inl o0))] none := by
  refine CM_of (cc := cJ7_fill_53178) (maxL := 4) (ret := none) (by decide +kernel) rfl (Nat.le_of_ble_eq_true rfl) ?_
  intro p e s m args below meth c A Q hx hb hr hml hown hts hlocks hA hK hP hD hS hE hQ hAe ls hl
  have hown : s.vm.findClass RJ7 = some m.cls := hown
  have hl : lv_has ls 4 [(0, .ref h_p1), (1, .int p2)] := hl
  unfold f_J7_fill_53178 at hf
  refine lv_iconst (v := (0 : Int32)) hx hb dJ7_fill_53178_0 (by decide) ?_
  refine lv_istore_n (lv' := [(2, .int (0 : Int32)), (0, .ref h_p1), (1, .int p2)]) hx hb dJ7_fill_53178_1 rfl hl (by decide) rfl (fun ls hl => ?_)
  refine lv_aload_n hx hb dJ7_fill_53178_2 rfl (lv_at hl 1 rfl) ?_
  refine va_alen hx hb hK hP 0 0 rfl rfl (v := (Int32.ofNat n_p1)) rfl dJ7_fill_53178_3 ?_
  obtain ⟨x1, e2, hf⟩ := nm_some hf
  refine lv_tope e2 ?_
  refine lv_istore_n (lv' := [(3, .int x1), (2, .int (0 : Int32)), (0, .ref h_p1), (1, .int p2)]) hx hb dJ7_fill_53178_4 rfl hl (by decide) rfl (fun ls hl => ?_)
  have L19 : ∀ (fu13 : Nat) (y10 : Nat → Int32) (x11 : Int32) (y9 : Nat → Int32), f_J7_fill_53178_L1 x1 n_p1 p2 fu13 y10 x11 = some y9 → (∀ (H : Heap) (locs : List Loc), va_P (dC, dI) vwCl [(h_p1, .inl (cI, n_p1, .inl y9))] H → va_D A [(h_p1, .inl (cI, n_p1, .inl y9))] → va_S A s.heap H locs → ∀ ls : Array Slot, lv_has ls 4 [] → W p l e rmJ7_fill_53178 s m args below meth c H locs 0 0 Q (F0 m 20 ls [])) → ∀ (H : Heap) (locs : List Loc), va_P (dC, dI) vwCl [(h_p1, .inl (cI, n_p1, .inl y10))] H → va_D A [(h_p1, .inl (cI, n_p1, .inl y10))] → va_S A s.heap H locs → ∀ ls : Array Slot, lv_has ls 4 [(0, .ref h_p1), (1, .int p2), (2, .int x11), (3, .int x1)] → W p l e rmJ7_fill_53178 s m args below meth c H locs 0 0 Q (F0 m 5 ls []) := by
    intro fu13
    induction fu13 with
    | zero =>
      intro y10 x11 y9 hf
      unfold f_J7_fill_53178_L1 at hf
      exact none_ne hf
    | succ fu13 ih12 =>
      intro y10 x11 y9 hf hX14 H locs hP hD hS ls hl
      unfold f_J7_fill_53178_L1 at hf
      refine lv_iload_n hx hb dJ7_fill_53178_5 rfl (lv_at hl 2 rfl) ?_
      refine lv_iload_n hx hb dJ7_fill_53178_6 rfl (lv_at hl 3 rfl) ?_
      refine lv_icmp_ge (tgt := 20) hx hb dJ7_fill_53178_7 (by decide) (fun c15 => ?_) (fun c15 => ?_)
      · replace hf := ifp c15 hf
        obtain rfl := inj1 hf
        exact hX14 _ _ hP hD hS _ (lv_sub hl [] rfl)
      · replace hf := ifn c15 hf
        refine lv_aload_n hx hb dJ7_fill_53178_10 rfl (lv_at hl 0 rfl) ?_
        refine lv_iload_n hx hb dJ7_fill_53178_11 rfl (lv_at hl 2 rfl) ?_
        refine lv_iload_n hx hb dJ7_fill_53178_12 rfl (lv_at hl 1 rfl) ?_
        obtain ⟨g16, hf⟩ := chk_some hf
        obtain ⟨y17, e18, hf⟩ := nm_some hf
        refine va_iast hx hb hK hP hD hS 0 0 rfl rfl (gin_in g16) dJ7_fill_53178_13 (fun H locs hP hD hS => ?_)
        have hP : va_P (dC, dI) vwCl [(h_p1, .inl (cI, n_p1, .inl y17))] H := by rw [e18]; exact hP
        have hD : va_D A [(h_p1, .inl (cI, n_p1, .inl y17))] := by rw [e18]; exact hD
        refine lv_iinc (v := (x11 + (1 : Int32))) (lv' := [(2, .int (x11 + (1 : Int32))), (0, .ref h_p1), (1, .int p2), (3, .int x1)]) hx hb dJ7_fill_53178_14 hl (k := 2) rfl rfl (by decide) rfl (fun ls hl => ?_)
        refine lv_goto (tgt := 5) hx hb dJ7_fill_53178_17 (by decide) ?_
        exact ih12 _ _ _ hf hX14 _ _ hP hD hS _ (lv_sub hl [1, 2, 0, 3] rfl)
  obtain ⟨y9, hg, hf⟩ := bd1_some hf
  refine L19 FU _ _ _ hg ?_ _ _ hP hD hS _ (lv_sub hl [2, 3, 1, 0] rfl)
  · intro H locs hP hD hS ls hl
    obtain rfl := inj1 hf
    subst hQ
    exact CM_vret hx hb hr hlocks hAe hP hD hS dJ7_fill_53178_20
def rmX10_in : Room := { frames := 0, cells := 0, slots := 0, locals := 0 }
abbrev wqX10_in : List Cond := Cond.code yX10_in cX10_in 6 (some .boolean) :: tG
set_option maxHeartbeats 4000000 in
set_option maxRecDepth 100000 in
theorem c_X10_in (l : Launch) (dC : Nat → ClassId) (dI : Nat → Nat → Nat) (cI cZ : ClassId) (te : Nat → Nat) (p1 : Int64) (p2 : Int64) (p3 : Int64) (o0 : Int32) (hf : f_X10_in p1 p2 p3 = some o0) : CM l yX10_in wqX10_in rmX10_in (kS te) dC dI cI cZ [.long p1, .long p2, .long p3] [] [] (some (.int o0)) := by
  refine CM_of (cc := cX10_in) (maxL := 6) (ret := (some .boolean)) (by decide +kernel) rfl (Nat.le_of_ble_eq_true rfl) ?_
  intro p e s m args below meth c A Q hx hb hr hml hown hts hlocks hA hK hP hD hS hE hQ hAe ls hl
  have hown : s.vm.findClass RX10 = some m.cls := hown
  have hl : lv_has ls 6 [(0, .long p1), (2, .long p2), (4, .long p3)] := hl
  unfold f_X10_in at hf
  refine lv_lload_n hx hb dX10_in_0 rfl (lv_at hl 0 rfl) ?_
  refine lv_lload_n hx hb dX10_in_1 rfl (lv_at hl 1 rfl) ?_
  refine W.lcmp hx hb dX10_in_2 ?_
  refine lv_if_lt (tgt := 17) hx hb dX10_in_3 (by decide) (fun c1 => ?_) (fun c1 => ?_)
  · replace hf := ifp c1 hf
    refine lv_iconst (v := (0 : Int32)) hx hb dX10_in_17 (by decide) ?_
    obtain rfl := inj1 hf
    subst hQ
    exact CM_iret hx hb hr rfl hlocks hAe hP hD hS dX10_in_18
  · replace hf := ifn c1 hf
    refine lv_lload_n hx hb dX10_in_6 rfl (lv_at hl 0 rfl) ?_
    refine lv_lload hx hb dX10_in_7 (lv_at hl 2 rfl) ?_
    refine W.lcmp hx hb dX10_in_9 ?_
    refine lv_if_gt (tgt := 17) hx hb dX10_in_10 (by decide) (fun c2 => ?_) (fun c2 => ?_)
    · replace hf := ifp c2 hf
      refine lv_iconst (v := (0 : Int32)) hx hb dX10_in_17 (by decide) ?_
      obtain rfl := inj1 hf
      subst hQ
      exact CM_iret hx hb hr rfl hlocks hAe hP hD hS dX10_in_18
    · replace hf := ifn c2 hf
      refine lv_iconst (v := (1 : Int32)) hx hb dX10_in_13 (by decide) ?_
      refine lv_goto (tgt := 18) hx hb dX10_in_14 (by decide) ?_
      obtain rfl := inj1 hf
      subst hQ
      exact CM_iret hx hb hr rfl hlocks hAe hP hD hS dX10_in_18
def rmX10_sets : Room := { frames := 0, cells := 0, slots := 0, locals := 0 }
abbrev wqX10_sets : List Cond := Cond.code yX10_sets cX10_sets 4 (some .int) :: tG
set_option maxHeartbeats 4000000 in
set_option maxRecDepth 100000 in
theorem c_X10_sets (l : Launch) (dC : Nat → ClassId) (dI : Nat → Nat → Nat) (cI cZ : ClassId) (te : Nat → Nat) (h_t : Nat) (h_t_book : Nat) (h_t_images : Nat) (h_t_kept : Nat) (h_t_aside : Nat) (h_t_far : Nat) (h_t_then : Nat) (h_t_row : Nat) (h_t_mays : Nat) (h_t_firstRow : Nat) (h_t_low : Nat) (h_t_high : Nat) (h_t_lowOne : Nat) (h_t_highOne : Nat) (h_t_ways : Nat) (h_t_left : Nat) (h_t_text : Nat) (h_t_verbs : Nat) (h_t_nums : Nat) (t_noOlder : Int32) (t_thanThis : Int32) (t_known : Int32) (t_knownAge : Int32) (t_moved : Int32) (t_met : Int32) (t_hours : Int32) (t_greatest : Int32) (t_typed : Int32) (t_at : Int32) (t_start : Int32) (t_token : Int32) (t_value : Int32) (t_items : Int32) (t_book : Nat → Int32) (p1 : Int32) (p2 : Int32) (o0 : Int32) (o1 : Nat → Int32) (hf : f_X10_sets t_book p1 p2 = some (o0, o1)) : CM l yX10_sets wqX10_sets rmX10_sets (kS te) dC dI cI cZ [.ref h_t, .int p1, .int p2] [(h_t, .inr (8, fX10 h_t_book h_t_images h_t_kept h_t_aside h_t_far h_t_then h_t_row h_t_mays h_t_firstRow h_t_low h_t_high t_noOlder t_thanThis t_known t_knownAge t_moved h_t_lowOne h_t_highOne h_t_ways t_met h_t_left t_hours t_greatest h_t_text t_typed t_at t_start t_token t_value h_t_verbs h_t_nums t_items)), (h_t_book, .inl (cI, 460, .inl t_book))] [(h_t, .inr (8, fX10 h_t_book h_t_images h_t_kept h_t_aside h_t_far h_t_then h_t_row h_t_mays h_t_firstRow h_t_low h_t_high t_noOlder t_thanThis t_known t_knownAge t_moved h_t_lowOne h_t_highOne h_t_ways t_met h_t_left t_hours t_greatest h_t_text t_typed t_at t_start t_token t_value h_t_verbs h_t_nums t_items)), (h_t_book, .inl (cI, 460, .inl o1))] (some (.int o0)) := by
  refine CM_of (cc := cX10_sets) (maxL := 4) (ret := (some .int)) (by decide +kernel) rfl (Nat.le_of_ble_eq_true rfl) ?_
  intro p e s m args below meth c A Q hx hb hr hml hown hts hlocks hA hK hP hD hS hE hQ hAe ls hl
  have hown : s.vm.findClass RX10 = some m.cls := hown
  have hl : lv_has ls 4 [(0, .ref h_t), (1, .int p1), (2, .int p2)] := hl
  unfold f_X10_sets at hf
  refine lv_aload_n hx hb dX10_sets_0 rfl (lv_at hl 0 rfl) ?_
  refine va_get (D := (dC, dI)) (ci := 8) (v := .ref h_t_book) (C := RX10) (T := TX10) (N := 32) hx hb hts (in1 tw_X10) hown hK hP 0 rfl rfl 0 (by decide) (hts _ (List.mem_cons_of_mem _ kw_116)) (fun _ h9 => h9) rfl dX10_sets_1 ?_
  refine lv_iload_n hx hb dX10_sets_4 rfl (lv_at hl 1 rfl) ?_
  obtain ⟨g1, hf⟩ := chk_some hf
  refine va_iald hx hb hK hP 1 0 rfl rfl (gin_in g1) dX10_sets_5 ?_
  obtain ⟨x2, e3, hf⟩ := nm_some hf
  refine lv_tope e3 ?_
  refine lv_istore_n (lv' := [(3, .int x2), (0, .ref h_t), (1, .int p1), (2, .int p2)]) hx hb dX10_sets_6 rfl hl (by decide) rfl (fun ls hl => ?_)
  refine lv_aload_n hx hb dX10_sets_7 rfl (lv_at hl 1 rfl) ?_
  refine va_get (D := (dC, dI)) (ci := 8) (v := .ref h_t_book) (C := RX10) (T := TX10) (N := 32) hx hb hts (in1 tw_X10) hown hK hP 0 rfl rfl 0 (by decide) (hts _ (List.mem_cons_of_mem _ kw_116)) (fun _ h9 => h9) rfl dX10_sets_8 ?_
  refine lv_iload_n hx hb dX10_sets_11 rfl (lv_at hl 2 rfl) ?_
  refine lv_iload_n hx hb dX10_sets_12 rfl (lv_at hl 3 rfl) ?_
  obtain ⟨g4, hf⟩ := chk_some hf
  obtain ⟨y5, e6, hf⟩ := nm_some hf
  refine va_iast hx hb hK hP hD hS 1 0 rfl rfl (gin_in g4) dX10_sets_13 (fun H locs hP hD hS => ?_)
  have hP : va_P (dC, dI) vwCl [(h_t, .inr (8, fX10 h_t_book h_t_images h_t_kept h_t_aside h_t_far h_t_then h_t_row h_t_mays h_t_firstRow h_t_low h_t_high t_noOlder t_thanThis t_known t_knownAge t_moved h_t_lowOne h_t_highOne h_t_ways t_met h_t_left t_hours t_greatest h_t_text t_typed t_at t_start t_token t_value h_t_verbs h_t_nums t_items)), (h_t_book, .inl (cI, 460, .inl y5))] H := by rw [e6]; exact hP
  have hD : va_D A [(h_t, .inr (8, fX10 h_t_book h_t_images h_t_kept h_t_aside h_t_far h_t_then h_t_row h_t_mays h_t_firstRow h_t_low h_t_high t_noOlder t_thanThis t_known t_knownAge t_moved h_t_lowOne h_t_highOne h_t_ways t_met h_t_left t_hours t_greatest h_t_text t_typed t_at t_start t_token t_value h_t_verbs h_t_nums t_items)), (h_t_book, .inl (cI, 460, .inl y5))] := by rw [e6]; exact hD
  refine lv_iload_n hx hb dX10_sets_14 rfl (lv_at hl 0 rfl) ?_
  obtain ⟨rfl, rfl⟩ := inj2 hf
  subst hQ
  exact CM_iret hx hb hr rfl hlocks hAe hP hD hS dX10_sets_15
def rmX10_isStage : Room := { frames := 1, cells := 0, slots := 0, locals := 25 }
abbrev wqX10_isStage : List Cond := Cond.code yX10_isStage cX10_isStage 1 (some .boolean) :: tG
set_option maxHeartbeats 4000000 in
set_option maxRecDepth 100000 in
theorem c_X10_isStage (l : Launch) (dC : Nat → ClassId) (dI : Nat → Nat → Nat) (cI cZ : ClassId) (te : Nat → Nat) (p1 : Int32) (o0 : Int32) (hf : f_X10_isStage p1 = some o0) : CM l yX10_isStage wqX10_isStage rmX10_isStage (kS te) dC dI cI cZ [.int p1] [] [] (some (.int o0)) := by
  refine CM_of (cc := cX10_isStage) (maxL := 1) (ret := (some .boolean)) (by decide +kernel) rfl (Nat.le_of_ble_eq_true rfl) ?_
  intro p e s m args below meth c A Q hx hb hr hml hown hts hlocks hA hK hP hD hS hE hQ hAe ls hl
  have hown : s.vm.findClass RX10 = some m.cls := hown
  have hl : lv_has ls 1 [(0, .int p1)] := hl
  unfold f_X10_isStage at hf
  refine lv_iload_n hx hb dX10_isStage_0 rfl (lv_at hl 0 rfl) ?_
  refine lv_i2l hx hb dX10_isStage_1 rfl ?_
  refine lv_lconst (v := (0 : Int64)) hx hb dX10_isStage_2 (by decide) ?_
  refine lv_ldc2 (v := (2 : Int64)) hx hb hown (hts _ (List.mem_cons_of_mem _ kw_156)) dX10_isStage_3 ?_
  obtain ⟨r1, hg2, hf⟩ := bd1_some hf
  refine CM_callS (As := [.long p1.toInt64, .long (0 : Int64), .long (2 : Int64)]) (rest := []) (wc := []) (w1 := []) (wr := []) (wo := []) (v := (some (.int r1))) ⟨hx, hb, hml, hown, hts⟩ (c_X10_in l dC dI cI cZ te (p1.toInt64) (0 : Int64) (2 : Int64) r1 hg2) (va_cwS 3 hts (gS kw_157 kw_158 kw_159 kw_160) rfl rfl rfl (by decide +kernel) ⟨Nat.le_of_ble_eq_true rfl, Nat.le_of_ble_eq_true rfl⟩) (kS_env te) hK hP hD hS hA hE [] [] [] rfl rfl (by decide) (by decide) (by decide) (by decide) rfl rfl hl.1 rfl (Nat.le_of_ble_eq_true rfl) dX10_isStage_6 ⟨Nat.zero_le _, Nat.zero_le _⟩ (fun H locs hP hD hS => ?_)
  show W p l e rmX10_isStage s m args below meth c H locs 0 0 Q (F0 m 9 ls [.int r1])
  obtain ⟨g3, hf⟩ := chk_some hf
  obtain rfl := inj1 hf
  subst hQ
  exact CM_iret hx hb hr (gz_n g3) hlocks hAe hP hD hS dX10_isStage_9
def rmX10_isPlace : Room := { frames := 1, cells := 0, slots := 0, locals := 25 }
abbrev wqX10_isPlace : List Cond := Cond.code yX10_isPlace cX10_isPlace 1 (some .boolean) :: tG
set_option maxHeartbeats 4000000 in
set_option maxRecDepth 100000 in
theorem c_X10_isPlace (l : Launch) (dC : Nat → ClassId) (dI : Nat → Nat → Nat) (cI cZ : ClassId) (te : Nat → Nat) (p1 : Int32) (o0 : Int32) (hf : f_X10_isPlace p1 = some o0) : CM l yX10_isPlace wqX10_isPlace rmX10_isPlace (kS te) dC dI cI cZ [.int p1] [] [] (some (.int o0)) := by
  refine CM_of (cc := cX10_isPlace) (maxL := 1) (ret := (some .boolean)) (by decide +kernel) rfl (Nat.le_of_ble_eq_true rfl) ?_
  intro p e s m args below meth c A Q hx hb hr hml hown hts hlocks hA hK hP hD hS hE hQ hAe ls hl
  have hown : s.vm.findClass RX10 = some m.cls := hown
  have hl : lv_has ls 1 [(0, .int p1)] := hl
  unfold f_X10_isPlace at hf
  refine lv_iload_n hx hb dX10_isPlace_0 rfl (lv_at hl 0 rfl) ?_
  refine lv_i2l hx hb dX10_isPlace_1 rfl ?_
  refine lv_lconst (v := (0 : Int64)) hx hb dX10_isPlace_2 (by decide) ?_
  refine lv_ldc2 (v := (63 : Int64)) hx hb hown (hts _ (List.mem_cons_of_mem _ kw_161)) dX10_isPlace_3 ?_
  obtain ⟨r1, hg2, hf⟩ := bd1_some hf
  refine CM_callS (As := [.long p1.toInt64, .long (0 : Int64), .long (63 : Int64)]) (rest := []) (wc := []) (w1 := []) (wr := []) (wo := []) (v := (some (.int r1))) ⟨hx, hb, hml, hown, hts⟩ (c_X10_in l dC dI cI cZ te (p1.toInt64) (0 : Int64) (63 : Int64) r1 hg2) (va_cwS 3 hts (gS kw_157 kw_158 kw_159 kw_160) rfl rfl rfl (by decide +kernel) ⟨Nat.le_of_ble_eq_true rfl, Nat.le_of_ble_eq_true rfl⟩) (kS_env te) hK hP hD hS hA hE [] [] [] rfl rfl (by decide) (by decide) (by decide) (by decide) rfl rfl hl.1 rfl (Nat.le_of_ble_eq_true rfl) dX10_isPlace_6 ⟨Nat.zero_le _, Nat.zero_le _⟩ (fun H locs hP hD hS => ?_)
  show W p l e rmX10_isPlace s m args below meth c H locs 0 0 Q (F0 m 9 ls [.int r1])
  obtain ⟨g3, hf⟩ := chk_some hf
  obtain rfl := inj1 hf
  subst hQ
  exact CM_iret hx hb hr (gz_n g3) hlocks hAe hP hD hS dX10_isPlace_9
def rmX10_heightAt : Room := { frames := 0, cells := 0, slots := 0, locals := 0 }
abbrev wqX10_heightAt : List Cond := Cond.code yX10_heightAt cX10_heightAt 3 (some .int) :: tG
set_option maxHeartbeats 4000000 in
set_option maxRecDepth 100000 in
theorem c_X10_heightAt (l : Launch) (dC : Nat → ClassId) (dI : Nat → Nat → Nat) (cI cZ : ClassId) (te : Nat → Nat) (h_t : Nat) (h_t_book : Nat) (h_t_images : Nat) (h_t_kept : Nat) (h_t_aside : Nat) (h_t_far : Nat) (h_t_then : Nat) (h_t_row : Nat) (h_t_mays : Nat) (h_t_firstRow : Nat) (h_t_low : Nat) (h_t_high : Nat) (h_t_lowOne : Nat) (h_t_highOne : Nat) (h_t_ways : Nat) (h_t_left : Nat) (h_t_text : Nat) (h_t_verbs : Nat) (h_t_nums : Nat) (t_noOlder : Int32) (t_thanThis : Int32) (t_known : Int32) (t_knownAge : Int32) (t_moved : Int32) (t_met : Int32) (t_hours : Int32) (t_greatest : Int32) (t_typed : Int32) (t_at : Int32) (t_start : Int32) (t_token : Int32) (t_value : Int32) (t_items : Int32) (t_book : Nat → Int32) (p1 : Int32) (p2 : Int32) (o0 : Int32) (hf : f_X10_heightAt t_book p1 p2 = some o0) : CM l yX10_heightAt wqX10_heightAt rmX10_heightAt (kS te) dC dI cI cZ [.ref h_t, .int p1, .int p2] [(h_t, .inr (8, fX10 h_t_book h_t_images h_t_kept h_t_aside h_t_far h_t_then h_t_row h_t_mays h_t_firstRow h_t_low h_t_high t_noOlder t_thanThis t_known t_knownAge t_moved h_t_lowOne h_t_highOne h_t_ways t_met h_t_left t_hours t_greatest h_t_text t_typed t_at t_start t_token t_value h_t_verbs h_t_nums t_items)), (h_t_book, .inl (cI, 460, .inl t_book))] [(h_t, .inr (8, fX10 h_t_book h_t_images h_t_kept h_t_aside h_t_far h_t_then h_t_row h_t_mays h_t_firstRow h_t_low h_t_high t_noOlder t_thanThis t_known t_knownAge t_moved h_t_lowOne h_t_highOne h_t_ways t_met h_t_left t_hours t_greatest h_t_text t_typed t_at t_start t_token t_value h_t_verbs h_t_nums t_items)), (h_t_book, .inl (cI, 460, .inl t_book))] (some (.int o0)) := by
  refine CM_of (cc := cX10_heightAt) (maxL := 3) (ret := (some .int)) (by decide +kernel) rfl (Nat.le_of_ble_eq_true rfl) ?_
  intro p e s m args below meth c A Q hx hb hr hml hown hts hlocks hA hK hP hD hS hE hQ hAe ls hl
  have hown : s.vm.findClass RX10 = some m.cls := hown
  have hl : lv_has ls 3 [(0, .ref h_t), (1, .int p1), (2, .int p2)] := hl
  unfold f_X10_heightAt at hf
  refine lv_aload_n hx hb dX10_heightAt_0 rfl (lv_at hl 0 rfl) ?_
  refine va_get (D := (dC, dI)) (ci := 8) (v := .ref h_t_book) (C := RX10) (T := TX10) (N := 32) hx hb hts (in1 tw_X10) hown hK hP 0 rfl rfl 0 (by decide) (hts _ (List.mem_cons_of_mem _ kw_116)) (fun _ h9 => h9) rfl dX10_heightAt_1 ?_
  refine lv_bipush (v := (20 : Int32)) hx hb dX10_heightAt_4 (by decide) ?_
  refine lv_bipush (v := (64 : Int32)) hx hb dX10_heightAt_6 (by decide) ?_
  refine lv_iload_n hx hb dX10_heightAt_8 rfl (lv_at hl 1 rfl) ?_
  refine lv_imul hx hb dX10_heightAt_9 ?_
  refine lv_iadd hx hb dX10_heightAt_10 ?_
  refine lv_iload_n hx hb dX10_heightAt_11 rfl (lv_at hl 2 rfl) ?_
  refine lv_iadd hx hb dX10_heightAt_12 ?_
  obtain ⟨g1, hf⟩ := chk_some hf
  refine va_iald hx hb hK hP 1 0 rfl rfl (gin_in g1) dX10_heightAt_13 ?_
  obtain rfl := inj1 hf
  subst hQ
  exact CM_iret hx hb hr rfl hlocks hAe hP hD hS dX10_heightAt_14
def rmX10_surface : Room := { frames := 2, cells := 0, slots := 0, locals := 45 }
abbrev wqX10_surface : List Cond := Cond.code yX10_surface cX10_surface 4 (some .int) :: tG
set_option maxHeartbeats 4000000 in
set_option maxRecDepth 100000 in
theorem c_X10_surface (l : Launch) (dC : Nat → ClassId) (dI : Nat → Nat → Nat) (cI cZ : ClassId) (te : Nat → Nat) (h_t : Nat) (h_t_book : Nat) (h_t_images : Nat) (h_t_kept : Nat) (h_t_aside : Nat) (h_t_far : Nat) (h_t_then : Nat) (h_t_row : Nat) (h_t_mays : Nat) (h_t_firstRow : Nat) (h_t_low : Nat) (h_t_high : Nat) (h_t_lowOne : Nat) (h_t_highOne : Nat) (h_t_ways : Nat) (h_t_left : Nat) (h_t_text : Nat) (h_t_verbs : Nat) (h_t_nums : Nat) (t_noOlder : Int32) (t_thanThis : Int32) (t_known : Int32) (t_knownAge : Int32) (t_moved : Int32) (t_met : Int32) (t_hours : Int32) (t_greatest : Int32) (t_typed : Int32) (t_at : Int32) (t_start : Int32) (t_token : Int32) (t_value : Int32) (t_items : Int32) (t_book : Nat → Int32) (p1 : Int32) (p2 : Int32) (p3 : Int32) (o0 : Int32) (o1 : Nat → Int32) (hf : f_X10_surface t_book p1 p2 p3 = some (o0, o1)) : CM l yX10_surface wqX10_surface rmX10_surface (kS te) dC dI cI cZ [.ref h_t, .int p1, .int p2, .int p3] [(h_t, .inr (8, fX10 h_t_book h_t_images h_t_kept h_t_aside h_t_far h_t_then h_t_row h_t_mays h_t_firstRow h_t_low h_t_high t_noOlder t_thanThis t_known t_knownAge t_moved h_t_lowOne h_t_highOne h_t_ways t_met h_t_left t_hours t_greatest h_t_text t_typed t_at t_start t_token t_value h_t_verbs h_t_nums t_items)), (h_t_book, .inl (cI, 460, .inl t_book))] [(h_t, .inr (8, fX10 h_t_book h_t_images h_t_kept h_t_aside h_t_far h_t_then h_t_row h_t_mays h_t_firstRow h_t_low h_t_high t_noOlder t_thanThis t_known t_knownAge t_moved h_t_lowOne h_t_highOne h_t_ways t_met h_t_left t_hours t_greatest h_t_text t_typed t_at t_start t_token t_value h_t_verbs h_t_nums t_items)), (h_t_book, .inl (cI, 460, .inl o1))] (some (.int o0)) := by
  refine CM_of (cc := cX10_surface) (maxL := 4) (ret := (some .int)) (by decide +kernel) rfl (Nat.le_of_ble_eq_true rfl) ?_
  intro p e s m args below meth c A Q hx hb hr hml hown hts hlocks hA hK hP hD hS hE hQ hAe ls hl
  have hown : s.vm.findClass RX10 = some m.cls := hown
  have hl : lv_has ls 4 [(0, .ref h_t), (1, .int p1), (2, .int p2), (3, .int p3)] := hl
  unfold f_X10_surface at hf
  refine lv_iload_n hx hb dX10_surface_0 rfl (lv_at hl 1 rfl) ?_
  obtain ⟨r1, hg2, hf⟩ := bd1_some hf
  refine CM_callS (As := [.int p1]) (rest := []) (wc := []) (w1 := []) (wr := [(h_t, .inr (8, fX10 h_t_book h_t_images h_t_kept h_t_aside h_t_far h_t_then h_t_row h_t_mays h_t_firstRow h_t_low h_t_high t_noOlder t_thanThis t_known t_knownAge t_moved h_t_lowOne h_t_highOne h_t_ways t_met h_t_left t_hours t_greatest h_t_text t_typed t_at t_start t_token t_value h_t_verbs h_t_nums t_items)), (h_t_book, .inl (cI, 460, .inl t_book))]) (wo := [(h_t, .inr (8, fX10 h_t_book h_t_images h_t_kept h_t_aside h_t_far h_t_then h_t_row h_t_mays h_t_firstRow h_t_low h_t_high t_noOlder t_thanThis t_known t_knownAge t_moved h_t_lowOne h_t_highOne h_t_ways t_met h_t_left t_hours t_greatest h_t_text t_typed t_at t_start t_token t_value h_t_verbs h_t_nums t_items)), (h_t_book, .inl (cI, 460, .inl t_book))]) (v := (some (.int r1))) ⟨hx, hb, hml, hown, hts⟩ (c_X10_isStage l dC dI cI cZ te p1 r1 hg2) (va_cwS 1 hts (gS kw_162 kw_163 kw_159 kw_164) rfl rfl rfl (by decide +kernel) ⟨Nat.le_of_ble_eq_true rfl, Nat.le_of_ble_eq_true rfl⟩) (kS_env te) hK hP hD hS hA hE [] [0, 1] [0, 1] rfl rfl (by decide) (by decide) (by decide) (by decide) rfl rfl hl.1 rfl (Nat.le_of_ble_eq_true rfl) dX10_surface_1 ⟨Nat.zero_le _, Nat.zero_le _⟩ (fun H locs hP hD hS => ?_)
  show W p l e rmX10_surface s m args below meth c H locs 0 0 Q (F0 m 4 ls [.int r1])
  refine lv_if_eq (tgt := 43) hx hb dX10_surface_4 (by decide) (fun c3 => ?_) (fun c3 => ?_)
  · replace hf := ifp c3 hf
    refine lv_bipush (v := (-2 : Int32)) hx hb dX10_surface_43 (by decide) ?_
    obtain ⟨rfl, rfl⟩ := inj2 hf
    subst hQ
    exact CM_iret hx hb hr rfl hlocks hAe hP hD hS dX10_surface_45
  · replace hf := ifn c3 hf
    refine lv_iload_n hx hb dX10_surface_7 rfl (lv_at hl 2 rfl) ?_
    obtain ⟨r4, hg5, hf⟩ := bd1_some hf
    refine CM_callS (As := [.int p2]) (rest := []) (wc := []) (w1 := []) (wr := [(h_t, .inr (8, fX10 h_t_book h_t_images h_t_kept h_t_aside h_t_far h_t_then h_t_row h_t_mays h_t_firstRow h_t_low h_t_high t_noOlder t_thanThis t_known t_knownAge t_moved h_t_lowOne h_t_highOne h_t_ways t_met h_t_left t_hours t_greatest h_t_text t_typed t_at t_start t_token t_value h_t_verbs h_t_nums t_items)), (h_t_book, .inl (cI, 460, .inl t_book))]) (wo := [(h_t, .inr (8, fX10 h_t_book h_t_images h_t_kept h_t_aside h_t_far h_t_then h_t_row h_t_mays h_t_firstRow h_t_low h_t_high t_noOlder t_thanThis t_known t_knownAge t_moved h_t_lowOne h_t_highOne h_t_ways t_met h_t_left t_hours t_greatest h_t_text t_typed t_at t_start t_token t_value h_t_verbs h_t_nums t_items)), (h_t_book, .inl (cI, 460, .inl t_book))]) (v := (some (.int r4))) ⟨hx, hb, hml, hown, hts⟩ (c_X10_isPlace l dC dI cI cZ te p2 r4 hg5) (va_cwS 1 hts (gS kw_165 kw_166 kw_159 kw_167) rfl rfl rfl (by decide +kernel) ⟨Nat.le_of_ble_eq_true rfl, Nat.le_of_ble_eq_true rfl⟩) (kS_env te) hK hP hD hS hA hE [] [0, 1] [0, 1] rfl rfl (by decide) (by decide) (by decide) (by decide) rfl rfl hl.1 rfl (Nat.le_of_ble_eq_true rfl) dX10_surface_8 ⟨Nat.zero_le _, Nat.zero_le _⟩ (fun H locs hP hD hS => ?_)
    show W p l e rmX10_surface s m args below meth c H locs 0 0 Q (F0 m 11 ls [.int r4])
    refine lv_if_eq (tgt := 43) hx hb dX10_surface_11 (by decide) (fun c6 => ?_) (fun c6 => ?_)
    · replace hf := ifp c6 hf
      refine lv_bipush (v := (-2 : Int32)) hx hb dX10_surface_43 (by decide) ?_
      obtain ⟨rfl, rfl⟩ := inj2 hf
      subst hQ
      exact CM_iret hx hb hr rfl hlocks hAe hP hD hS dX10_surface_45
    · replace hf := ifn c6 hf
      refine lv_iload_n hx hb dX10_surface_14 rfl (lv_at hl 3 rfl) ?_
      refine lv_i2l hx hb dX10_surface_15 rfl ?_
      refine lv_lconst (v := (0 : Int64)) hx hb dX10_surface_16 (by decide) ?_
      refine lv_ldc2 (v := (99 : Int64)) hx hb hown (hts _ (List.mem_cons_of_mem _ kw_168)) dX10_surface_17 ?_
      obtain ⟨r7, hg8, hf⟩ := bd1_some hf
      refine CM_callS (As := [.long p3.toInt64, .long (0 : Int64), .long (99 : Int64)]) (rest := []) (wc := []) (w1 := []) (wr := [(h_t, .inr (8, fX10 h_t_book h_t_images h_t_kept h_t_aside h_t_far h_t_then h_t_row h_t_mays h_t_firstRow h_t_low h_t_high t_noOlder t_thanThis t_known t_knownAge t_moved h_t_lowOne h_t_highOne h_t_ways t_met h_t_left t_hours t_greatest h_t_text t_typed t_at t_start t_token t_value h_t_verbs h_t_nums t_items)), (h_t_book, .inl (cI, 460, .inl t_book))]) (wo := [(h_t, .inr (8, fX10 h_t_book h_t_images h_t_kept h_t_aside h_t_far h_t_then h_t_row h_t_mays h_t_firstRow h_t_low h_t_high t_noOlder t_thanThis t_known t_knownAge t_moved h_t_lowOne h_t_highOne h_t_ways t_met h_t_left t_hours t_greatest h_t_text t_typed t_at t_start t_token t_value h_t_verbs h_t_nums t_items)), (h_t_book, .inl (cI, 460, .inl t_book))]) (v := (some (.int r7))) ⟨hx, hb, hml, hown, hts⟩ (c_X10_in l dC dI cI cZ te (p3.toInt64) (0 : Int64) (99 : Int64) r7 hg8) (va_cwS 3 hts (gS kw_157 kw_158 kw_159 kw_160) rfl rfl rfl (by decide +kernel) ⟨Nat.le_of_ble_eq_true rfl, Nat.le_of_ble_eq_true rfl⟩) (kS_env te) hK hP hD hS hA hE [] [0, 1] [0, 1] rfl rfl (by decide) (by decide) (by decide) (by decide) rfl rfl hl.1 rfl (Nat.le_of_ble_eq_true rfl) dX10_surface_20 ⟨Nat.zero_le _, Nat.zero_le _⟩ (fun H locs hP hD hS => ?_)
      show W p l e rmX10_surface s m args below meth c H locs 0 0 Q (F0 m 23 ls [.int r7])
      refine lv_if_eq (tgt := 43) hx hb dX10_surface_23 (by decide) (fun c9 => ?_) (fun c9 => ?_)
      · replace hf := ifp c9 hf
        refine lv_bipush (v := (-2 : Int32)) hx hb dX10_surface_43 (by decide) ?_
        obtain ⟨rfl, rfl⟩ := inj2 hf
        subst hQ
        exact CM_iret hx hb hr rfl hlocks hAe hP hD hS dX10_surface_45
      · replace hf := ifn c9 hf
        refine lv_aload_n hx hb dX10_surface_26 rfl (lv_at hl 0 rfl) ?_
        refine lv_bipush (v := (20 : Int32)) hx hb dX10_surface_27 (by decide) ?_
        refine lv_bipush (v := (64 : Int32)) hx hb dX10_surface_29 (by decide) ?_
        refine lv_iload_n hx hb dX10_surface_31 rfl (lv_at hl 1 rfl) ?_
        refine lv_imul hx hb dX10_surface_32 ?_
        refine lv_iadd hx hb dX10_surface_33 ?_
        refine lv_iload_n hx hb dX10_surface_34 rfl (lv_at hl 2 rfl) ?_
        refine lv_iadd hx hb dX10_surface_35 ?_
        refine lv_iload_n hx hb dX10_surface_36 rfl (lv_at hl 3 rfl) ?_
        obtain ⟨r10, y11, hg12, hf⟩ := bd2_some hf
        refine CM_callV (C := RX10) (As := [.int (((20 : Int32) + ((64 : Int32) * p1)) + p2), .int p3]) (rest := []) (wc := [(h_t, .inr (8, fX10 h_t_book h_t_images h_t_kept h_t_aside h_t_far h_t_then h_t_row h_t_mays h_t_firstRow h_t_low h_t_high t_noOlder t_thanThis t_known t_knownAge t_moved h_t_lowOne h_t_highOne h_t_ways t_met h_t_left t_hours t_greatest h_t_text t_typed t_at t_start t_token t_value h_t_verbs h_t_nums t_items)), (h_t_book, .inl (cI, 460, .inl t_book))]) (w1 := [(h_t, .inr (8, fX10 h_t_book h_t_images h_t_kept h_t_aside h_t_far h_t_then h_t_row h_t_mays h_t_firstRow h_t_low h_t_high t_noOlder t_thanThis t_known t_knownAge t_moved h_t_lowOne h_t_highOne h_t_ways t_met h_t_left t_hours t_greatest h_t_text t_typed t_at t_start t_token t_value h_t_verbs h_t_nums t_items)), (h_t_book, .inl (cI, 460, .inl y11))]) (wr := []) (wo := [(h_t, .inr (8, fX10 h_t_book h_t_images h_t_kept h_t_aside h_t_far h_t_then h_t_row h_t_mays h_t_firstRow h_t_low h_t_high t_noOlder t_thanThis t_known t_knownAge t_moved h_t_lowOne h_t_highOne h_t_ways t_met h_t_left t_hours t_greatest h_t_text t_typed t_at t_start t_token t_value h_t_verbs h_t_nums t_items)), (h_t_book, .inl (cI, 460, .inl y11))]) (v := (some (.int r10))) ⟨hx, hb, hml, hown, hts⟩ (c_X10_sets l dC dI cI cZ te h_t h_t_book h_t_images h_t_kept h_t_aside h_t_far h_t_then h_t_row h_t_mays h_t_firstRow h_t_low h_t_high h_t_lowOne h_t_highOne h_t_ways h_t_left h_t_text h_t_verbs h_t_nums t_noOlder t_thanThis t_known t_knownAge t_moved t_met t_hours t_greatest t_typed t_at t_start t_token t_value t_items t_book (((20 : Int32) + ((64 : Int32) * p1)) + p2) p3 r10 y11 hg12) (cwV 2 hts (gV kw_169 kw_170 kw_171 kw_159 kw_172) rfl rfl rfl (by decide +kernel) ⟨Nat.le_of_ble_eq_true rfl, Nat.le_of_ble_eq_true rfl⟩) (kS_env te) hK hP hD hS hA hE [0, 1] [] [0, 1] rfl rfl (by decide) (by decide) (by decide) (by decide) rfl 0 8 rfl rfl rfl rfl hl.1 rfl (Nat.le_of_ble_eq_true rfl) dX10_surface_37 ⟨Nat.zero_le _, Nat.zero_le _⟩ (fun H locs hP hD hS => ?_)
        show W p l e rmX10_surface s m args below meth c H locs 0 0 Q (F0 m 40 ls [.int r10])
        refine lv_goto (tgt := 45) hx hb dX10_surface_40 (by decide) ?_
        obtain ⟨rfl, rfl⟩ := inj2 hf
        subst hQ
        exact CM_iret hx hb hr rfl hlocks hAe hP hD hS dX10_surface_45
def rmX10_slope : Room := { frames := 2, cells := 0, slots := 0, locals := 45 }
abbrev wqX10_slope : List Cond := Cond.code yX10_slope cX10_slope 7 (some .int) :: tG
set_option maxHeartbeats 4000000 in
set_option maxRecDepth 100000 in
theorem c_X10_slope (l : Launch) (dC : Nat → ClassId) (dI : Nat → Nat → Nat) (cI cZ : ClassId) (te : Nat → Nat) (h_t : Nat) (h_t_book : Nat) (h_t_images : Nat) (h_t_kept : Nat) (h_t_aside : Nat) (h_t_far : Nat) (h_t_then : Nat) (h_t_row : Nat) (h_t_mays : Nat) (h_t_firstRow : Nat) (h_t_low : Nat) (h_t_high : Nat) (h_t_lowOne : Nat) (h_t_highOne : Nat) (h_t_ways : Nat) (h_t_left : Nat) (h_t_text : Nat) (h_t_verbs : Nat) (h_t_nums : Nat) (t_noOlder : Int32) (t_thanThis : Int32) (t_known : Int32) (t_knownAge : Int32) (t_moved : Int32) (t_met : Int32) (t_hours : Int32) (t_greatest : Int32) (t_typed : Int32) (t_at : Int32) (t_start : Int32) (t_token : Int32) (t_value : Int32) (t_items : Int32) (t_book : Nat → Int32) (p1 : Int32) (p2 : Int32) (p3 : Int32) (p4 : Int32) (o0 : Int32) (o1 : Nat → Int32) (hf : f_X10_slope t_book p1 p2 p3 p4 = some (o0, o1)) : CM l yX10_slope wqX10_slope rmX10_slope (kS te) dC dI cI cZ [.ref h_t, .int p1, .int p2, .int p3, .int p4] [(h_t, .inr (8, fX10 h_t_book h_t_images h_t_kept h_t_aside h_t_far h_t_then h_t_row h_t_mays h_t_firstRow h_t_low h_t_high t_noOlder t_thanThis t_known t_knownAge t_moved h_t_lowOne h_t_highOne h_t_ways t_met h_t_left t_hours t_greatest h_t_text t_typed t_at t_start t_token t_value h_t_verbs h_t_nums t_items)), (h_t_book, .inl (cI, 460, .inl t_book))] [(h_t, .inr (8, fX10 h_t_book h_t_images h_t_kept h_t_aside h_t_far h_t_then h_t_row h_t_mays h_t_firstRow h_t_low h_t_high t_noOlder t_thanThis t_known t_knownAge t_moved h_t_lowOne h_t_highOne h_t_ways t_met h_t_left t_hours t_greatest h_t_text t_typed t_at t_start t_token t_value h_t_verbs h_t_nums t_items)), (h_t_book, .inl (cI, 460, .inl o1))] (some (.int o0)) := by
  refine CM_of (cc := cX10_slope) (maxL := 7) (ret := (some .int)) (by decide +kernel) rfl (Nat.le_of_ble_eq_true rfl) ?_
  intro p e s m args below meth c A Q hx hb hr hml hown hts hlocks hA hK hP hD hS hE hQ hAe ls hl
  have hown : s.vm.findClass RX10 = some m.cls := hown
  have hl : lv_has ls 7 [(0, .ref h_t), (1, .int p1), (2, .int p2), (3, .int p3), (4, .int p4)] := hl
  unfold f_X10_slope at hf
  refine lv_iload_n hx hb dX10_slope_0 rfl (lv_at hl 1 rfl) ?_
  obtain ⟨r1, hg2, hf⟩ := bd1_some hf
  refine CM_callS (As := [.int p1]) (rest := []) (wc := []) (w1 := []) (wr := [(h_t, .inr (8, fX10 h_t_book h_t_images h_t_kept h_t_aside h_t_far h_t_then h_t_row h_t_mays h_t_firstRow h_t_low h_t_high t_noOlder t_thanThis t_known t_knownAge t_moved h_t_lowOne h_t_highOne h_t_ways t_met h_t_left t_hours t_greatest h_t_text t_typed t_at t_start t_token t_value h_t_verbs h_t_nums t_items)), (h_t_book, .inl (cI, 460, .inl t_book))]) (wo := [(h_t, .inr (8, fX10 h_t_book h_t_images h_t_kept h_t_aside h_t_far h_t_then h_t_row h_t_mays h_t_firstRow h_t_low h_t_high t_noOlder t_thanThis t_known t_knownAge t_moved h_t_lowOne h_t_highOne h_t_ways t_met h_t_left t_hours t_greatest h_t_text t_typed t_at t_start t_token t_value h_t_verbs h_t_nums t_items)), (h_t_book, .inl (cI, 460, .inl t_book))]) (v := (some (.int r1))) ⟨hx, hb, hml, hown, hts⟩ (c_X10_isStage l dC dI cI cZ te p1 r1 hg2) (va_cwS 1 hts (gS kw_162 kw_163 kw_159 kw_164) rfl rfl rfl (by decide +kernel) ⟨Nat.le_of_ble_eq_true rfl, Nat.le_of_ble_eq_true rfl⟩) (kS_env te) hK hP hD hS hA hE [] [0, 1] [0, 1] rfl rfl (by decide) (by decide) (by decide) (by decide) rfl rfl hl.1 rfl (Nat.le_of_ble_eq_true rfl) dX10_slope_1 ⟨Nat.zero_le _, Nat.zero_le _⟩ (fun H locs hP hD hS => ?_)
  show W p l e rmX10_slope s m args below meth c H locs 0 0 Q (F0 m 4 ls [.int r1])
  refine lv_if_eq (tgt := 46) hx hb dX10_slope_4 (by decide) (fun c3 => ?_) (fun c3 => ?_)
  · replace hf := ifp c3 hf
    refine lv_bipush (v := (-2 : Int32)) hx hb dX10_slope_46 (by decide) ?_
    obtain ⟨rfl, rfl⟩ := inj2 hf
    subst hQ
    exact CM_iret hx hb hr rfl hlocks hAe hP hD hS dX10_slope_48
  · replace hf := ifn c3 hf
    refine lv_iload_n hx hb dX10_slope_7 rfl (lv_at hl 2 rfl) ?_
    refine lv_i2l hx hb dX10_slope_8 rfl ?_
    refine lv_lconst (v := (0 : Int64)) hx hb dX10_slope_9 (by decide) ?_
    refine lv_ldc2 (v := (7 : Int64)) hx hb hown (hts _ (List.mem_cons_of_mem _ kw_173)) dX10_slope_10 ?_
    obtain ⟨r4, hg5, hf⟩ := bd1_some hf
    refine CM_callS (As := [.long p2.toInt64, .long (0 : Int64), .long (7 : Int64)]) (rest := []) (wc := []) (w1 := []) (wr := [(h_t, .inr (8, fX10 h_t_book h_t_images h_t_kept h_t_aside h_t_far h_t_then h_t_row h_t_mays h_t_firstRow h_t_low h_t_high t_noOlder t_thanThis t_known t_knownAge t_moved h_t_lowOne h_t_highOne h_t_ways t_met h_t_left t_hours t_greatest h_t_text t_typed t_at t_start t_token t_value h_t_verbs h_t_nums t_items)), (h_t_book, .inl (cI, 460, .inl t_book))]) (wo := [(h_t, .inr (8, fX10 h_t_book h_t_images h_t_kept h_t_aside h_t_far h_t_then h_t_row h_t_mays h_t_firstRow h_t_low h_t_high t_noOlder t_thanThis t_known t_knownAge t_moved h_t_lowOne h_t_highOne h_t_ways t_met h_t_left t_hours t_greatest h_t_text t_typed t_at t_start t_token t_value h_t_verbs h_t_nums t_items)), (h_t_book, .inl (cI, 460, .inl t_book))]) (v := (some (.int r4))) ⟨hx, hb, hml, hown, hts⟩ (c_X10_in l dC dI cI cZ te (p2.toInt64) (0 : Int64) (7 : Int64) r4 hg5) (va_cwS 3 hts (gS kw_157 kw_158 kw_159 kw_160) rfl rfl rfl (by decide +kernel) ⟨Nat.le_of_ble_eq_true rfl, Nat.le_of_ble_eq_true rfl⟩) (kS_env te) hK hP hD hS hA hE [] [0, 1] [0, 1] rfl rfl (by decide) (by decide) (by decide) (by decide) rfl rfl hl.1 rfl (Nat.le_of_ble_eq_true rfl) dX10_slope_13 ⟨Nat.zero_le _, Nat.zero_le _⟩ (fun H locs hP hD hS => ?_)
    show W p l e rmX10_slope s m args below meth c H locs 0 0 Q (F0 m 16 ls [.int r4])
    refine lv_if_eq (tgt := 46) hx hb dX10_slope_16 (by decide) (fun c6 => ?_) (fun c6 => ?_)
    · replace hf := ifp c6 hf
      refine lv_bipush (v := (-2 : Int32)) hx hb dX10_slope_46 (by decide) ?_
      obtain ⟨rfl, rfl⟩ := inj2 hf
      subst hQ
      exact CM_iret hx hb hr rfl hlocks hAe hP hD hS dX10_slope_48
    · replace hf := ifn c6 hf
      refine lv_iload_n hx hb dX10_slope_19 rfl (lv_at hl 3 rfl) ?_
      refine lv_i2l hx hb dX10_slope_20 rfl ?_
      refine lv_lconst (v := (0 : Int64)) hx hb dX10_slope_21 (by decide) ?_
      refine lv_ldc2 (v := (99 : Int64)) hx hb hown (hts _ (List.mem_cons_of_mem _ kw_168)) dX10_slope_22 ?_
      obtain ⟨r7, hg8, hf⟩ := bd1_some hf
      refine CM_callS (As := [.long p3.toInt64, .long (0 : Int64), .long (99 : Int64)]) (rest := []) (wc := []) (w1 := []) (wr := [(h_t, .inr (8, fX10 h_t_book h_t_images h_t_kept h_t_aside h_t_far h_t_then h_t_row h_t_mays h_t_firstRow h_t_low h_t_high t_noOlder t_thanThis t_known t_knownAge t_moved h_t_lowOne h_t_highOne h_t_ways t_met h_t_left t_hours t_greatest h_t_text t_typed t_at t_start t_token t_value h_t_verbs h_t_nums t_items)), (h_t_book, .inl (cI, 460, .inl t_book))]) (wo := [(h_t, .inr (8, fX10 h_t_book h_t_images h_t_kept h_t_aside h_t_far h_t_then h_t_row h_t_mays h_t_firstRow h_t_low h_t_high t_noOlder t_thanThis t_known t_knownAge t_moved h_t_lowOne h_t_highOne h_t_ways t_met h_t_left t_hours t_greatest h_t_text t_typed t_at t_start t_token t_value h_t_verbs h_t_nums t_items)), (h_t_book, .inl (cI, 460, .inl t_book))]) (v := (some (.int r7))) ⟨hx, hb, hml, hown, hts⟩ (c_X10_in l dC dI cI cZ te (p3.toInt64) (0 : Int64) (99 : Int64) r7 hg8) (va_cwS 3 hts (gS kw_157 kw_158 kw_159 kw_160) rfl rfl rfl (by decide +kernel) ⟨Nat.le_of_ble_eq_true rfl, Nat.le_of_ble_eq_true rfl⟩) (kS_env te) hK hP hD hS hA hE [] [0, 1] [0, 1] rfl rfl (by decide) (by decide) (by decide) (by decide) rfl rfl hl.1 rfl (Nat.le_of_ble_eq_true rfl) dX10_slope_25 ⟨Nat.zero_le _, Nat.zero_le _⟩ (fun H locs hP hD hS => ?_)
      show W p l e rmX10_slope s m args below meth c H locs 0 0 Q (F0 m 28 ls [.int r7])
      refine lv_if_eq (tgt := 46) hx hb dX10_slope_28 (by decide) (fun c9 => ?_) (fun c9 => ?_)
      · replace hf := ifp c9 hf
        refine lv_bipush (v := (-2 : Int32)) hx hb dX10_slope_46 (by decide) ?_
        obtain ⟨rfl, rfl⟩ := inj2 hf
        subst hQ
        exact CM_iret hx hb hr rfl hlocks hAe hP hD hS dX10_slope_48
      · replace hf := ifn c9 hf
        refine lv_iload hx hb dX10_slope_31 (lv_at hl 4 rfl) ?_
        refine lv_i2l hx hb dX10_slope_33 rfl ?_
        refine lv_ldc2 (v := (-50 : Int64)) hx hb hown (hts _ (List.mem_cons_of_mem _ kw_174)) dX10_slope_34 ?_
        refine lv_ldc2 (v := (50 : Int64)) hx hb hown (hts _ (List.mem_cons_of_mem _ kw_175)) dX10_slope_37 ?_
        obtain ⟨r10, hg11, hf⟩ := bd1_some hf
        refine CM_callS (As := [.long p4.toInt64, .long (-50 : Int64), .long (50 : Int64)]) (rest := []) (wc := []) (w1 := []) (wr := [(h_t, .inr (8, fX10 h_t_book h_t_images h_t_kept h_t_aside h_t_far h_t_then h_t_row h_t_mays h_t_firstRow h_t_low h_t_high t_noOlder t_thanThis t_known t_knownAge t_moved h_t_lowOne h_t_highOne h_t_ways t_met h_t_left t_hours t_greatest h_t_text t_typed t_at t_start t_token t_value h_t_verbs h_t_nums t_items)), (h_t_book, .inl (cI, 460, .inl t_book))]) (wo := [(h_t, .inr (8, fX10 h_t_book h_t_images h_t_kept h_t_aside h_t_far h_t_then h_t_row h_t_mays h_t_firstRow h_t_low h_t_high t_noOlder t_thanThis t_known t_knownAge t_moved h_t_lowOne h_t_highOne h_t_ways t_met h_t_left t_hours t_greatest h_t_text t_typed t_at t_start t_token t_value h_t_verbs h_t_nums t_items)), (h_t_book, .inl (cI, 460, .inl t_book))]) (v := (some (.int r10))) ⟨hx, hb, hml, hown, hts⟩ (c_X10_in l dC dI cI cZ te (p4.toInt64) (-50 : Int64) (50 : Int64) r10 hg11) (va_cwS 3 hts (gS kw_157 kw_158 kw_159 kw_160) rfl rfl rfl (by decide +kernel) ⟨Nat.le_of_ble_eq_true rfl, Nat.le_of_ble_eq_true rfl⟩) (kS_env te) hK hP hD hS hA hE [] [0, 1] [0, 1] rfl rfl (by decide) (by decide) (by decide) (by decide) rfl rfl hl.1 rfl (Nat.le_of_ble_eq_true rfl) dX10_slope_40 ⟨Nat.zero_le _, Nat.zero_le _⟩ (fun H locs hP hD hS => ?_)
        show W p l e rmX10_slope s m args below meth c H locs 0 0 Q (F0 m 43 ls [.int r10])
        refine lv_if_ne (tgt := 49) hx hb dX10_slope_43 (by decide) (fun c12 => ?_) (fun c12 => ?_)
        · replace hf := ifn c12 hf
          refine lv_iconst (v := (0 : Int32)) hx hb dX10_slope_49 (by decide) ?_
          refine lv_istore (lv' := [(5, .int (0 : Int32)), (0, .ref h_t), (1, .int p1), (2, .int p2), (3, .int p3), (4, .int p4)]) hx hb dX10_slope_50 hl (by decide) rfl (fun ls hl => ?_)
          have L41 : ∀ (fu29 : Nat) (y26 : Nat → Int32) (x27 : Int32) (y25 : Nat → Int32), f_X10_slope_L1 p3 p4 p1 p2 fu29 y26 x27 = some y25 → (∀ (H : Heap) (locs : List Loc), va_P (dC, dI) vwCl [(h_t, .inr (8, fX10 h_t_book h_t_images h_t_kept h_t_aside h_t_far h_t_then h_t_row h_t_mays h_t_firstRow h_t_low h_t_high t_noOlder t_thanThis t_known t_knownAge t_moved h_t_lowOne h_t_highOne h_t_ways t_met h_t_left t_hours t_greatest h_t_text t_typed t_at t_start t_token t_value h_t_verbs h_t_nums t_items)), (h_t_book, .inl (cI, 460, .inl y25))] H → va_D A [(h_t, .inr (8, fX10 h_t_book h_t_images h_t_kept h_t_aside h_t_far h_t_then h_t_row h_t_mays h_t_firstRow h_t_low h_t_high t_noOlder t_thanThis t_known t_knownAge t_moved h_t_lowOne h_t_highOne h_t_ways t_met h_t_left t_hours t_greatest h_t_text t_typed t_at t_start t_token t_value h_t_verbs h_t_nums t_items)), (h_t_book, .inl (cI, 460, .inl y25))] → va_S A s.heap H locs → ∀ ls : Array Slot, lv_has ls 7 [] → W p l e rmX10_slope s m args below meth c H locs 0 0 Q (F0 m 117 ls [])) → ∀ (H : Heap) (locs : List Loc), va_P (dC, dI) vwCl [(h_t, .inr (8, fX10 h_t_book h_t_images h_t_kept h_t_aside h_t_far h_t_then h_t_row h_t_mays h_t_firstRow h_t_low h_t_high t_noOlder t_thanThis t_known t_knownAge t_moved h_t_lowOne h_t_highOne h_t_ways t_met h_t_left t_hours t_greatest h_t_text t_typed t_at t_start t_token t_value h_t_verbs h_t_nums t_items)), (h_t_book, .inl (cI, 460, .inl y26))] H → va_D A [(h_t, .inr (8, fX10 h_t_book h_t_images h_t_kept h_t_aside h_t_far h_t_then h_t_row h_t_mays h_t_firstRow h_t_low h_t_high t_noOlder t_thanThis t_known t_knownAge t_moved h_t_lowOne h_t_highOne h_t_ways t_met h_t_left t_hours t_greatest h_t_text t_typed t_at t_start t_token t_value h_t_verbs h_t_nums t_items)), (h_t_book, .inl (cI, 460, .inl y26))] → va_S A s.heap H locs → ∀ ls : Array Slot, lv_has ls 7 [(0, .ref h_t), (1, .int p1), (2, .int p2), (3, .int p3), (4, .int p4), (5, .int x27)] → W p l e rmX10_slope s m args below meth c H locs 0 0 Q (F0 m 52 ls []) := by
            intro fu29
            induction fu29 with
            | zero =>
              intro y26 x27 y25 hf
              unfold f_X10_slope_L1 at hf
              exact none_ne hf
            | succ fu29 ih28 =>
              intro y26 x27 y25 hf hX30 H locs hP hD hS ls hl
              unfold f_X10_slope_L1 at hf
              refine lv_iload hx hb dX10_slope_52 (lv_at hl 5 rfl) ?_
              refine lv_bipush (v := (8 : Int32)) hx hb dX10_slope_54 (by decide) ?_
              refine lv_icmp_ge (tgt := 117) hx hb dX10_slope_56 (by decide) (fun c31 => ?_) (fun c31 => ?_)
              · replace hf := ifp c31 hf
                obtain rfl := inj1 hf
                exact hX30 _ _ hP hD hS _ (lv_sub hl [] rfl)
              · replace hf := ifn c31 hf
                refine lv_iload_n hx hb dX10_slope_59 rfl (lv_at hl 3 rfl) ?_
                refine lv_iload hx hb dX10_slope_60 (lv_at hl 4 rfl) ?_
                refine lv_iload hx hb dX10_slope_62 (lv_at hl 5 rfl) ?_
                refine lv_imul hx hb dX10_slope_64 ?_
                refine lv_isub hx hb dX10_slope_65 ?_
                obtain ⟨x32, e33, hf⟩ := nm_some hf
                refine lv_tope e33 ?_
                refine lv_istore (lv' := [(6, .int x32), (0, .ref h_t), (1, .int p1), (2, .int p2), (3, .int p3), (4, .int p4), (5, .int x27)]) hx hb dX10_slope_66 hl (by decide) rfl (fun ls hl => ?_)
                refine lv_aload_n hx hb dX10_slope_68 rfl (lv_at hl 1 rfl) ?_
                refine va_get (D := (dC, dI)) (ci := 8) (v := .ref h_t_book) (C := RX10) (T := TX10) (N := 32) hx hb hts (in1 tw_X10) hown hK hP 0 rfl rfl 0 (by decide) (hts _ (List.mem_cons_of_mem _ kw_116)) (fun _ h9 => h9) rfl dX10_slope_69 ?_
                refine lv_bipush (v := (20 : Int32)) hx hb dX10_slope_72 (by decide) ?_
                refine lv_bipush (v := (64 : Int32)) hx hb dX10_slope_74 (by decide) ?_
                refine lv_iload_n hx hb dX10_slope_76 rfl (lv_at hl 2 rfl) ?_
                refine lv_imul hx hb dX10_slope_77 ?_
                refine lv_iadd hx hb dX10_slope_78 ?_
                refine lv_bipush (v := (8 : Int32)) hx hb dX10_slope_79 (by decide) ?_
                refine lv_iload_n hx hb dX10_slope_81 rfl (lv_at hl 3 rfl) ?_
                refine lv_imul hx hb dX10_slope_82 ?_
                refine lv_iadd hx hb dX10_slope_83 ?_
                refine lv_iload hx hb dX10_slope_84 (lv_at hl 6 rfl) ?_
                refine lv_iadd hx hb dX10_slope_86 ?_
                refine lv_iload hx hb dX10_slope_87 (lv_at hl 0 rfl) ?_
                obtain ⟨x34, hg, hf⟩ := bd1_some hf
                have J35 : ∀ (H : Heap) (locs : List Loc), va_P (dC, dI) vwCl [(h_t, .inr (8, fX10 h_t_book h_t_images h_t_kept h_t_aside h_t_far h_t_then h_t_row h_t_mays h_t_firstRow h_t_low h_t_high t_noOlder t_thanThis t_known t_knownAge t_moved h_t_lowOne h_t_highOne h_t_ways t_met h_t_left t_hours t_greatest h_t_text t_typed t_at t_start t_token t_value h_t_verbs h_t_nums t_items)), (h_t_book, .inl (cI, 460, .inl y26))] H → va_D A [(h_t, .inr (8, fX10 h_t_book h_t_images h_t_kept h_t_aside h_t_far h_t_then h_t_row h_t_mays h_t_firstRow h_t_low h_t_high t_noOlder t_thanThis t_known t_knownAge t_moved h_t_lowOne h_t_highOne h_t_ways t_met h_t_left t_hours t_greatest h_t_text t_typed t_at t_start t_token t_value h_t_verbs h_t_nums t_items)), (h_t_book, .inl (cI, 460, .inl y26))] → va_S A s.heap H locs → ∀ ls : Array Slot, lv_has ls 7 [(0, .ref h_t), (1, .int p1), (2, .int p2), (3, .int p3), (4, .int p4), (5, .int x27)] → W p l e rmX10_slope s m args below meth c H locs 0 0 Q (F0 m 110 ls [.int x34, .int ((((20 : Int32) + ((64 : Int32) * p1)) + ((8 : Int32) * p2)) + x27), .ref h_t_book]) := by
                  intro H locs hP hD hS ls hl
                  obtain ⟨g36, hf⟩ := chk_some hf
                  obtain ⟨y37, e38, hf⟩ := nm_some hf
                  refine va_iast hx hb hK hP hD hS 1 0 rfl rfl (gin_in g36) dX10_slope_110 (fun H locs hP hD hS => ?_)
                  have hP : va_P (dC, dI) vwCl [(h_t, .inr (8, fX10 h_t_book h_t_images h_t_kept h_t_aside h_t_far h_t_then h_t_row h_t_mays h_t_firstRow h_t_low h_t_high t_noOlder t_thanThis t_known t_knownAge t_moved h_t_lowOne h_t_highOne h_t_ways t_met h_t_left t_hours t_greatest h_t_text t_typed t_at t_start t_token t_value h_t_verbs h_t_nums t_items)), (h_t_book, .inl (cI, 460, .inl y37))] H := by rw [e38]; exact hP
                  have hD : va_D A [(h_t, .inr (8, fX10 h_t_book h_t_images h_t_kept h_t_aside h_t_far h_t_then h_t_row h_t_mays h_t_firstRow h_t_low h_t_high t_noOlder t_thanThis t_known t_knownAge t_moved h_t_lowOne h_t_highOne h_t_ways t_met h_t_left t_hours t_greatest h_t_text t_typed t_at t_start t_token t_value h_t_verbs h_t_nums t_items)), (h_t_book, .inl (cI, 460, .inl y37))] := by rw [e38]; exact hD
                  refine lv_iinc (v := (x27 + (1 : Int32))) (lv' := [(5, .int (x27 + (1 : Int32))), (0, .ref h_t), (1, .int p1), (2, .int p2), (3, .int p3), (4, .int p4)]) hx hb dX10_slope_111 hl (k := 5) rfl rfl (by decide) rfl (fun ls hl => ?_)
                  refine lv_goto (tgt := 52) hx hb dX10_slope_114 (by decide) ?_
                  exact ih28 _ _ _ hf hX30 _ _ hP hD hS _ (lv_sub hl [1, 2, 3, 4, 5, 0] rfl)
                clear hf
                have hf := hg
                refine lv_if_ge (tgt := 96) hx hb dX10_slope_89 (by decide) (fun c39 => ?_) (fun c39 => ?_)
                · replace hf := ifp c39 hf
                  refine lv_iload hx hb dX10_slope_96 (lv_at hl 0 rfl) ?_
                  refine lv_bipush (v := (99 : Int32)) hx hb dX10_slope_98 (by decide) ?_
                  refine lv_icmp_le (tgt := 108) hx hb dX10_slope_100 (by decide) (fun c40 => ?_) (fun c40 => ?_)
                  · replace hf := ifp c40 hf
                    refine lv_iload hx hb dX10_slope_108 (lv_at hl 0 rfl) ?_
                    obtain rfl := inj1 hf
                    exact J35 _ _ hP hD hS _ (lv_sub hl [1, 2, 3, 4, 5, 6] rfl)
                  · replace hf := ifn c40 hf
                    refine lv_bipush (v := (99 : Int32)) hx hb dX10_slope_103 (by decide) ?_
                    refine lv_goto (tgt := 110) hx hb dX10_slope_105 (by decide) ?_
                    obtain rfl := inj1 hf
                    exact J35 _ _ hP hD hS _ (lv_sub hl [1, 2, 3, 4, 5, 6] rfl)
                · replace hf := ifn c39 hf
                  refine lv_iconst (v := (0 : Int32)) hx hb dX10_slope_92 (by decide) ?_
                  refine lv_goto (tgt := 110) hx hb dX10_slope_93 (by decide) ?_
                  obtain rfl := inj1 hf
                  exact J35 _ _ hP hD hS _ (lv_sub hl [1, 2, 3, 4, 5, 6] rfl)
          obtain ⟨y25, hg, hf⟩ := bd1_some hf
          refine L41 FU _ _ _ hg ?_ _ _ hP hD hS _ (lv_sub hl [1, 2, 3, 4, 5, 0] rfl)
          · intro H locs hP hD hS ls hl
            refine lv_iconst (v := (1 : Int32)) hx hb dX10_slope_117 (by decide) ?_
            obtain ⟨rfl, rfl⟩ := inj2 hf
            subst hQ
            exact CM_iret hx hb hr rfl hlocks hAe hP hD hS dX10_slope_118
        · replace hf := ifp c12 hf
          refine lv_bipush (v := (-2 : Int32)) hx hb dX10_slope_46 (by decide) ?_
          obtain ⟨rfl, rfl⟩ := inj2 hf
          subst hQ
          exact CM_iret hx hb hr rfl hlocks hAe hP hD hS dX10_slope_48
def rmX10_beside : Room := { frames := 1, cells := 0, slots := 0, locals := 25 }
abbrev wqX10_beside : List Cond := Cond.code yX10_beside cX10_beside 4 (some .int) :: tG
set_option maxHeartbeats 4000000 in
set_option maxRecDepth 100000 in
theorem c_X10_beside (l : Launch) (dC : Nat → ClassId) (dI : Nat → Nat → Nat) (cI cZ : ClassId) (te : Nat → Nat) (p1 : Int32) (p2 : Int32) (o0 : Int32) (hf : f_X10_beside p1 p2 = some o0) : CM l yX10_beside wqX10_beside rmX10_beside (kS te) dC dI cI cZ [.int p1, .int p2] [] [] (some (.int o0)) := by
  refine CM_of (cc := cX10_beside) (maxL := 4) (ret := (some .int)) (by decide +kernel) rfl (Nat.le_of_ble_eq_true rfl) ?_
  intro p e s m args below meth c A Q hx hb hr hml hown hts hlocks hA hK hP hD hS hE hQ hAe ls hl
  have hown : s.vm.findClass RX10 = some m.cls := hown
  have hl : lv_has ls 4 [(0, .int p1), (1, .int p2)] := hl
  unfold f_X10_beside at hf
  refine lv_iload_n hx hb dX10_beside_0 rfl (lv_at hl 0 rfl) ?_
  refine lv_bipush (v := (8 : Int32)) hx hb dX10_beside_1 (by decide) ?_
  refine lv_idiv hx hb dX10_beside_3 (by decide) ?_
  refine lv_iload_n hx hb dX10_beside_4 rfl (lv_at hl 1 rfl) ?_
  obtain ⟨x1, hg, hf⟩ := bd1_some hf
  have J2 : ∀ (H : Heap) (locs : List Loc), va_P (dC, dI) vwCl [] H → va_D A [] → va_S A s.heap H locs → ∀ ls : Array Slot, lv_has ls 4 [(0, .int p1), (1, .int p2)] → W p l e rmX10_beside s m args below meth c H locs 0 0 Q (F0 m 39 ls [.int x1, .int (p1 / (8 : Int32))]) := by
    intro H locs hP hD hS ls hl
    refine lv_iadd hx hb dX10_beside_39 ?_
    obtain ⟨x3, e4, hf⟩ := nm_some hf
    refine lv_tope e4 ?_
    refine lv_istore_n (lv' := [(2, .int x3), (0, .int p1), (1, .int p2)]) hx hb dX10_beside_40 rfl hl (by decide) rfl (fun ls hl => ?_)
    refine lv_iload_n hx hb dX10_beside_41 rfl (lv_at hl 1 rfl) ?_
    refine lv_bipush (v := (8 : Int32)) hx hb dX10_beside_42 (by decide) ?_
    refine lv_irem hx hb dX10_beside_44 (by decide) ?_
    refine lv_iload_n hx hb dX10_beside_45 rfl (lv_at hl 2 rfl) ?_
    obtain ⟨x5, hg, hf⟩ := bd1_some hf
    have J6 : ∀ (H : Heap) (locs : List Loc), va_P (dC, dI) vwCl [] H → va_D A [] → va_S A s.heap H locs → ∀ ls : Array Slot, lv_has ls 4 [(2, .int x3)] → W p l e rmX10_beside s m args below meth c H locs 0 0 Q (F0 m 68 ls [.int x5, .int (p1 - p1 / (8 : Int32) * (8 : Int32))]) := by
      intro H locs hP hD hS ls hl
      refine lv_iadd hx hb dX10_beside_68 ?_
      obtain ⟨x7, e8, hf⟩ := nm_some hf
      refine lv_tope e8 ?_
      refine lv_istore_n (lv' := [(3, .int x7), (2, .int x3)]) hx hb dX10_beside_69 rfl hl (by decide) rfl (fun ls hl => ?_)
      refine lv_iload_n hx hb dX10_beside_70 rfl (lv_at hl 1 rfl) ?_
      refine lv_i2l hx hb dX10_beside_71 rfl ?_
      refine lv_lconst (v := (0 : Int64)) hx hb dX10_beside_72 (by decide) ?_
      refine lv_ldc2 (v := (7 : Int64)) hx hb hown (hts _ (List.mem_cons_of_mem _ kw_173)) dX10_beside_73 ?_
      obtain ⟨r9, hg10, hf⟩ := bd1_some hf
      refine CM_callS (As := [.long x3.toInt64, .long (0 : Int64), .long (7 : Int64)]) (rest := []) (wc := []) (w1 := []) (wr := []) (wo := []) (v := (some (.int r9))) ⟨hx, hb, hml, hown, hts⟩ (c_X10_in l dC dI cI cZ te (x3.toInt64) (0 : Int64) (7 : Int64) r9 hg10) (va_cwS 3 hts (gS kw_157 kw_158 kw_159 kw_160) rfl rfl rfl (by decide +kernel) ⟨Nat.le_of_ble_eq_true rfl, Nat.le_of_ble_eq_true rfl⟩) (kS_env te) hK hP hD hS hA hE [] [] [] rfl rfl (by decide) (by decide) (by decide) (by decide) rfl rfl hl.1 rfl (Nat.le_of_ble_eq_true rfl) dX10_beside_76 ⟨Nat.zero_le _, Nat.zero_le _⟩ (fun H locs hP hD hS => ?_)
      show W p l e rmX10_beside s m args below meth c H locs 0 0 Q (F0 m 79 ls [.int r9])
      refine lv_if_eq (tgt := 103) hx hb dX10_beside_79 (by decide) (fun c11 => ?_) (fun c11 => ?_)
      · replace hf := ifp c11 hf
        refine lv_iconst (v := (-1 : Int32)) hx hb dX10_beside_103 (by decide) ?_
        obtain rfl := inj1 hf
        subst hQ
        exact CM_iret hx hb hr rfl hlocks hAe hP hD hS dX10_beside_104
      · replace hf := ifn c11 hf
        refine lv_iload_n hx hb dX10_beside_82 rfl (lv_at hl 0 rfl) ?_
        refine lv_i2l hx hb dX10_beside_83 rfl ?_
        refine lv_lconst (v := (0 : Int64)) hx hb dX10_beside_84 (by decide) ?_
        refine lv_ldc2 (v := (7 : Int64)) hx hb hown (hts _ (List.mem_cons_of_mem _ kw_173)) dX10_beside_85 ?_
        obtain ⟨r12, hg13, hf⟩ := bd1_some hf
        refine CM_callS (As := [.long x7.toInt64, .long (0 : Int64), .long (7 : Int64)]) (rest := []) (wc := []) (w1 := []) (wr := []) (wo := []) (v := (some (.int r12))) ⟨hx, hb, hml, hown, hts⟩ (c_X10_in l dC dI cI cZ te (x7.toInt64) (0 : Int64) (7 : Int64) r12 hg13) (va_cwS 3 hts (gS kw_157 kw_158 kw_159 kw_160) rfl rfl rfl (by decide +kernel) ⟨Nat.le_of_ble_eq_true rfl, Nat.le_of_ble_eq_true rfl⟩) (kS_env te) hK hP hD hS hA hE [] [] [] rfl rfl (by decide) (by decide) (by decide) (by decide) rfl rfl hl.1 rfl (Nat.le_of_ble_eq_true rfl) dX10_beside_88 ⟨Nat.zero_le _, Nat.zero_le _⟩ (fun H locs hP hD hS => ?_)
        show W p l e rmX10_beside s m args below meth c H locs 0 0 Q (F0 m 91 ls [.int r12])
        refine lv_if_eq (tgt := 103) hx hb dX10_beside_91 (by decide) (fun c14 => ?_) (fun c14 => ?_)
        · replace hf := ifp c14 hf
          refine lv_iconst (v := (-1 : Int32)) hx hb dX10_beside_103 (by decide) ?_
          obtain rfl := inj1 hf
          subst hQ
          exact CM_iret hx hb hr rfl hlocks hAe hP hD hS dX10_beside_104
        · replace hf := ifn c14 hf
          refine lv_bipush (v := (8 : Int32)) hx hb dX10_beside_94 (by decide) ?_
          refine lv_iload_n hx hb dX10_beside_96 rfl (lv_at hl 1 rfl) ?_
          refine lv_imul hx hb dX10_beside_97 ?_
          refine lv_iload_n hx hb dX10_beside_98 rfl (lv_at hl 0 rfl) ?_
          refine lv_iadd hx hb dX10_beside_99 ?_
          refine lv_goto (tgt := 104) hx hb dX10_beside_100 (by decide) ?_
          obtain rfl := inj1 hf
          subst hQ
          exact CM_iret hx hb hr rfl hlocks hAe hP hD hS dX10_beside_104
    clear hf
    have hf := hg
    refine lv_if_le (tgt := 58) hx hb dX10_beside_46 (by decide) (fun c15 => ?_) (fun c15 => ?_)
    · replace hf := ifp c15 hf
      refine lv_iload_n hx hb dX10_beside_58 rfl (lv_at hl 2 rfl) ?_
      refine lv_iconst (v := (4 : Int32)) hx hb dX10_beside_59 (by decide) ?_
      refine lv_icmp_le (tgt := 67) hx hb dX10_beside_60 (by decide) (fun c16 => ?_) (fun c16 => ?_)
      · replace hf := ifp c16 hf
        refine lv_iconst (v := (0 : Int32)) hx hb dX10_beside_67 (by decide) ?_
        obtain rfl := inj1 hf
        exact J6 _ _ hP hD hS _ (lv_sub hl [0] rfl)
      · replace hf := ifn c16 hf
        refine lv_iconst (v := (-1 : Int32)) hx hb dX10_beside_63 (by decide) ?_
        refine lv_goto (tgt := 68) hx hb dX10_beside_64 (by decide) ?_
        obtain rfl := inj1 hf
        exact J6 _ _ hP hD hS _ (lv_sub hl [0] rfl)
    · replace hf := ifn c15 hf
      refine lv_iload_n hx hb dX10_beside_49 rfl (lv_at hl 2 rfl) ?_
      refine lv_iconst (v := (4 : Int32)) hx hb dX10_beside_50 (by decide) ?_
      refine lv_icmp_ge (tgt := 58) hx hb dX10_beside_51 (by decide) (fun c17 => ?_) (fun c17 => ?_)
      · replace hf := ifp c17 hf
        refine lv_iload_n hx hb dX10_beside_58 rfl (lv_at hl 2 rfl) ?_
        refine lv_iconst (v := (4 : Int32)) hx hb dX10_beside_59 (by decide) ?_
        refine lv_icmp_le (tgt := 67) hx hb dX10_beside_60 (by decide) (fun c18 => ?_) (fun c18 => ?_)
        · replace hf := ifp c18 hf
          refine lv_iconst (v := (0 : Int32)) hx hb dX10_beside_67 (by decide) ?_
          obtain rfl := inj1 hf
          exact J6 _ _ hP hD hS _ (lv_sub hl [0] rfl)
        · replace hf := ifn c18 hf
          refine lv_iconst (v := (-1 : Int32)) hx hb dX10_beside_63 (by decide) ?_
          refine lv_goto (tgt := 68) hx hb dX10_beside_64 (by decide) ?_
          obtain rfl := inj1 hf
          exact J6 _ _ hP hD hS _ (lv_sub hl [0] rfl)
      · replace hf := ifn c17 hf
        refine lv_iconst (v := (1 : Int32)) hx hb dX10_beside_54 (by decide) ?_
        refine lv_goto (tgt := 68) hx hb dX10_beside_55 (by decide) ?_
        obtain rfl := inj1 hf
        exact J6 _ _ hP hD hS _ (lv_sub hl [0] rfl)
  clear hf
  have hf := hg
  refine lv_if_eq (tgt := 19) hx hb dX10_beside_5 (by decide) (fun c19 => ?_) (fun c19 => ?_)
  · replace hf := ifp c19 hf
    refine lv_iconst (v := (-1 : Int32)) hx hb dX10_beside_19 (by decide) ?_
    refine lv_goto (tgt := 39) hx hb dX10_beside_20 (by decide) ?_
    obtain rfl := inj1 hf
    exact J2 _ _ hP hD hS _ (lv_sub hl [0, 1] rfl)
  · replace hf := ifn c19 hf
    refine lv_iload_n hx hb dX10_beside_8 rfl (lv_at hl 1 rfl) ?_
    refine lv_iconst (v := (1 : Int32)) hx hb dX10_beside_9 (by decide) ?_
    refine lv_icmp_eq (tgt := 19) hx hb dX10_beside_10 (by decide) (fun c20 => ?_) (fun c20 => ?_)
    · replace hf := ifp c20 hf
      refine lv_iconst (v := (-1 : Int32)) hx hb dX10_beside_19 (by decide) ?_
      refine lv_goto (tgt := 39) hx hb dX10_beside_20 (by decide) ?_
      obtain rfl := inj1 hf
      exact J2 _ _ hP hD hS _ (lv_sub hl [0, 1] rfl)
    · replace hf := ifn c20 hf
      refine lv_iload_n hx hb dX10_beside_13 rfl (lv_at hl 1 rfl) ?_
      refine lv_bipush (v := (7 : Int32)) hx hb dX10_beside_14 (by decide) ?_
      refine lv_icmp_ne (tgt := 23) hx hb dX10_beside_16 (by decide) (fun c21 => ?_) (fun c21 => ?_)
      · replace hf := ifn c21 hf
        refine lv_iload_n hx hb dX10_beside_23 rfl (lv_at hl 1 rfl) ?_
        refine lv_iconst (v := (2 : Int32)) hx hb dX10_beside_24 (by decide) ?_
        refine lv_icmp_le (tgt := 38) hx hb dX10_beside_25 (by decide) (fun c22 => ?_) (fun c22 => ?_)
        · replace hf := ifp c22 hf
          refine lv_iconst (v := (0 : Int32)) hx hb dX10_beside_38 (by decide) ?_
          obtain rfl := inj1 hf
          exact J2 _ _ hP hD hS _ (lv_sub hl [0, 1] rfl)
        · replace hf := ifn c22 hf
          refine lv_iload_n hx hb dX10_beside_28 rfl (lv_at hl 1 rfl) ?_
          refine lv_bipush (v := (6 : Int32)) hx hb dX10_beside_29 (by decide) ?_
          refine lv_icmp_ge (tgt := 38) hx hb dX10_beside_31 (by decide) (fun c23 => ?_) (fun c23 => ?_)
          · replace hf := ifp c23 hf
            refine lv_iconst (v := (0 : Int32)) hx hb dX10_beside_38 (by decide) ?_
            obtain rfl := inj1 hf
            exact J2 _ _ hP hD hS _ (lv_sub hl [0, 1] rfl)
          · replace hf := ifn c23 hf
            refine lv_iconst (v := (1 : Int32)) hx hb dX10_beside_34 (by decide) ?_
            refine lv_goto (tgt := 39) hx hb dX10_beside_35 (by decide) ?_
            obtain rfl := inj1 hf
            exact J2 _ _ hP hD hS _ (lv_sub hl [0, 1] rfl)
      · replace hf := ifp c21 hf
        refine lv_iconst (v := (-1 : Int32)) hx hb dX10_beside_19 (by decide) ?_
        refine lv_goto (tgt := 39) hx hb dX10_beside_20 (by decide) ?_
        obtain rfl := inj1 hf
        exact J2 _ _ hP hD hS _ (lv_sub hl [0, 1] rfl)
def rmX10_flowOf : Room := { frames := 2, cells := 0, slots := 0, locals := 48 }
abbrev wqX10_flowOf : List Cond := Cond.code yX10_flowOf cX10_flowOf 7 (some .int) :: tG
set_option maxHeartbeats 4000000 in
set_option maxRecDepth 100000 in
theorem c_X10_flowOf (l : Launch) (dC : Nat → ClassId) (dI : Nat → Nat → Nat) (cI cZ : ClassId) (te : Nat → Nat) (h_t : Nat) (h_t_book : Nat) (h_t_images : Nat) (h_t_kept : Nat) (h_t_aside : Nat) (h_t_far : Nat) (h_t_then : Nat) (h_t_row : Nat) (h_t_mays : Nat) (h_t_firstRow : Nat) (h_t_low : Nat) (h_t_high : Nat) (h_t_lowOne : Nat) (h_t_highOne : Nat) (h_t_ways : Nat) (h_t_left : Nat) (h_t_text : Nat) (h_t_verbs : Nat) (h_t_nums : Nat) (t_noOlder : Int32) (t_thanThis : Int32) (t_known : Int32) (t_knownAge : Int32) (t_moved : Int32) (t_met : Int32) (t_hours : Int32) (t_greatest : Int32) (t_typed : Int32) (t_at : Int32) (t_start : Int32) (t_token : Int32) (t_value : Int32) (t_items : Int32) (t_book : Nat → Int32) (p1 : Int32) (p2 : Int32) (o0 : Int32) (hf : f_X10_flowOf t_book p1 p2 = some o0) : CM l yX10_flowOf wqX10_flowOf rmX10_flowOf (kS te) dC dI cI cZ [.ref h_t, .int p1, .int p2] [(h_t, .inr (8, fX10 h_t_book h_t_images h_t_kept h_t_aside h_t_far h_t_then h_t_row h_t_mays h_t_firstRow h_t_low h_t_high t_noOlder t_thanThis t_known t_knownAge t_moved h_t_lowOne h_t_highOne h_t_ways t_met h_t_left t_hours t_greatest h_t_text t_typed t_at t_start t_token t_value h_t_verbs h_t_nums t_items)), (h_t_book, .inl (cI, 460, .inl t_book))] [(h_t, .inr (8, fX10 h_t_book h_t_images h_t_kept h_t_aside h_t_far h_t_then h_t_row h_t_mays h_t_firstRow h_t_low h_t_high t_noOlder t_thanThis t_known t_knownAge t_moved h_t_lowOne h_t_highOne h_t_ways t_met h_t_left t_hours t_greatest h_t_text t_typed t_at t_start t_token t_value h_t_verbs h_t_nums t_items)), (h_t_book, .inl (cI, 460, .inl t_book))] (some (.int o0)) := by
  refine CM_of (cc := cX10_flowOf) (maxL := 7) (ret := (some .int)) (by decide +kernel) rfl (Nat.le_of_ble_eq_true rfl) ?_
  intro p e s m args below meth c A Q hx hb hr hml hown hts hlocks hA hK hP hD hS hE hQ hAe ls hl
  have hown : s.vm.findClass RX10 = some m.cls := hown
  have hl : lv_has ls 7 [(0, .ref h_t), (1, .int p1), (2, .int p2)] := hl
  unfold f_X10_flowOf at hf
  refine lv_iconst (v := (-1 : Int32)) hx hb dX10_flowOf_0 (by decide) ?_
  refine lv_istore_n (lv' := [(3, .int (-1 : Int32)), (0, .ref h_t), (1, .int p1), (2, .int p2)]) hx hb dX10_flowOf_1 rfl hl (by decide) rfl (fun ls hl => ?_)
  refine lv_aload_n hx hb dX10_flowOf_2 rfl (lv_at hl 1 rfl) ?_
  refine lv_iload_n hx hb dX10_flowOf_3 rfl (lv_at hl 2 rfl) ?_
  refine lv_iload_n hx hb dX10_flowOf_4 rfl (lv_at hl 3 rfl) ?_
  obtain ⟨r1, hg2, hf⟩ := bd1_some hf
  refine CM_callV (C := RX10) (As := [.int p1, .int p2]) (rest := []) (wc := [(h_t, .inr (8, fX10 h_t_book h_t_images h_t_kept h_t_aside h_t_far h_t_then h_t_row h_t_mays h_t_firstRow h_t_low h_t_high t_noOlder t_thanThis t_known t_knownAge t_moved h_t_lowOne h_t_highOne h_t_ways t_met h_t_left t_hours t_greatest h_t_text t_typed t_at t_start t_token t_value h_t_verbs h_t_nums t_items)), (h_t_book, .inl (cI, 460, .inl t_book))]) (w1 := [(h_t, .inr (8, fX10 h_t_book h_t_images h_t_kept h_t_aside h_t_far h_t_then h_t_row h_t_mays h_t_firstRow h_t_low h_t_high t_noOlder t_thanThis t_known t_knownAge t_moved h_t_lowOne h_t_highOne h_t_ways t_met h_t_left t_hours t_greatest h_t_text t_typed t_at t_start t_token t_value h_t_verbs h_t_nums t_items)), (h_t_book, .inl (cI, 460, .inl t_book))]) (wr := []) (wo := [(h_t, .inr (8, fX10 h_t_book h_t_images h_t_kept h_t_aside h_t_far h_t_then h_t_row h_t_mays h_t_firstRow h_t_low h_t_high t_noOlder t_thanThis t_known t_knownAge t_moved h_t_lowOne h_t_highOne h_t_ways t_met h_t_left t_hours t_greatest h_t_text t_typed t_at t_start t_token t_value h_t_verbs h_t_nums t_items)), (h_t_book, .inl (cI, 460, .inl t_book))]) (v := (some (.int r1))) ⟨hx, hb, hml, hown, hts⟩ (c_X10_heightAt l dC dI cI cZ te h_t h_t_book h_t_images h_t_kept h_t_aside h_t_far h_t_then h_t_row h_t_mays h_t_firstRow h_t_low h_t_high h_t_lowOne h_t_highOne h_t_ways h_t_left h_t_text h_t_verbs h_t_nums t_noOlder t_thanThis t_known t_knownAge t_moved t_met t_hours t_greatest t_typed t_at t_start t_token t_value t_items t_book p1 p2 r1 hg2) (cwV 2 hts (gV kw_176 kw_177 kw_178 kw_159 kw_179) rfl rfl rfl (by decide +kernel) ⟨Nat.le_of_ble_eq_true rfl, Nat.le_of_ble_eq_true rfl⟩) (kS_env te) hK hP hD hS hA hE [0, 1] [] [0, 1] rfl rfl (by decide) (by decide) (by decide) (by decide) rfl 0 8 rfl rfl rfl rfl hl.1 rfl (Nat.le_of_ble_eq_true rfl) dX10_flowOf_5 ⟨Nat.zero_le _, Nat.zero_le _⟩ (fun H locs hP hD hS => ?_)
  show W p l e rmX10_flowOf s m args below meth c H locs 0 0 Q (F0 m 8 ls [.int r1])
  refine lv_istore (lv' := [(4, .int r1), (3, .int (-1 : Int32)), (0, .ref h_t), (1, .int p1), (2, .int p2)]) hx hb dX10_flowOf_8 hl (by decide) rfl (fun ls hl => ?_)
  refine lv_iconst (v := (0 : Int32)) hx hb dX10_flowOf_10 (by decide) ?_
  refine lv_istore (lv' := [(5, .int (0 : Int32)), (4, .int r1), (3, .int (-1 : Int32)), (0, .ref h_t), (1, .int p1), (2, .int p2)]) hx hb dX10_flowOf_11 hl (by decide) rfl (fun ls hl => ?_)
  have L31 : ∀ (fu20 : Nat) (x16 : Int32) (x17 : Int32) (x18 : Int32) (x15 : Int32), f_X10_flowOf_L1 p2 t_book p1 fu20 x16 x17 x18 = some x15 → (∀ (H : Heap) (locs : List Loc), va_P (dC, dI) vwCl [(h_t, .inr (8, fX10 h_t_book h_t_images h_t_kept h_t_aside h_t_far h_t_then h_t_row h_t_mays h_t_firstRow h_t_low h_t_high t_noOlder t_thanThis t_known t_knownAge t_moved h_t_lowOne h_t_highOne h_t_ways t_met h_t_left t_hours t_greatest h_t_text t_typed t_at t_start t_token t_value h_t_verbs h_t_nums t_items)), (h_t_book, .inl (cI, 460, .inl t_book))] H → va_D A [(h_t, .inr (8, fX10 h_t_book h_t_images h_t_kept h_t_aside h_t_far h_t_then h_t_row h_t_mays h_t_firstRow h_t_low h_t_high t_noOlder t_thanThis t_known t_knownAge t_moved h_t_lowOne h_t_highOne h_t_ways t_met h_t_left t_hours t_greatest h_t_text t_typed t_at t_start t_token t_value h_t_verbs h_t_nums t_items)), (h_t_book, .inl (cI, 460, .inl t_book))] → va_S A s.heap H locs → ∀ ls : Array Slot, lv_has ls 7 [(3, .int x15)] → W p l e rmX10_flowOf s m args below meth c H locs 0 0 Q (F0 m 64 ls [])) → ∀ (H : Heap) (locs : List Loc), va_P (dC, dI) vwCl [(h_t, .inr (8, fX10 h_t_book h_t_images h_t_kept h_t_aside h_t_far h_t_then h_t_row h_t_mays h_t_firstRow h_t_low h_t_high t_noOlder t_thanThis t_known t_knownAge t_moved h_t_lowOne h_t_highOne h_t_ways t_met h_t_left t_hours t_greatest h_t_text t_typed t_at t_start t_token t_value h_t_verbs h_t_nums t_items)), (h_t_book, .inl (cI, 460, .inl t_book))] H → va_D A [(h_t, .inr (8, fX10 h_t_book h_t_images h_t_kept h_t_aside h_t_far h_t_then h_t_row h_t_mays h_t_firstRow h_t_low h_t_high t_noOlder t_thanThis t_known t_knownAge t_moved h_t_lowOne h_t_highOne h_t_ways t_met h_t_left t_hours t_greatest h_t_text t_typed t_at t_start t_token t_value h_t_verbs h_t_nums t_items)), (h_t_book, .inl (cI, 460, .inl t_book))] → va_S A s.heap H locs → ∀ ls : Array Slot, lv_has ls 7 [(0, .ref h_t), (1, .int p1), (2, .int p2), (3, .int x16), (4, .int x17), (5, .int x18)] → W p l e rmX10_flowOf s m args below meth c H locs 0 0 Q (F0 m 13 ls []) := by
    intro fu20
    induction fu20 with
    | zero =>
      intro x16 x17 x18 x15 hf
      unfold f_X10_flowOf_L1 at hf
      exact none_ne hf
    | succ fu20 ih19 =>
      intro x16 x17 x18 x15 hf hX21 H locs hP hD hS ls hl
      unfold f_X10_flowOf_L1 at hf
      refine lv_iload hx hb dX10_flowOf_13 (lv_at hl 5 rfl) ?_
      refine lv_bipush (v := (8 : Int32)) hx hb dX10_flowOf_15 (by decide) ?_
      refine lv_icmp_ge (tgt := 64) hx hb dX10_flowOf_17 (by decide) (fun c22 => ?_) (fun c22 => ?_)
      · replace hf := ifp c22 hf
        obtain rfl := inj1 hf
        exact hX21 _ _ hP hD hS _ (lv_sub hl [3] rfl)
      · replace hf := ifn c22 hf
        refine lv_iload_n hx hb dX10_flowOf_20 rfl (lv_at hl 2 rfl) ?_
        refine lv_iload hx hb dX10_flowOf_21 (lv_at hl 5 rfl) ?_
        obtain ⟨r23, hg24, hf⟩ := bd1_some hf
        refine CM_callS (As := [.int p2, .int x18]) (rest := []) (wc := []) (w1 := []) (wr := [(h_t, .inr (8, fX10 h_t_book h_t_images h_t_kept h_t_aside h_t_far h_t_then h_t_row h_t_mays h_t_firstRow h_t_low h_t_high t_noOlder t_thanThis t_known t_knownAge t_moved h_t_lowOne h_t_highOne h_t_ways t_met h_t_left t_hours t_greatest h_t_text t_typed t_at t_start t_token t_value h_t_verbs h_t_nums t_items)), (h_t_book, .inl (cI, 460, .inl t_book))]) (wo := [(h_t, .inr (8, fX10 h_t_book h_t_images h_t_kept h_t_aside h_t_far h_t_then h_t_row h_t_mays h_t_firstRow h_t_low h_t_high t_noOlder t_thanThis t_known t_knownAge t_moved h_t_lowOne h_t_highOne h_t_ways t_met h_t_left t_hours t_greatest h_t_text t_typed t_at t_start t_token t_value h_t_verbs h_t_nums t_items)), (h_t_book, .inl (cI, 460, .inl t_book))]) (v := (some (.int r23))) ⟨hx, hb, hml, hown, hts⟩ (c_X10_beside l dC dI cI cZ te p2 x18 r23 hg24) (va_cwS 2 hts (gS kw_180 kw_181 kw_159 kw_182) rfl rfl rfl (by decide +kernel) ⟨Nat.le_of_ble_eq_true rfl, Nat.le_of_ble_eq_true rfl⟩) (kS_env te) hK hP hD hS hA hE [] [0, 1] [0, 1] rfl rfl (by decide) (by decide) (by decide) (by decide) rfl rfl hl.1 rfl (Nat.le_of_ble_eq_true rfl) dX10_flowOf_23 ⟨Nat.zero_le _, Nat.zero_le _⟩ (fun H locs hP hD hS => ?_)
        show W p l e rmX10_flowOf s m args below meth c H locs 0 0 Q (F0 m 26 ls [.int r23])
        refine lv_istore (lv' := [(6, .int r23), (0, .ref h_t), (1, .int p1), (2, .int p2), (3, .int x16), (4, .int x17), (5, .int x18)]) hx hb dX10_flowOf_26 hl (by decide) rfl (fun ls hl => ?_)
        refine lv_iload hx hb dX10_flowOf_28 (lv_at hl 0 rfl) ?_
        refine lv_iconst (v := (-1 : Int32)) hx hb dX10_flowOf_30 (by decide) ?_
        refine lv_icmp_eq (tgt := 58) hx hb dX10_flowOf_31 (by decide) (fun c25 => ?_) (fun c25 => ?_)
        · replace hf := ifp c25 hf
          refine lv_iinc (v := (x18 + (1 : Int32))) (lv' := [(5, .int (x18 + (1 : Int32))), (6, .int r23), (0, .ref h_t), (1, .int p1), (2, .int p2), (3, .int x16), (4, .int x17)]) hx hb dX10_flowOf_58 hl (k := 6) rfl rfl (by decide) rfl (fun ls hl => ?_)
          refine lv_goto (tgt := 13) hx hb dX10_flowOf_61 (by decide) ?_
          exact ih19 _ _ _ _ hf hX21 _ _ hP hD hS _ (lv_sub hl [2, 3, 4, 5, 6, 0] rfl)
        · replace hf := ifn c25 hf
          refine lv_aload_n hx hb dX10_flowOf_34 rfl (lv_at hl 1 rfl) ?_
          refine lv_iload_n hx hb dX10_flowOf_35 rfl (lv_at hl 2 rfl) ?_
          refine lv_iload hx hb dX10_flowOf_36 (lv_at hl 0 rfl) ?_
          obtain ⟨r26, hg27, hf⟩ := bd1_some hf
          refine CM_callV (C := RX10) (As := [.int p1, .int r23]) (rest := []) (wc := [(h_t, .inr (8, fX10 h_t_book h_t_images h_t_kept h_t_aside h_t_far h_t_then h_t_row h_t_mays h_t_firstRow h_t_low h_t_high t_noOlder t_thanThis t_known t_knownAge t_moved h_t_lowOne h_t_highOne h_t_ways t_met h_t_left t_hours t_greatest h_t_text t_typed t_at t_start t_token t_value h_t_verbs h_t_nums t_items)), (h_t_book, .inl (cI, 460, .inl t_book))]) (w1 := [(h_t, .inr (8, fX10 h_t_book h_t_images h_t_kept h_t_aside h_t_far h_t_then h_t_row h_t_mays h_t_firstRow h_t_low h_t_high t_noOlder t_thanThis t_known t_knownAge t_moved h_t_lowOne h_t_highOne h_t_ways t_met h_t_left t_hours t_greatest h_t_text t_typed t_at t_start t_token t_value h_t_verbs h_t_nums t_items)), (h_t_book, .inl (cI, 460, .inl t_book))]) (wr := []) (wo := [(h_t, .inr (8, fX10 h_t_book h_t_images h_t_kept h_t_aside h_t_far h_t_then h_t_row h_t_mays h_t_firstRow h_t_low h_t_high t_noOlder t_thanThis t_known t_knownAge t_moved h_t_lowOne h_t_highOne h_t_ways t_met h_t_left t_hours t_greatest h_t_text t_typed t_at t_start t_token t_value h_t_verbs h_t_nums t_items)), (h_t_book, .inl (cI, 460, .inl t_book))]) (v := (some (.int r26))) ⟨hx, hb, hml, hown, hts⟩ (c_X10_heightAt l dC dI cI cZ te h_t h_t_book h_t_images h_t_kept h_t_aside h_t_far h_t_then h_t_row h_t_mays h_t_firstRow h_t_low h_t_high h_t_lowOne h_t_highOne h_t_ways h_t_left h_t_text h_t_verbs h_t_nums t_noOlder t_thanThis t_known t_knownAge t_moved t_met t_hours t_greatest t_typed t_at t_start t_token t_value t_items t_book p1 r23 r26 hg27) (cwV 2 hts (gV kw_176 kw_177 kw_178 kw_159 kw_179) rfl rfl rfl (by decide +kernel) ⟨Nat.le_of_ble_eq_true rfl, Nat.le_of_ble_eq_true rfl⟩) (kS_env te) hK hP hD hS hA hE [0, 1] [] [0, 1] rfl rfl (by decide) (by decide) (by decide) (by decide) rfl 0 8 rfl rfl rfl rfl hl.1 rfl (Nat.le_of_ble_eq_true rfl) dX10_flowOf_38 ⟨Nat.zero_le _, Nat.zero_le _⟩ (fun H locs hP hD hS => ?_)
          show W p l e rmX10_flowOf s m args below meth c H locs 0 0 Q (F0 m 41 ls [.int r26])
          refine lv_iload hx hb dX10_flowOf_41 (lv_at hl 5 rfl) ?_
          refine lv_icmp_ge (tgt := 58) hx hb dX10_flowOf_43 (by decide) (fun c28 => ?_) (fun c28 => ?_)
          · replace hf := ifp c28 hf
            refine lv_iinc (v := (x18 + (1 : Int32))) (lv' := [(5, .int (x18 + (1 : Int32))), (6, .int r23), (0, .ref h_t), (1, .int p1), (2, .int p2), (3, .int x16), (4, .int x17)]) hx hb dX10_flowOf_58 hl (k := 6) rfl rfl (by decide) rfl (fun ls hl => ?_)
            refine lv_goto (tgt := 13) hx hb dX10_flowOf_61 (by decide) ?_
            exact ih19 _ _ _ _ hf hX21 _ _ hP hD hS _ (lv_sub hl [2, 3, 4, 5, 6, 0] rfl)
          · replace hf := ifn c28 hf
            refine lv_iload hx hb dX10_flowOf_46 (lv_at hl 6 rfl) ?_
            refine lv_istore_n (lv' := [(3, .int x18), (6, .int r23), (0, .ref h_t), (1, .int p1), (2, .int p2), (4, .int x17), (5, .int x18)]) hx hb dX10_flowOf_48 rfl hl (by decide) rfl (fun ls hl => ?_)
            refine lv_aload_n hx hb dX10_flowOf_49 rfl (lv_at hl 2 rfl) ?_
            refine lv_iload_n hx hb dX10_flowOf_50 rfl (lv_at hl 3 rfl) ?_
            refine lv_iload hx hb dX10_flowOf_51 (lv_at hl 1 rfl) ?_
            obtain ⟨r29, hg30, hf⟩ := bd1_some hf
            refine CM_callV (C := RX10) (As := [.int p1, .int r23]) (rest := []) (wc := [(h_t, .inr (8, fX10 h_t_book h_t_images h_t_kept h_t_aside h_t_far h_t_then h_t_row h_t_mays h_t_firstRow h_t_low h_t_high t_noOlder t_thanThis t_known t_knownAge t_moved h_t_lowOne h_t_highOne h_t_ways t_met h_t_left t_hours t_greatest h_t_text t_typed t_at t_start t_token t_value h_t_verbs h_t_nums t_items)), (h_t_book, .inl (cI, 460, .inl t_book))]) (w1 := [(h_t, .inr (8, fX10 h_t_book h_t_images h_t_kept h_t_aside h_t_far h_t_then h_t_row h_t_mays h_t_firstRow h_t_low h_t_high t_noOlder t_thanThis t_known t_knownAge t_moved h_t_lowOne h_t_highOne h_t_ways t_met h_t_left t_hours t_greatest h_t_text t_typed t_at t_start t_token t_value h_t_verbs h_t_nums t_items)), (h_t_book, .inl (cI, 460, .inl t_book))]) (wr := []) (wo := [(h_t, .inr (8, fX10 h_t_book h_t_images h_t_kept h_t_aside h_t_far h_t_then h_t_row h_t_mays h_t_firstRow h_t_low h_t_high t_noOlder t_thanThis t_known t_knownAge t_moved h_t_lowOne h_t_highOne h_t_ways t_met h_t_left t_hours t_greatest h_t_text t_typed t_at t_start t_token t_value h_t_verbs h_t_nums t_items)), (h_t_book, .inl (cI, 460, .inl t_book))]) (v := (some (.int r29))) ⟨hx, hb, hml, hown, hts⟩ (c_X10_heightAt l dC dI cI cZ te h_t h_t_book h_t_images h_t_kept h_t_aside h_t_far h_t_then h_t_row h_t_mays h_t_firstRow h_t_low h_t_high h_t_lowOne h_t_highOne h_t_ways h_t_left h_t_text h_t_verbs h_t_nums t_noOlder t_thanThis t_known t_knownAge t_moved t_met t_hours t_greatest t_typed t_at t_start t_token t_value t_items t_book p1 r23 r29 hg30) (cwV 2 hts (gV kw_176 kw_177 kw_178 kw_159 kw_179) rfl rfl rfl (by decide +kernel) ⟨Nat.le_of_ble_eq_true rfl, Nat.le_of_ble_eq_true rfl⟩) (kS_env te) hK hP hD hS hA hE [0, 1] [] [0, 1] rfl rfl (by decide) (by decide) (by decide) (by decide) rfl 0 8 rfl rfl rfl rfl hl.1 rfl (Nat.le_of_ble_eq_true rfl) dX10_flowOf_53 ⟨Nat.zero_le _, Nat.zero_le _⟩ (fun H locs hP hD hS => ?_)
            show W p l e rmX10_flowOf s m args below meth c H locs 0 0 Q (F0 m 56 ls [.int r29])
            refine lv_istore (lv' := [(4, .int r29), (3, .int x18), (6, .int r23), (0, .ref h_t), (1, .int p1), (2, .int p2), (5, .int x18)]) hx hb dX10_flowOf_56 hl (by decide) rfl (fun ls hl => ?_)
            refine lv_iinc (v := (x18 + (1 : Int32))) (lv' := [(5, .int (x18 + (1 : Int32))), (4, .int r29), (3, .int x18), (6, .int r23), (0, .ref h_t), (1, .int p1), (2, .int p2)]) hx hb dX10_flowOf_58 hl (k := 6) rfl rfl (by decide) rfl (fun ls hl => ?_)
            refine lv_goto (tgt := 13) hx hb dX10_flowOf_61 (by decide) ?_
            exact ih19 _ _ _ _ hf hX21 _ _ hP hD hS _ (lv_sub hl [4, 5, 6, 2, 1, 0] rfl)
  obtain ⟨x15, hg, hf⟩ := bd1_some hf
  refine L31 FU _ _ _ _ hg ?_ _ _ hP hD hS _ (lv_sub hl [3, 4, 5, 2, 1, 0] rfl)
  · intro H locs hP hD hS ls hl
    refine lv_iload_n hx hb dX10_flowOf_64 rfl (lv_at hl 0 rfl) ?_
    obtain rfl := inj1 hf
    subst hQ
    exact CM_iret hx hb hr rfl hlocks hAe hP hD hS dX10_flowOf_65
def rmX10_flow : Room := { frames := 3, cells := 0, slots := 0, locals := 74 }
abbrev wqX10_flow : List Cond := Cond.code yX10_flow cX10_flow 3 (some .int) :: tG
set_option maxHeartbeats 4000000 in
set_option maxRecDepth 100000 in
theorem c_X10_flow (l : Launch) (dC : Nat → ClassId) (dI : Nat → Nat → Nat) (cI cZ : ClassId) (te : Nat → Nat) (h_t : Nat) (h_t_book : Nat) (h_t_images : Nat) (h_t_kept : Nat) (h_t_aside : Nat) (h_t_far : Nat) (h_t_then : Nat) (h_t_row : Nat) (h_t_mays : Nat) (h_t_firstRow : Nat) (h_t_low : Nat) (h_t_high : Nat) (h_t_lowOne : Nat) (h_t_highOne : Nat) (h_t_ways : Nat) (h_t_left : Nat) (h_t_text : Nat) (h_t_verbs : Nat) (h_t_nums : Nat) (t_noOlder : Int32) (t_thanThis : Int32) (t_known : Int32) (t_knownAge : Int32) (t_moved : Int32) (t_met : Int32) (t_hours : Int32) (t_greatest : Int32) (t_typed : Int32) (t_at : Int32) (t_start : Int32) (t_token : Int32) (t_value : Int32) (t_items : Int32) (t_book : Nat → Int32) (p1 : Int32) (p2 : Int32) (o0 : Int32) (hf : f_X10_flow t_book p1 p2 = some o0) : CM l yX10_flow wqX10_flow rmX10_flow (kS te) dC dI cI cZ [.ref h_t, .int p1, .int p2] [(h_t, .inr (8, fX10 h_t_book h_t_images h_t_kept h_t_aside h_t_far h_t_then h_t_row h_t_mays h_t_firstRow h_t_low h_t_high t_noOlder t_thanThis t_known t_knownAge t_moved h_t_lowOne h_t_highOne h_t_ways t_met h_t_left t_hours t_greatest h_t_text t_typed t_at t_start t_token t_value h_t_verbs h_t_nums t_items)), (h_t_book, .inl (cI, 460, .inl t_book))] [(h_t, .inr (8, fX10 h_t_book h_t_images h_t_kept h_t_aside h_t_far h_t_then h_t_row h_t_mays h_t_firstRow h_t_low h_t_high t_noOlder t_thanThis t_known t_knownAge t_moved h_t_lowOne h_t_highOne h_t_ways t_met h_t_left t_hours t_greatest h_t_text t_typed t_at t_start t_token t_value h_t_verbs h_t_nums t_items)), (h_t_book, .inl (cI, 460, .inl t_book))] (some (.int o0)) := by
  refine CM_of (cc := cX10_flow) (maxL := 3) (ret := (some .int)) (by decide +kernel) rfl (Nat.le_of_ble_eq_true rfl) ?_
  intro p e s m args below meth c A Q hx hb hr hml hown hts hlocks hA hK hP hD hS hE hQ hAe ls hl
  have hown : s.vm.findClass RX10 = some m.cls := hown
  have hl : lv_has ls 3 [(0, .ref h_t), (1, .int p1), (2, .int p2)] := hl
  unfold f_X10_flow at hf
  refine lv_iload_n hx hb dX10_flow_0 rfl (lv_at hl 1 rfl) ?_
  obtain ⟨r1, hg2, hf⟩ := bd1_some hf
  refine CM_callS (As := [.int p1]) (rest := []) (wc := []) (w1 := []) (wr := [(h_t, .inr (8, fX10 h_t_book h_t_images h_t_kept h_t_aside h_t_far h_t_then h_t_row h_t_mays h_t_firstRow h_t_low h_t_high t_noOlder t_thanThis t_known t_knownAge t_moved h_t_lowOne h_t_highOne h_t_ways t_met h_t_left t_hours t_greatest h_t_text t_typed t_at t_start t_token t_value h_t_verbs h_t_nums t_items)), (h_t_book, .inl (cI, 460, .inl t_book))]) (wo := [(h_t, .inr (8, fX10 h_t_book h_t_images h_t_kept h_t_aside h_t_far h_t_then h_t_row h_t_mays h_t_firstRow h_t_low h_t_high t_noOlder t_thanThis t_known t_knownAge t_moved h_t_lowOne h_t_highOne h_t_ways t_met h_t_left t_hours t_greatest h_t_text t_typed t_at t_start t_token t_value h_t_verbs h_t_nums t_items)), (h_t_book, .inl (cI, 460, .inl t_book))]) (v := (some (.int r1))) ⟨hx, hb, hml, hown, hts⟩ (c_X10_isStage l dC dI cI cZ te p1 r1 hg2) (va_cwS 1 hts (gS kw_162 kw_163 kw_159 kw_164) rfl rfl rfl (by decide +kernel) ⟨Nat.le_of_ble_eq_true rfl, Nat.le_of_ble_eq_true rfl⟩) (kS_env te) hK hP hD hS hA hE [] [0, 1] [0, 1] rfl rfl (by decide) (by decide) (by decide) (by decide) rfl rfl hl.1 rfl (Nat.le_of_ble_eq_true rfl) dX10_flow_1 ⟨Nat.zero_le _, Nat.zero_le _⟩ (fun H locs hP hD hS => ?_)
  show W p l e rmX10_flow s m args below meth c H locs 0 0 Q (F0 m 4 ls [.int r1])
  refine lv_if_eq (tgt := 23) hx hb dX10_flow_4 (by decide) (fun c3 => ?_) (fun c3 => ?_)
  · replace hf := ifp c3 hf
    refine lv_bipush (v := (-2 : Int32)) hx hb dX10_flow_23 (by decide) ?_
    obtain rfl := inj1 hf
    subst hQ
    exact CM_iret hx hb hr rfl hlocks hAe hP hD hS dX10_flow_25
  · replace hf := ifn c3 hf
    refine lv_iload_n hx hb dX10_flow_7 rfl (lv_at hl 2 rfl) ?_
    obtain ⟨r4, hg5, hf⟩ := bd1_some hf
    refine CM_callS (As := [.int p2]) (rest := []) (wc := []) (w1 := []) (wr := [(h_t, .inr (8, fX10 h_t_book h_t_images h_t_kept h_t_aside h_t_far h_t_then h_t_row h_t_mays h_t_firstRow h_t_low h_t_high t_noOlder t_thanThis t_known t_knownAge t_moved h_t_lowOne h_t_highOne h_t_ways t_met h_t_left t_hours t_greatest h_t_text t_typed t_at t_start t_token t_value h_t_verbs h_t_nums t_items)), (h_t_book, .inl (cI, 460, .inl t_book))]) (wo := [(h_t, .inr (8, fX10 h_t_book h_t_images h_t_kept h_t_aside h_t_far h_t_then h_t_row h_t_mays h_t_firstRow h_t_low h_t_high t_noOlder t_thanThis t_known t_knownAge t_moved h_t_lowOne h_t_highOne h_t_ways t_met h_t_left t_hours t_greatest h_t_text t_typed t_at t_start t_token t_value h_t_verbs h_t_nums t_items)), (h_t_book, .inl (cI, 460, .inl t_book))]) (v := (some (.int r4))) ⟨hx, hb, hml, hown, hts⟩ (c_X10_isPlace l dC dI cI cZ te p2 r4 hg5) (va_cwS 1 hts (gS kw_165 kw_166 kw_159 kw_167) rfl rfl rfl (by decide +kernel) ⟨Nat.le_of_ble_eq_true rfl, Nat.le_of_ble_eq_true rfl⟩) (kS_env te) hK hP hD hS hA hE [] [0, 1] [0, 1] rfl rfl (by decide) (by decide) (by decide) (by decide) rfl rfl hl.1 rfl (Nat.le_of_ble_eq_true rfl) dX10_flow_8 ⟨Nat.zero_le _, Nat.zero_le _⟩ (fun H locs hP hD hS => ?_)
    show W p l e rmX10_flow s m args below meth c H locs 0 0 Q (F0 m 11 ls [.int r4])
    refine lv_if_eq (tgt := 23) hx hb dX10_flow_11 (by decide) (fun c6 => ?_) (fun c6 => ?_)
    · replace hf := ifp c6 hf
      refine lv_bipush (v := (-2 : Int32)) hx hb dX10_flow_23 (by decide) ?_
      obtain rfl := inj1 hf
      subst hQ
      exact CM_iret hx hb hr rfl hlocks hAe hP hD hS dX10_flow_25
    · replace hf := ifn c6 hf
      refine lv_aload_n hx hb dX10_flow_14 rfl (lv_at hl 0 rfl) ?_
      refine lv_iload_n hx hb dX10_flow_15 rfl (lv_at hl 1 rfl) ?_
      refine lv_iload_n hx hb dX10_flow_16 rfl (lv_at hl 2 rfl) ?_
      obtain ⟨r7, hg8, hf⟩ := bd1_some hf
      refine CM_callV (C := RX10) (As := [.int p1, .int p2]) (rest := []) (wc := [(h_t, .inr (8, fX10 h_t_book h_t_images h_t_kept h_t_aside h_t_far h_t_then h_t_row h_t_mays h_t_firstRow h_t_low h_t_high t_noOlder t_thanThis t_known t_knownAge t_moved h_t_lowOne h_t_highOne h_t_ways t_met h_t_left t_hours t_greatest h_t_text t_typed t_at t_start t_token t_value h_t_verbs h_t_nums t_items)), (h_t_book, .inl (cI, 460, .inl t_book))]) (w1 := [(h_t, .inr (8, fX10 h_t_book h_t_images h_t_kept h_t_aside h_t_far h_t_then h_t_row h_t_mays h_t_firstRow h_t_low h_t_high t_noOlder t_thanThis t_known t_knownAge t_moved h_t_lowOne h_t_highOne h_t_ways t_met h_t_left t_hours t_greatest h_t_text t_typed t_at t_start t_token t_value h_t_verbs h_t_nums t_items)), (h_t_book, .inl (cI, 460, .inl t_book))]) (wr := []) (wo := [(h_t, .inr (8, fX10 h_t_book h_t_images h_t_kept h_t_aside h_t_far h_t_then h_t_row h_t_mays h_t_firstRow h_t_low h_t_high t_noOlder t_thanThis t_known t_knownAge t_moved h_t_lowOne h_t_highOne h_t_ways t_met h_t_left t_hours t_greatest h_t_text t_typed t_at t_start t_token t_value h_t_verbs h_t_nums t_items)), (h_t_book, .inl (cI, 460, .inl t_book))]) (v := (some (.int r7))) ⟨hx, hb, hml, hown, hts⟩ (c_X10_flowOf l dC dI cI cZ te h_t h_t_book h_t_images h_t_kept h_t_aside h_t_far h_t_then h_t_row h_t_mays h_t_firstRow h_t_low h_t_high h_t_lowOne h_t_highOne h_t_ways h_t_left h_t_text h_t_verbs h_t_nums t_noOlder t_thanThis t_known t_knownAge t_moved t_met t_hours t_greatest t_typed t_at t_start t_token t_value t_items t_book p1 p2 r7 hg8) (cwV 2 hts (gV kw_183 kw_184 kw_185 kw_159 kw_186) rfl rfl rfl (by decide +kernel) ⟨Nat.le_of_ble_eq_true rfl, Nat.le_of_ble_eq_true rfl⟩) (kS_env te) hK hP hD hS hA hE [0, 1] [] [0, 1] rfl rfl (by decide) (by decide) (by decide) (by decide) rfl 0 8 rfl rfl rfl rfl hl.1 rfl (Nat.le_of_ble_eq_true rfl) dX10_flow_17 ⟨Nat.zero_le _, Nat.zero_le _⟩ (fun H locs hP hD hS => ?_)
      show W p l e rmX10_flow s m args below meth c H locs 0 0 Q (F0 m 20 ls [.int r7])
      refine lv_goto (tgt := 25) hx hb dX10_flow_20 (by decide) ?_
      obtain rfl := inj1 hf
      subst hQ
      exact CM_iret hx hb hr rfl hlocks hAe hP hD hS dX10_flow_25
def rmX10_is : Room := { frames := 1, cells := 0, slots := 0, locals := 25 }
abbrev wqX10_is : List Cond := Cond.code yX10_is cX10_is 3 (some .boolean) :: tG
set_option maxHeartbeats 4000000 in
set_option maxRecDepth 100000 in
theorem c_X10_is (l : Launch) (dC : Nat → ClassId) (dI : Nat → Nat → Nat) (cI cZ : ClassId) (te : Nat → Nat) (h_t : Nat) (h_t_book : Nat) (h_t_images : Nat) (h_t_kept : Nat) (h_t_aside : Nat) (h_t_far : Nat) (h_t_then : Nat) (h_t_row : Nat) (h_t_mays : Nat) (h_t_firstRow : Nat) (h_t_low : Nat) (h_t_high : Nat) (h_t_lowOne : Nat) (h_t_highOne : Nat) (h_t_ways : Nat) (h_t_left : Nat) (h_t_text : Nat) (h_t_verbs : Nat) (h_t_nums : Nat) (t_noOlder : Int32) (t_thanThis : Int32) (t_known : Int32) (t_knownAge : Int32) (t_moved : Int32) (t_met : Int32) (t_hours : Int32) (t_greatest : Int32) (t_typed : Int32) (t_at : Int32) (t_start : Int32) (t_token : Int32) (t_value : Int32) (t_items : Int32) (t_book : Nat → Int32) (p1 : Int32) (p2 : Int32) (o0 : Int32) (hf : f_X10_is t_book p1 p2 = some o0) : CM l yX10_is wqX10_is rmX10_is (kS te) dC dI cI cZ [.ref h_t, .int p1, .int p2] [(h_t, .inr (8, fX10 h_t_book h_t_images h_t_kept h_t_aside h_t_far h_t_then h_t_row h_t_mays h_t_firstRow h_t_low h_t_high t_noOlder t_thanThis t_known t_knownAge t_moved h_t_lowOne h_t_highOne h_t_ways t_met h_t_left t_hours t_greatest h_t_text t_typed t_at t_start t_token t_value h_t_verbs h_t_nums t_items)), (h_t_book, .inl (cI, 460, .inl t_book))] [(h_t, .inr (8, fX10 h_t_book h_t_images h_t_kept h_t_aside h_t_far h_t_then h_t_row h_t_mays h_t_firstRow h_t_low h_t_high t_noOlder t_thanThis t_known t_knownAge t_moved h_t_lowOne h_t_highOne h_t_ways t_met h_t_left t_hours t_greatest h_t_text t_typed t_at t_start t_token t_value h_t_verbs h_t_nums t_items)), (h_t_book, .inl (cI, 460, .inl t_book))] (some (.int o0)) := by
  refine CM_of (cc := cX10_is) (maxL := 3) (ret := (some .boolean)) (by decide +kernel) rfl (Nat.le_of_ble_eq_true rfl) ?_
  intro p e s m args below meth c A Q hx hb hr hml hown hts hlocks hA hK hP hD hS hE hQ hAe ls hl
  have hown : s.vm.findClass RX10 = some m.cls := hown
  have hl : lv_has ls 3 [(0, .ref h_t), (1, .int p1), (2, .int p2)] := hl
  unfold f_X10_is at hf
  refine lv_iload_n hx hb dX10_is_0 rfl (lv_at hl 2 rfl) ?_
  refine lv_i2l hx hb dX10_is_1 rfl ?_
  refine lv_lconst (v := (0 : Int64)) hx hb dX10_is_2 (by decide) ?_
  refine lv_aload_n hx hb dX10_is_3 rfl (lv_at hl 0 rfl) ?_
  refine va_get (D := (dC, dI)) (ci := 8) (v := .ref h_t_book) (C := RX10) (T := TX10) (N := 32) hx hb hts (in1 tw_X10) hown hK hP 0 rfl rfl 0 (by decide) (hts _ (List.mem_cons_of_mem _ kw_116)) (fun _ h9 => h9) rfl dX10_is_4 ?_
  refine lv_iload_n hx hb dX10_is_7 rfl (lv_at hl 1 rfl) ?_
  obtain ⟨g1, hf⟩ := chk_some hf
  refine va_iald hx hb hK hP 1 0 rfl rfl (gin_in g1) dX10_is_8 ?_
  refine lv_iconst (v := (1 : Int32)) hx hb dX10_is_9 (by decide) ?_
  refine lv_isub hx hb dX10_is_10 ?_
  refine lv_i2l hx hb dX10_is_11 rfl ?_
  obtain ⟨r2, hg3, hf⟩ := bd1_some hf
  refine CM_callS (As := [.long p2.toInt64, .long (0 : Int64), .long ((t_book p1.toNatClampNeg) - (1 : Int32)).toInt64]) (rest := []) (wc := []) (w1 := []) (wr := [(h_t, .inr (8, fX10 h_t_book h_t_images h_t_kept h_t_aside h_t_far h_t_then h_t_row h_t_mays h_t_firstRow h_t_low h_t_high t_noOlder t_thanThis t_known t_knownAge t_moved h_t_lowOne h_t_highOne h_t_ways t_met h_t_left t_hours t_greatest h_t_text t_typed t_at t_start t_token t_value h_t_verbs h_t_nums t_items)), (h_t_book, .inl (cI, 460, .inl t_book))]) (wo := [(h_t, .inr (8, fX10 h_t_book h_t_images h_t_kept h_t_aside h_t_far h_t_then h_t_row h_t_mays h_t_firstRow h_t_low h_t_high t_noOlder t_thanThis t_known t_knownAge t_moved h_t_lowOne h_t_highOne h_t_ways t_met h_t_left t_hours t_greatest h_t_text t_typed t_at t_start t_token t_value h_t_verbs h_t_nums t_items)), (h_t_book, .inl (cI, 460, .inl t_book))]) (v := (some (.int r2))) ⟨hx, hb, hml, hown, hts⟩ (c_X10_in l dC dI cI cZ te (p2.toInt64) (0 : Int64) (((t_book p1.toNatClampNeg) - (1 : Int32)).toInt64) r2 hg3) (va_cwS 3 hts (gS kw_157 kw_158 kw_159 kw_160) rfl rfl rfl (by decide +kernel) ⟨Nat.le_of_ble_eq_true rfl, Nat.le_of_ble_eq_true rfl⟩) (kS_env te) hK hP hD hS hA hE [] [0, 1] [0, 1] rfl rfl (by decide) (by decide) (by decide) (by decide) rfl rfl hl.1 rfl (Nat.le_of_ble_eq_true rfl) dX10_is_12 ⟨Nat.zero_le _, Nat.zero_le _⟩ (fun H locs hP hD hS => ?_)
  show W p l e rmX10_is s m args below meth c H locs 0 0 Q (F0 m 15 ls [.int r2])
  obtain ⟨g4, hf⟩ := chk_some hf
  obtain rfl := inj1 hf
  subst hQ
  exact CM_iret hx hb hr (gz_n g4) hlocks hAe hP hD hS dX10_is_15
def rmX10_comes : Room := { frames := 0, cells := 0, slots := 0, locals := 0 }
abbrev wqX10_comes : List Cond := Cond.code yX10_comes cX10_comes 6 (some .int) :: tG
set_option maxHeartbeats 4000000 in
set_option maxRecDepth 100000 in
theorem c_X10_comes (l : Launch) (dC : Nat → ClassId) (dI : Nat → Nat → Nat) (cI cZ : ClassId) (te : Nat → Nat) (h_t : Nat) (h_t_book : Nat) (h_t_images : Nat) (h_t_kept : Nat) (h_t_aside : Nat) (h_t_far : Nat) (h_t_then : Nat) (h_t_row : Nat) (h_t_mays : Nat) (h_t_firstRow : Nat) (h_t_low : Nat) (h_t_high : Nat) (h_t_lowOne : Nat) (h_t_highOne : Nat) (h_t_ways : Nat) (h_t_left : Nat) (h_t_text : Nat) (h_t_verbs : Nat) (h_t_nums : Nat) (t_noOlder : Int32) (t_thanThis : Int32) (t_known : Int32) (t_knownAge : Int32) (t_moved : Int32) (t_met : Int32) (t_hours : Int32) (t_greatest : Int32) (t_typed : Int32) (t_at : Int32) (t_start : Int32) (t_token : Int32) (t_value : Int32) (t_items : Int32) (t_book : Nat → Int32) (p1 : Int32) (p2 : Int32) (p3 : Int32) (p4 : Int32) (p5 : Int32) (o0 : Int32) (o1 : Nat → Int32) (hf : f_X10_comes t_book p1 p2 p3 p4 p5 = some (o0, o1)) : CM l yX10_comes wqX10_comes rmX10_comes (kS te) dC dI cI cZ [.ref h_t, .int p1, .int p2, .int p3, .int p4, .int p5] [(h_t, .inr (8, fX10 h_t_book h_t_images h_t_kept h_t_aside h_t_far h_t_then h_t_row h_t_mays h_t_firstRow h_t_low h_t_high t_noOlder t_thanThis t_known t_knownAge t_moved h_t_lowOne h_t_highOne h_t_ways t_met h_t_left t_hours t_greatest h_t_text t_typed t_at t_start t_token t_value h_t_verbs h_t_nums t_items)), (h_t_book, .inl (cI, 460, .inl t_book))] [(h_t, .inr (8, fX10 h_t_book h_t_images h_t_kept h_t_aside h_t_far h_t_then h_t_row h_t_mays h_t_firstRow h_t_low h_t_high t_noOlder t_thanThis t_known t_knownAge t_moved h_t_lowOne h_t_highOne h_t_ways t_met h_t_left t_hours t_greatest h_t_text t_typed t_at t_start t_token t_value h_t_verbs h_t_nums t_items)), (h_t_book, .inl (cI, 460, .inl o1))] (some (.int o0)) := by
  refine CM_of (cc := cX10_comes) (maxL := 6) (ret := (some .int)) (by decide +kernel) rfl (Nat.le_of_ble_eq_true rfl) ?_
  intro p e s m args below meth c A Q hx hb hr hml hown hts hlocks hA hK hP hD hS hE hQ hAe ls hl
  have hown : s.vm.findClass RX10 = some m.cls := hown
  have hl : lv_has ls 6 [(0, .ref h_t), (1, .int p1), (2, .int p2), (3, .int p3), (4, .int p4), (5, .int p5)] := hl
  unfold f_X10_comes at hf
  refine lv_aload_n hx hb dX10_comes_0 rfl (lv_at hl 0 rfl) ?_
  refine va_get (D := (dC, dI)) (ci := 8) (v := .ref h_t_book) (C := RX10) (T := TX10) (N := 32) hx hb hts (in1 tw_X10) hown hK hP 0 rfl rfl 0 (by decide) (hts _ (List.mem_cons_of_mem _ kw_116)) (fun _ h9 => h9) rfl dX10_comes_1 ?_
  refine lv_iload_n hx hb dX10_comes_4 rfl (lv_at hl 1 rfl) ?_
  obtain ⟨g1, hf⟩ := chk_some hf
  refine va_iald hx hb hK hP 1 0 rfl rfl (gin_in g1) dX10_comes_5 ?_
  refine lv_iload_n hx hb dX10_comes_6 rfl (lv_at hl 2 rfl) ?_
  refine lv_icmp_ne (tgt := 13) hx hb dX10_comes_7 (by decide) (fun c2 => ?_) (fun c2 => ?_)
  · replace hf := ifn c2 hf
    refine lv_aload_n hx hb dX10_comes_13 rfl (lv_at hl 0 rfl) ?_
    refine va_get (D := (dC, dI)) (ci := 8) (v := .ref h_t_book) (C := RX10) (T := TX10) (N := 32) hx hb hts (in1 tw_X10) hown hK hP 0 rfl rfl 0 (by decide) (hts _ (List.mem_cons_of_mem _ kw_116)) (fun _ h9 => h9) rfl dX10_comes_14 ?_
    refine lv_iload_n hx hb dX10_comes_17 rfl (lv_at hl 3 rfl) ?_
    refine lv_iconst (v := (2 : Int32)) hx hb dX10_comes_18 (by decide) ?_
    refine lv_aload_n hx hb dX10_comes_19 rfl (lv_at hl 0 rfl) ?_
    refine va_get (D := (dC, dI)) (ci := 8) (v := .ref h_t_book) (C := RX10) (T := TX10) (N := 32) hx hb hts (in1 tw_X10) hown hK hP 0 rfl rfl 0 (by decide) (hts _ (List.mem_cons_of_mem _ kw_116)) (fun _ h9 => h9) rfl dX10_comes_20 ?_
    refine lv_iload_n hx hb dX10_comes_23 rfl (lv_at hl 1 rfl) ?_
    obtain ⟨g3, hf⟩ := chk_some hf
    refine va_iald hx hb hK hP 1 0 rfl rfl (gin_in g3) dX10_comes_24 ?_
    refine lv_imul hx hb dX10_comes_25 ?_
    refine lv_iadd hx hb dX10_comes_26 ?_
    refine lv_iload hx hb dX10_comes_27 (lv_at hl 4 rfl) ?_
    obtain ⟨g4, hf⟩ := chk_some hf
    obtain ⟨y5, e6, hf⟩ := nm_some hf
    refine va_iast hx hb hK hP hD hS 1 0 rfl rfl (gin_in g4) dX10_comes_29 (fun H locs hP hD hS => ?_)
    have hP : va_P (dC, dI) vwCl [(h_t, .inr (8, fX10 h_t_book h_t_images h_t_kept h_t_aside h_t_far h_t_then h_t_row h_t_mays h_t_firstRow h_t_low h_t_high t_noOlder t_thanThis t_known t_knownAge t_moved h_t_lowOne h_t_highOne h_t_ways t_met h_t_left t_hours t_greatest h_t_text t_typed t_at t_start t_token t_value h_t_verbs h_t_nums t_items)), (h_t_book, .inl (cI, 460, .inl y5))] H := by rw [e6]; exact hP
    have hD : va_D A [(h_t, .inr (8, fX10 h_t_book h_t_images h_t_kept h_t_aside h_t_far h_t_then h_t_row h_t_mays h_t_firstRow h_t_low h_t_high t_noOlder t_thanThis t_known t_knownAge t_moved h_t_lowOne h_t_highOne h_t_ways t_met h_t_left t_hours t_greatest h_t_text t_typed t_at t_start t_token t_value h_t_verbs h_t_nums t_items)), (h_t_book, .inl (cI, 460, .inl y5))] := by rw [e6]; exact hD
    refine lv_aload_n hx hb dX10_comes_30 rfl (lv_at hl 0 rfl) ?_
    refine va_get (D := (dC, dI)) (ci := 8) (v := .ref h_t_book) (C := RX10) (T := TX10) (N := 32) hx hb hts (in1 tw_X10) hown hK hP 0 rfl rfl 0 (by decide) (hts _ (List.mem_cons_of_mem _ kw_116)) (fun _ h9 => h9) rfl dX10_comes_31 ?_
    refine lv_iload_n hx hb dX10_comes_34 rfl (lv_at hl 3 rfl) ?_
    refine lv_iconst (v := (2 : Int32)) hx hb dX10_comes_35 (by decide) ?_
    refine lv_aload_n hx hb dX10_comes_36 rfl (lv_at hl 0 rfl) ?_
    refine va_get (D := (dC, dI)) (ci := 8) (v := .ref h_t_book) (C := RX10) (T := TX10) (N := 32) hx hb hts (in1 tw_X10) hown hK hP 0 rfl rfl 0 (by decide) (hts _ (List.mem_cons_of_mem _ kw_116)) (fun _ h9 => h9) rfl dX10_comes_37 ?_
    refine lv_iload_n hx hb dX10_comes_40 rfl (lv_at hl 1 rfl) ?_
    obtain ⟨g7, hf⟩ := chk_some hf
    refine va_iald hx hb hK hP 1 0 rfl rfl (gin_in g7) dX10_comes_41 ?_
    refine lv_imul hx hb dX10_comes_42 ?_
    refine lv_iadd hx hb dX10_comes_43 ?_
    refine lv_iconst (v := (1 : Int32)) hx hb dX10_comes_44 (by decide) ?_
    refine lv_iadd hx hb dX10_comes_45 ?_
    refine lv_iload hx hb dX10_comes_46 (lv_at hl 5 rfl) ?_
    obtain ⟨g8, hf⟩ := chk_some hf
    obtain ⟨y9, e10, hf⟩ := nm_some hf
    refine va_iast hx hb hK hP hD hS 1 0 rfl rfl (gin_in g8) dX10_comes_48 (fun H locs hP hD hS => ?_)
    have hP : va_P (dC, dI) vwCl [(h_t, .inr (8, fX10 h_t_book h_t_images h_t_kept h_t_aside h_t_far h_t_then h_t_row h_t_mays h_t_firstRow h_t_low h_t_high t_noOlder t_thanThis t_known t_knownAge t_moved h_t_lowOne h_t_highOne h_t_ways t_met h_t_left t_hours t_greatest h_t_text t_typed t_at t_start t_token t_value h_t_verbs h_t_nums t_items)), (h_t_book, .inl (cI, 460, .inl y9))] H := by rw [e10]; exact hP
    have hD : va_D A [(h_t, .inr (8, fX10 h_t_book h_t_images h_t_kept h_t_aside h_t_far h_t_then h_t_row h_t_mays h_t_firstRow h_t_low h_t_high t_noOlder t_thanThis t_known t_knownAge t_moved h_t_lowOne h_t_highOne h_t_ways t_met h_t_left t_hours t_greatest h_t_text t_typed t_at t_start t_token t_value h_t_verbs h_t_nums t_items)), (h_t_book, .inl (cI, 460, .inl y9))] := by rw [e10]; exact hD
    refine lv_aload_n hx hb dX10_comes_49 rfl (lv_at hl 0 rfl) ?_
    refine va_get (D := (dC, dI)) (ci := 8) (v := .ref h_t_book) (C := RX10) (T := TX10) (N := 32) hx hb hts (in1 tw_X10) hown hK hP 0 rfl rfl 0 (by decide) (hts _ (List.mem_cons_of_mem _ kw_116)) (fun _ h9 => h9) rfl dX10_comes_50 ?_
    refine lv_iload_n hx hb dX10_comes_53 rfl (lv_at hl 1 rfl) ?_
    refine lv_dup2_11 hx hb dX10_comes_54 rfl rfl ?_
    obtain ⟨g11, hf⟩ := chk_some hf
    refine va_iald hx hb hK hP 1 0 rfl rfl (gin_in g11) dX10_comes_55 ?_
    refine lv_iconst (v := (1 : Int32)) hx hb dX10_comes_56 (by decide) ?_
    refine lv_iadd hx hb dX10_comes_57 ?_
    obtain ⟨x12, e13, hf⟩ := nm_some hf
    refine lv_tope e13 ?_
    obtain ⟨g14, hf⟩ := chk_some hf
    obtain ⟨y15, e16, hf⟩ := nm_some hf
    refine va_iast hx hb hK hP hD hS 1 0 rfl rfl (gin_in g14) dX10_comes_58 (fun H locs hP hD hS => ?_)
    have hP : va_P (dC, dI) vwCl [(h_t, .inr (8, fX10 h_t_book h_t_images h_t_kept h_t_aside h_t_far h_t_then h_t_row h_t_mays h_t_firstRow h_t_low h_t_high t_noOlder t_thanThis t_known t_knownAge t_moved h_t_lowOne h_t_highOne h_t_ways t_met h_t_left t_hours t_greatest h_t_text t_typed t_at t_start t_token t_value h_t_verbs h_t_nums t_items)), (h_t_book, .inl (cI, 460, .inl y15))] H := by rw [e16]; exact hP
    have hD : va_D A [(h_t, .inr (8, fX10 h_t_book h_t_images h_t_kept h_t_aside h_t_far h_t_then h_t_row h_t_mays h_t_firstRow h_t_low h_t_high t_noOlder t_thanThis t_known t_knownAge t_moved h_t_lowOne h_t_highOne h_t_ways t_met h_t_left t_hours t_greatest h_t_text t_typed t_at t_start t_token t_value h_t_verbs h_t_nums t_items)), (h_t_book, .inl (cI, 460, .inl y15))] := by rw [e16]; exact hD
    refine lv_aload_n hx hb dX10_comes_59 rfl (lv_at hl 0 rfl) ?_
    refine va_get (D := (dC, dI)) (ci := 8) (v := .ref h_t_book) (C := RX10) (T := TX10) (N := 32) hx hb hts (in1 tw_X10) hown hK hP 0 rfl rfl 0 (by decide) (hts _ (List.mem_cons_of_mem _ kw_116)) (fun _ h9 => h9) rfl dX10_comes_60 ?_
    refine lv_iload_n hx hb dX10_comes_63 rfl (lv_at hl 1 rfl) ?_
    obtain ⟨g17, hf⟩ := chk_some hf
    refine va_iald hx hb hK hP 1 0 rfl rfl (gin_in g17) dX10_comes_64 ?_
    refine lv_iconst (v := (1 : Int32)) hx hb dX10_comes_65 (by decide) ?_
    refine lv_isub hx hb dX10_comes_66 ?_
    obtain ⟨rfl, rfl⟩ := inj2 hf
    subst hQ
    exact CM_iret hx hb hr rfl hlocks hAe hP hD hS dX10_comes_67
  · replace hf := ifp c2 hf
    refine lv_bipush (v := (-4 : Int32)) hx hb dX10_comes_10 (by decide) ?_
    obtain ⟨rfl, rfl⟩ := inj2 hf
    subst hQ
    exact CM_iret hx hb hr rfl hlocks hAe hP hD hS dX10_comes_12
def rmX10_cliff : Room := { frames := 2, cells := 0, slots := 0, locals := 45 }
abbrev wqX10_cliff : List Cond := Cond.code yX10_cliff cX10_cliff 3 (some .int) :: tG
set_option maxHeartbeats 4000000 in
set_option maxRecDepth 100000 in
theorem c_X10_cliff (l : Launch) (dC : Nat → ClassId) (dI : Nat → Nat → Nat) (cI cZ : ClassId) (te : Nat → Nat) (h_t : Nat) (h_t_book : Nat) (h_t_images : Nat) (h_t_kept : Nat) (h_t_aside : Nat) (h_t_far : Nat) (h_t_then : Nat) (h_t_row : Nat) (h_t_mays : Nat) (h_t_firstRow : Nat) (h_t_low : Nat) (h_t_high : Nat) (h_t_lowOne : Nat) (h_t_highOne : Nat) (h_t_ways : Nat) (h_t_left : Nat) (h_t_text : Nat) (h_t_verbs : Nat) (h_t_nums : Nat) (t_noOlder : Int32) (t_thanThis : Int32) (t_known : Int32) (t_knownAge : Int32) (t_moved : Int32) (t_met : Int32) (t_hours : Int32) (t_greatest : Int32) (t_typed : Int32) (t_at : Int32) (t_start : Int32) (t_token : Int32) (t_value : Int32) (t_items : Int32) (t_book : Nat → Int32) (p1 : Int32) (p2 : Int32) (o0 : Int32) (o1 : Nat → Int32) (hf : f_X10_cliff t_book p1 p2 = some (o0, o1)) : CM l yX10_cliff wqX10_cliff rmX10_cliff (kS te) dC dI cI cZ [.ref h_t, .int p1, .int p2] [(h_t, .inr (8, fX10 h_t_book h_t_images h_t_kept h_t_aside h_t_far h_t_then h_t_row h_t_mays h_t_firstRow h_t_low h_t_high t_noOlder t_thanThis t_known t_knownAge t_moved h_t_lowOne h_t_highOne h_t_ways t_met h_t_left t_hours t_greatest h_t_text t_typed t_at t_start t_token t_value h_t_verbs h_t_nums t_items)), (h_t_book, .inl (cI, 460, .inl t_book))] [(h_t, .inr (8, fX10 h_t_book h_t_images h_t_kept h_t_aside h_t_far h_t_then h_t_row h_t_mays h_t_firstRow h_t_low h_t_high t_noOlder t_thanThis t_known t_knownAge t_moved h_t_lowOne h_t_highOne h_t_ways t_met h_t_left t_hours t_greatest h_t_text t_typed t_at t_start t_token t_value h_t_verbs h_t_nums t_items)), (h_t_book, .inl (cI, 460, .inl o1))] (some (.int o0)) := by
  refine CM_of (cc := cX10_cliff) (maxL := 3) (ret := (some .int)) (by decide +kernel) rfl (Nat.le_of_ble_eq_true rfl) ?_
  intro p e s m args below meth c A Q hx hb hr hml hown hts hlocks hA hK hP hD hS hE hQ hAe ls hl
  have hown : s.vm.findClass RX10 = some m.cls := hown
  have hl : lv_has ls 3 [(0, .ref h_t), (1, .int p1), (2, .int p2)] := hl
  unfold f_X10_cliff at hf
  refine lv_iload_n hx hb dX10_cliff_0 rfl (lv_at hl 1 rfl) ?_
  obtain ⟨r1, hg2, hf⟩ := bd1_some hf
  refine CM_callS (As := [.int p1]) (rest := []) (wc := []) (w1 := []) (wr := [(h_t, .inr (8, fX10 h_t_book h_t_images h_t_kept h_t_aside h_t_far h_t_then h_t_row h_t_mays h_t_firstRow h_t_low h_t_high t_noOlder t_thanThis t_known t_knownAge t_moved h_t_lowOne h_t_highOne h_t_ways t_met h_t_left t_hours t_greatest h_t_text t_typed t_at t_start t_token t_value h_t_verbs h_t_nums t_items)), (h_t_book, .inl (cI, 460, .inl t_book))]) (wo := [(h_t, .inr (8, fX10 h_t_book h_t_images h_t_kept h_t_aside h_t_far h_t_then h_t_row h_t_mays h_t_firstRow h_t_low h_t_high t_noOlder t_thanThis t_known t_knownAge t_moved h_t_lowOne h_t_highOne h_t_ways t_met h_t_left t_hours t_greatest h_t_text t_typed t_at t_start t_token t_value h_t_verbs h_t_nums t_items)), (h_t_book, .inl (cI, 460, .inl t_book))]) (v := (some (.int r1))) ⟨hx, hb, hml, hown, hts⟩ (c_X10_isPlace l dC dI cI cZ te p1 r1 hg2) (va_cwS 1 hts (gS kw_165 kw_166 kw_159 kw_167) rfl rfl rfl (by decide +kernel) ⟨Nat.le_of_ble_eq_true rfl, Nat.le_of_ble_eq_true rfl⟩) (kS_env te) hK hP hD hS hA hE [] [0, 1] [0, 1] rfl rfl (by decide) (by decide) (by decide) (by decide) rfl rfl hl.1 rfl (Nat.le_of_ble_eq_true rfl) dX10_cliff_1 ⟨Nat.zero_le _, Nat.zero_le _⟩ (fun H locs hP hD hS => ?_)
  show W p l e rmX10_cliff s m args below meth c H locs 0 0 Q (F0 m 4 ls [.int r1])
  refine lv_if_eq (tgt := 34) hx hb dX10_cliff_4 (by decide) (fun c3 => ?_) (fun c3 => ?_)
  · replace hf := ifp c3 hf
    refine lv_bipush (v := (-2 : Int32)) hx hb dX10_cliff_34 (by decide) ?_
    obtain ⟨rfl, rfl⟩ := inj2 hf
    subst hQ
    exact CM_iret hx hb hr rfl hlocks hAe hP hD hS dX10_cliff_36
  · replace hf := ifn c3 hf
    refine lv_iload_n hx hb dX10_cliff_7 rfl (lv_at hl 2 rfl) ?_
    refine lv_i2l hx hb dX10_cliff_8 rfl ?_
    refine lv_lconst (v := (0 : Int64)) hx hb dX10_cliff_9 (by decide) ?_
    refine lv_ldc2 (v := (5 : Int64)) hx hb hown (hts _ (List.mem_cons_of_mem _ kw_187)) dX10_cliff_10 ?_
    obtain ⟨r4, hg5, hf⟩ := bd1_some hf
    refine CM_callS (As := [.long p2.toInt64, .long (0 : Int64), .long (5 : Int64)]) (rest := []) (wc := []) (w1 := []) (wr := [(h_t, .inr (8, fX10 h_t_book h_t_images h_t_kept h_t_aside h_t_far h_t_then h_t_row h_t_mays h_t_firstRow h_t_low h_t_high t_noOlder t_thanThis t_known t_knownAge t_moved h_t_lowOne h_t_highOne h_t_ways t_met h_t_left t_hours t_greatest h_t_text t_typed t_at t_start t_token t_value h_t_verbs h_t_nums t_items)), (h_t_book, .inl (cI, 460, .inl t_book))]) (wo := [(h_t, .inr (8, fX10 h_t_book h_t_images h_t_kept h_t_aside h_t_far h_t_then h_t_row h_t_mays h_t_firstRow h_t_low h_t_high t_noOlder t_thanThis t_known t_knownAge t_moved h_t_lowOne h_t_highOne h_t_ways t_met h_t_left t_hours t_greatest h_t_text t_typed t_at t_start t_token t_value h_t_verbs h_t_nums t_items)), (h_t_book, .inl (cI, 460, .inl t_book))]) (v := (some (.int r4))) ⟨hx, hb, hml, hown, hts⟩ (c_X10_in l dC dI cI cZ te (p2.toInt64) (0 : Int64) (5 : Int64) r4 hg5) (va_cwS 3 hts (gS kw_157 kw_158 kw_159 kw_160) rfl rfl rfl (by decide +kernel) ⟨Nat.le_of_ble_eq_true rfl, Nat.le_of_ble_eq_true rfl⟩) (kS_env te) hK hP hD hS hA hE [] [0, 1] [0, 1] rfl rfl (by decide) (by decide) (by decide) (by decide) rfl rfl hl.1 rfl (Nat.le_of_ble_eq_true rfl) dX10_cliff_13 ⟨Nat.zero_le _, Nat.zero_le _⟩ (fun H locs hP hD hS => ?_)
    show W p l e rmX10_cliff s m args below meth c H locs 0 0 Q (F0 m 16 ls [.int r4])
    refine lv_if_eq (tgt := 34) hx hb dX10_cliff_16 (by decide) (fun c6 => ?_) (fun c6 => ?_)
    · replace hf := ifp c6 hf
      refine lv_bipush (v := (-2 : Int32)) hx hb dX10_cliff_34 (by decide) ?_
      obtain ⟨rfl, rfl⟩ := inj2 hf
      subst hQ
      exact CM_iret hx hb hr rfl hlocks hAe hP hD hS dX10_cliff_36
    · replace hf := ifn c6 hf
      refine lv_aload_n hx hb dX10_cliff_19 rfl (lv_at hl 0 rfl) ?_
      refine lv_iconst (v := (0 : Int32)) hx hb dX10_cliff_20 (by decide) ?_
      refine lv_bipush (v := (8 : Int32)) hx hb dX10_cliff_21 (by decide) ?_
      refine lv_sipush (v := (220 : Int32)) hx hb dX10_cliff_23 (by decide) ?_
      refine lv_iload_n hx hb dX10_cliff_26 rfl (lv_at hl 1 rfl) ?_
      refine lv_iload_n hx hb dX10_cliff_27 rfl (lv_at hl 2 rfl) ?_
      obtain ⟨r7, y8, hg9, hf⟩ := bd2_some hf
      refine CM_callV (C := RX10) (As := [.int (0 : Int32), .int (8 : Int32), .int (220 : Int32), .int p1, .int p2]) (rest := []) (wc := [(h_t, .inr (8, fX10 h_t_book h_t_images h_t_kept h_t_aside h_t_far h_t_then h_t_row h_t_mays h_t_firstRow h_t_low h_t_high t_noOlder t_thanThis t_known t_knownAge t_moved h_t_lowOne h_t_highOne h_t_ways t_met h_t_left t_hours t_greatest h_t_text t_typed t_at t_start t_token t_value h_t_verbs h_t_nums t_items)), (h_t_book, .inl (cI, 460, .inl t_book))]) (w1 := [(h_t, .inr (8, fX10 h_t_book h_t_images h_t_kept h_t_aside h_t_far h_t_then h_t_row h_t_mays h_t_firstRow h_t_low h_t_high t_noOlder t_thanThis t_known t_knownAge t_moved h_t_lowOne h_t_highOne h_t_ways t_met h_t_left t_hours t_greatest h_t_text t_typed t_at t_start t_token t_value h_t_verbs h_t_nums t_items)), (h_t_book, .inl (cI, 460, .inl y8))]) (wr := []) (wo := [(h_t, .inr (8, fX10 h_t_book h_t_images h_t_kept h_t_aside h_t_far h_t_then h_t_row h_t_mays h_t_firstRow h_t_low h_t_high t_noOlder t_thanThis t_known t_knownAge t_moved h_t_lowOne h_t_highOne h_t_ways t_met h_t_left t_hours t_greatest h_t_text t_typed t_at t_start t_token t_value h_t_verbs h_t_nums t_items)), (h_t_book, .inl (cI, 460, .inl y8))]) (v := (some (.int r7))) ⟨hx, hb, hml, hown, hts⟩ (c_X10_comes l dC dI cI cZ te h_t h_t_book h_t_images h_t_kept h_t_aside h_t_far h_t_then h_t_row h_t_mays h_t_firstRow h_t_low h_t_high h_t_lowOne h_t_highOne h_t_ways h_t_left h_t_text h_t_verbs h_t_nums t_noOlder t_thanThis t_known t_knownAge t_moved t_met t_hours t_greatest t_typed t_at t_start t_token t_value t_items t_book (0 : Int32) (8 : Int32) (220 : Int32) p1 p2 r7 y8 hg9) (cwV 5 hts (gV kw_188 kw_189 kw_190 kw_159 kw_191) rfl rfl rfl (by decide +kernel) ⟨Nat.le_of_ble_eq_true rfl, Nat.le_of_ble_eq_true rfl⟩) (kS_env te) hK hP hD hS hA hE [0, 1] [] [0, 1] rfl rfl (by decide) (by decide) (by decide) (by decide) rfl 0 8 rfl rfl rfl rfl hl.1 rfl (Nat.le_of_ble_eq_true rfl) dX10_cliff_28 ⟨Nat.zero_le _, Nat.zero_le _⟩ (fun H locs hP hD hS => ?_)
      show W p l e rmX10_cliff s m args below meth c H locs 0 0 Q (F0 m 31 ls [.int r7])
      refine lv_goto (tgt := 36) hx hb dX10_cliff_31 (by decide) ?_
      obtain ⟨rfl, rfl⟩ := inj2 hf
      subst hQ
      exact CM_iret hx hb hr rfl hlocks hAe hP hD hS dX10_cliff_36
def rmX10_boulder : Room := { frames := 2, cells := 0, slots := 0, locals := 45 }
abbrev wqX10_boulder : List Cond := Cond.code yX10_boulder cX10_boulder 3 (some .int) :: tG
set_option maxHeartbeats 4000000 in
set_option maxRecDepth 100000 in
theorem c_X10_boulder (l : Launch) (dC : Nat → ClassId) (dI : Nat → Nat → Nat) (cI cZ : ClassId) (te : Nat → Nat) (h_t : Nat) (h_t_book : Nat) (h_t_images : Nat) (h_t_kept : Nat) (h_t_aside : Nat) (h_t_far : Nat) (h_t_then : Nat) (h_t_row : Nat) (h_t_mays : Nat) (h_t_firstRow : Nat) (h_t_low : Nat) (h_t_high : Nat) (h_t_lowOne : Nat) (h_t_highOne : Nat) (h_t_ways : Nat) (h_t_left : Nat) (h_t_text : Nat) (h_t_verbs : Nat) (h_t_nums : Nat) (t_noOlder : Int32) (t_thanThis : Int32) (t_known : Int32) (t_knownAge : Int32) (t_moved : Int32) (t_met : Int32) (t_hours : Int32) (t_greatest : Int32) (t_typed : Int32) (t_at : Int32) (t_start : Int32) (t_token : Int32) (t_value : Int32) (t_items : Int32) (t_book : Nat → Int32) (p1 : Int32) (p2 : Int32) (o0 : Int32) (o1 : Nat → Int32) (hf : f_X10_boulder t_book p1 p2 = some (o0, o1)) : CM l yX10_boulder wqX10_boulder rmX10_boulder (kS te) dC dI cI cZ [.ref h_t, .int p1, .int p2] [(h_t, .inr (8, fX10 h_t_book h_t_images h_t_kept h_t_aside h_t_far h_t_then h_t_row h_t_mays h_t_firstRow h_t_low h_t_high t_noOlder t_thanThis t_known t_knownAge t_moved h_t_lowOne h_t_highOne h_t_ways t_met h_t_left t_hours t_greatest h_t_text t_typed t_at t_start t_token t_value h_t_verbs h_t_nums t_items)), (h_t_book, .inl (cI, 460, .inl t_book))] [(h_t, .inr (8, fX10 h_t_book h_t_images h_t_kept h_t_aside h_t_far h_t_then h_t_row h_t_mays h_t_firstRow h_t_low h_t_high t_noOlder t_thanThis t_known t_knownAge t_moved h_t_lowOne h_t_highOne h_t_ways t_met h_t_left t_hours t_greatest h_t_text t_typed t_at t_start t_token t_value h_t_verbs h_t_nums t_items)), (h_t_book, .inl (cI, 460, .inl o1))] (some (.int o0)) := by
  refine CM_of (cc := cX10_boulder) (maxL := 3) (ret := (some .int)) (by decide +kernel) rfl (Nat.le_of_ble_eq_true rfl) ?_
  intro p e s m args below meth c A Q hx hb hr hml hown hts hlocks hA hK hP hD hS hE hQ hAe ls hl
  have hown : s.vm.findClass RX10 = some m.cls := hown
  have hl : lv_has ls 3 [(0, .ref h_t), (1, .int p1), (2, .int p2)] := hl
  unfold f_X10_boulder at hf
  refine lv_iload_n hx hb dX10_boulder_0 rfl (lv_at hl 1 rfl) ?_
  obtain ⟨r1, hg2, hf⟩ := bd1_some hf
  refine CM_callS (As := [.int p1]) (rest := []) (wc := []) (w1 := []) (wr := [(h_t, .inr (8, fX10 h_t_book h_t_images h_t_kept h_t_aside h_t_far h_t_then h_t_row h_t_mays h_t_firstRow h_t_low h_t_high t_noOlder t_thanThis t_known t_knownAge t_moved h_t_lowOne h_t_highOne h_t_ways t_met h_t_left t_hours t_greatest h_t_text t_typed t_at t_start t_token t_value h_t_verbs h_t_nums t_items)), (h_t_book, .inl (cI, 460, .inl t_book))]) (wo := [(h_t, .inr (8, fX10 h_t_book h_t_images h_t_kept h_t_aside h_t_far h_t_then h_t_row h_t_mays h_t_firstRow h_t_low h_t_high t_noOlder t_thanThis t_known t_knownAge t_moved h_t_lowOne h_t_highOne h_t_ways t_met h_t_left t_hours t_greatest h_t_text t_typed t_at t_start t_token t_value h_t_verbs h_t_nums t_items)), (h_t_book, .inl (cI, 460, .inl t_book))]) (v := (some (.int r1))) ⟨hx, hb, hml, hown, hts⟩ (c_X10_isPlace l dC dI cI cZ te p1 r1 hg2) (va_cwS 1 hts (gS kw_165 kw_166 kw_159 kw_167) rfl rfl rfl (by decide +kernel) ⟨Nat.le_of_ble_eq_true rfl, Nat.le_of_ble_eq_true rfl⟩) (kS_env te) hK hP hD hS hA hE [] [0, 1] [0, 1] rfl rfl (by decide) (by decide) (by decide) (by decide) rfl rfl hl.1 rfl (Nat.le_of_ble_eq_true rfl) dX10_boulder_1 ⟨Nat.zero_le _, Nat.zero_le _⟩ (fun H locs hP hD hS => ?_)
  show W p l e rmX10_boulder s m args below meth c H locs 0 0 Q (F0 m 4 ls [.int r1])
  refine lv_if_eq (tgt := 34) hx hb dX10_boulder_4 (by decide) (fun c3 => ?_) (fun c3 => ?_)
  · replace hf := ifp c3 hf
    refine lv_bipush (v := (-2 : Int32)) hx hb dX10_boulder_34 (by decide) ?_
    obtain ⟨rfl, rfl⟩ := inj2 hf
    subst hQ
    exact CM_iret hx hb hr rfl hlocks hAe hP hD hS dX10_boulder_36
  · replace hf := ifn c3 hf
    refine lv_iload_n hx hb dX10_boulder_7 rfl (lv_at hl 2 rfl) ?_
    refine lv_i2l hx hb dX10_boulder_8 rfl ?_
    refine lv_lconst (v := (0 : Int64)) hx hb dX10_boulder_9 (by decide) ?_
    refine lv_ldc2 (v := (5 : Int64)) hx hb hown (hts _ (List.mem_cons_of_mem _ kw_187)) dX10_boulder_10 ?_
    obtain ⟨r4, hg5, hf⟩ := bd1_some hf
    refine CM_callS (As := [.long p2.toInt64, .long (0 : Int64), .long (5 : Int64)]) (rest := []) (wc := []) (w1 := []) (wr := [(h_t, .inr (8, fX10 h_t_book h_t_images h_t_kept h_t_aside h_t_far h_t_then h_t_row h_t_mays h_t_firstRow h_t_low h_t_high t_noOlder t_thanThis t_known t_knownAge t_moved h_t_lowOne h_t_highOne h_t_ways t_met h_t_left t_hours t_greatest h_t_text t_typed t_at t_start t_token t_value h_t_verbs h_t_nums t_items)), (h_t_book, .inl (cI, 460, .inl t_book))]) (wo := [(h_t, .inr (8, fX10 h_t_book h_t_images h_t_kept h_t_aside h_t_far h_t_then h_t_row h_t_mays h_t_firstRow h_t_low h_t_high t_noOlder t_thanThis t_known t_knownAge t_moved h_t_lowOne h_t_highOne h_t_ways t_met h_t_left t_hours t_greatest h_t_text t_typed t_at t_start t_token t_value h_t_verbs h_t_nums t_items)), (h_t_book, .inl (cI, 460, .inl t_book))]) (v := (some (.int r4))) ⟨hx, hb, hml, hown, hts⟩ (c_X10_in l dC dI cI cZ te (p2.toInt64) (0 : Int64) (5 : Int64) r4 hg5) (va_cwS 3 hts (gS kw_157 kw_158 kw_159 kw_160) rfl rfl rfl (by decide +kernel) ⟨Nat.le_of_ble_eq_true rfl, Nat.le_of_ble_eq_true rfl⟩) (kS_env te) hK hP hD hS hA hE [] [0, 1] [0, 1] rfl rfl (by decide) (by decide) (by decide) (by decide) rfl rfl hl.1 rfl (Nat.le_of_ble_eq_true rfl) dX10_boulder_13 ⟨Nat.zero_le _, Nat.zero_le _⟩ (fun H locs hP hD hS => ?_)
    show W p l e rmX10_boulder s m args below meth c H locs 0 0 Q (F0 m 16 ls [.int r4])
    refine lv_if_eq (tgt := 34) hx hb dX10_boulder_16 (by decide) (fun c6 => ?_) (fun c6 => ?_)
    · replace hf := ifp c6 hf
      refine lv_bipush (v := (-2 : Int32)) hx hb dX10_boulder_34 (by decide) ?_
      obtain ⟨rfl, rfl⟩ := inj2 hf
      subst hQ
      exact CM_iret hx hb hr rfl hlocks hAe hP hD hS dX10_boulder_36
    · replace hf := ifn c6 hf
      refine lv_aload_n hx hb dX10_boulder_19 rfl (lv_at hl 0 rfl) ?_
      refine lv_iconst (v := (1 : Int32)) hx hb dX10_boulder_20 (by decide) ?_
      refine lv_bipush (v := (10 : Int32)) hx hb dX10_boulder_21 (by decide) ?_
      refine lv_sipush (v := (240 : Int32)) hx hb dX10_boulder_23 (by decide) ?_
      refine lv_iload_n hx hb dX10_boulder_26 rfl (lv_at hl 1 rfl) ?_
      refine lv_iload_n hx hb dX10_boulder_27 rfl (lv_at hl 2 rfl) ?_
      obtain ⟨r7, y8, hg9, hf⟩ := bd2_some hf
      refine CM_callV (C := RX10) (As := [.int (1 : Int32), .int (10 : Int32), .int (240 : Int32), .int p1, .int p2]) (rest := []) (wc := [(h_t, .inr (8, fX10 h_t_book h_t_images h_t_kept h_t_aside h_t_far h_t_then h_t_row h_t_mays h_t_firstRow h_t_low h_t_high t_noOlder t_thanThis t_known t_knownAge t_moved h_t_lowOne h_t_highOne h_t_ways t_met h_t_left t_hours t_greatest h_t_text t_typed t_at t_start t_token t_value h_t_verbs h_t_nums t_items)), (h_t_book, .inl (cI, 460, .inl t_book))]) (w1 := [(h_t, .inr (8, fX10 h_t_book h_t_images h_t_kept h_t_aside h_t_far h_t_then h_t_row h_t_mays h_t_firstRow h_t_low h_t_high t_noOlder t_thanThis t_known t_knownAge t_moved h_t_lowOne h_t_highOne h_t_ways t_met h_t_left t_hours t_greatest h_t_text t_typed t_at t_start t_token t_value h_t_verbs h_t_nums t_items)), (h_t_book, .inl (cI, 460, .inl y8))]) (wr := []) (wo := [(h_t, .inr (8, fX10 h_t_book h_t_images h_t_kept h_t_aside h_t_far h_t_then h_t_row h_t_mays h_t_firstRow h_t_low h_t_high t_noOlder t_thanThis t_known t_knownAge t_moved h_t_lowOne h_t_highOne h_t_ways t_met h_t_left t_hours t_greatest h_t_text t_typed t_at t_start t_token t_value h_t_verbs h_t_nums t_items)), (h_t_book, .inl (cI, 460, .inl y8))]) (v := (some (.int r7))) ⟨hx, hb, hml, hown, hts⟩ (c_X10_comes l dC dI cI cZ te h_t h_t_book h_t_images h_t_kept h_t_aside h_t_far h_t_then h_t_row h_t_mays h_t_firstRow h_t_low h_t_high h_t_lowOne h_t_highOne h_t_ways h_t_left h_t_text h_t_verbs h_t_nums t_noOlder t_thanThis t_known t_knownAge t_moved t_met t_hours t_greatest t_typed t_at t_start t_token t_value t_items t_book (1 : Int32) (10 : Int32) (240 : Int32) p1 p2 r7 y8 hg9) (cwV 5 hts (gV kw_188 kw_189 kw_190 kw_159 kw_191) rfl rfl rfl (by decide +kernel) ⟨Nat.le_of_ble_eq_true rfl, Nat.le_of_ble_eq_true rfl⟩) (kS_env te) hK hP hD hS hA hE [0, 1] [] [0, 1] rfl rfl (by decide) (by decide) (by decide) (by decide) rfl 0 8 rfl rfl rfl rfl hl.1 rfl (Nat.le_of_ble_eq_true rfl) dX10_boulder_28 ⟨Nat.zero_le _, Nat.zero_le _⟩ (fun H locs hP hD hS => ?_)
      show W p l e rmX10_boulder s m args below meth c H locs 0 0 Q (F0 m 31 ls [.int r7])
      refine lv_goto (tgt := 36) hx hb dX10_boulder_31 (by decide) ?_
      obtain ⟨rfl, rfl⟩ := inj2 hf
      subst hQ
      exact CM_iret hx hb hr rfl hlocks hAe hP hD hS dX10_boulder_36
def rmX10_cliffAt : Room := { frames := 0, cells := 0, slots := 0, locals := 0 }
abbrev wqX10_cliffAt : List Cond := Cond.code yX10_cliffAt cX10_cliffAt 3 (some .int) :: tG
set_option maxHeartbeats 4000000 in
set_option maxRecDepth 100000 in
theorem c_X10_cliffAt (l : Launch) (dC : Nat → ClassId) (dI : Nat → Nat → Nat) (cI cZ : ClassId) (te : Nat → Nat) (h_t : Nat) (h_t_book : Nat) (h_t_images : Nat) (h_t_kept : Nat) (h_t_aside : Nat) (h_t_far : Nat) (h_t_then : Nat) (h_t_row : Nat) (h_t_mays : Nat) (h_t_firstRow : Nat) (h_t_low : Nat) (h_t_high : Nat) (h_t_lowOne : Nat) (h_t_highOne : Nat) (h_t_ways : Nat) (h_t_left : Nat) (h_t_text : Nat) (h_t_verbs : Nat) (h_t_nums : Nat) (t_noOlder : Int32) (t_thanThis : Int32) (t_known : Int32) (t_knownAge : Int32) (t_moved : Int32) (t_met : Int32) (t_hours : Int32) (t_greatest : Int32) (t_typed : Int32) (t_at : Int32) (t_start : Int32) (t_token : Int32) (t_value : Int32) (t_items : Int32) (t_book : Nat → Int32) (p1 : Int32) (p2 : Int32) (o0 : Int32) (hf : f_X10_cliffAt t_book p1 p2 = some o0) : CM l yX10_cliffAt wqX10_cliffAt rmX10_cliffAt (kS te) dC dI cI cZ [.ref h_t, .int p1, .int p2] [(h_t, .inr (8, fX10 h_t_book h_t_images h_t_kept h_t_aside h_t_far h_t_then h_t_row h_t_mays h_t_firstRow h_t_low h_t_high t_noOlder t_thanThis t_known t_knownAge t_moved h_t_lowOne h_t_highOne h_t_ways t_met h_t_left t_hours t_greatest h_t_text t_typed t_at t_start t_token t_value h_t_verbs h_t_nums t_items)), (h_t_book, .inl (cI, 460, .inl t_book))] [(h_t, .inr (8, fX10 h_t_book h_t_images h_t_kept h_t_aside h_t_far h_t_then h_t_row h_t_mays h_t_firstRow h_t_low h_t_high t_noOlder t_thanThis t_known t_knownAge t_moved h_t_lowOne h_t_highOne h_t_ways t_met h_t_left t_hours t_greatest h_t_text t_typed t_at t_start t_token t_value h_t_verbs h_t_nums t_items)), (h_t_book, .inl (cI, 460, .inl t_book))] (some (.int o0)) := by
  refine CM_of (cc := cX10_cliffAt) (maxL := 3) (ret := (some .int)) (by decide +kernel) rfl (Nat.le_of_ble_eq_true rfl) ?_
  intro p e s m args below meth c A Q hx hb hr hml hown hts hlocks hA hK hP hD hS hE hQ hAe ls hl
  have hown : s.vm.findClass RX10 = some m.cls := hown
  have hl : lv_has ls 3 [(0, .ref h_t), (1, .int p1), (2, .int p2)] := hl
  unfold f_X10_cliffAt at hf
  refine lv_aload_n hx hb dX10_cliffAt_0 rfl (lv_at hl 0 rfl) ?_
  refine va_get (D := (dC, dI)) (ci := 8) (v := .ref h_t_book) (C := RX10) (T := TX10) (N := 32) hx hb hts (in1 tw_X10) hown hK hP 0 rfl rfl 0 (by decide) (hts _ (List.mem_cons_of_mem _ kw_116)) (fun _ h9 => h9) rfl dX10_cliffAt_1 ?_
  refine lv_sipush (v := (220 : Int32)) hx hb dX10_cliffAt_4 (by decide) ?_
  refine lv_iconst (v := (2 : Int32)) hx hb dX10_cliffAt_7 (by decide) ?_
  refine lv_iload_n hx hb dX10_cliffAt_8 rfl (lv_at hl 1 rfl) ?_
  refine lv_imul hx hb dX10_cliffAt_9 ?_
  refine lv_iadd hx hb dX10_cliffAt_10 ?_
  refine lv_iload_n hx hb dX10_cliffAt_11 rfl (lv_at hl 2 rfl) ?_
  refine lv_iadd hx hb dX10_cliffAt_12 ?_
  obtain ⟨g1, hf⟩ := chk_some hf
  refine va_iald hx hb hK hP 1 0 rfl rfl (gin_in g1) dX10_cliffAt_13 ?_
  obtain rfl := inj1 hf
  subst hQ
  exact CM_iret hx hb hr rfl hlocks hAe hP hD hS dX10_cliffAt_14
def rmX10_boulderAt : Room := { frames := 0, cells := 0, slots := 0, locals := 0 }
abbrev wqX10_boulderAt : List Cond := Cond.code yX10_boulderAt cX10_boulderAt 3 (some .int) :: tG
set_option maxHeartbeats 4000000 in
set_option maxRecDepth 100000 in
theorem c_X10_boulderAt (l : Launch) (dC : Nat → ClassId) (dI : Nat → Nat → Nat) (cI cZ : ClassId) (te : Nat → Nat) (h_t : Nat) (h_t_book : Nat) (h_t_images : Nat) (h_t_kept : Nat) (h_t_aside : Nat) (h_t_far : Nat) (h_t_then : Nat) (h_t_row : Nat) (h_t_mays : Nat) (h_t_firstRow : Nat) (h_t_low : Nat) (h_t_high : Nat) (h_t_lowOne : Nat) (h_t_highOne : Nat) (h_t_ways : Nat) (h_t_left : Nat) (h_t_text : Nat) (h_t_verbs : Nat) (h_t_nums : Nat) (t_noOlder : Int32) (t_thanThis : Int32) (t_known : Int32) (t_knownAge : Int32) (t_moved : Int32) (t_met : Int32) (t_hours : Int32) (t_greatest : Int32) (t_typed : Int32) (t_at : Int32) (t_start : Int32) (t_token : Int32) (t_value : Int32) (t_items : Int32) (t_book : Nat → Int32) (p1 : Int32) (p2 : Int32) (o0 : Int32) (hf : f_X10_boulderAt t_book p1 p2 = some o0) : CM l yX10_boulderAt wqX10_boulderAt rmX10_boulderAt (kS te) dC dI cI cZ [.ref h_t, .int p1, .int p2] [(h_t, .inr (8, fX10 h_t_book h_t_images h_t_kept h_t_aside h_t_far h_t_then h_t_row h_t_mays h_t_firstRow h_t_low h_t_high t_noOlder t_thanThis t_known t_knownAge t_moved h_t_lowOne h_t_highOne h_t_ways t_met h_t_left t_hours t_greatest h_t_text t_typed t_at t_start t_token t_value h_t_verbs h_t_nums t_items)), (h_t_book, .inl (cI, 460, .inl t_book))] [(h_t, .inr (8, fX10 h_t_book h_t_images h_t_kept h_t_aside h_t_far h_t_then h_t_row h_t_mays h_t_firstRow h_t_low h_t_high t_noOlder t_thanThis t_known t_knownAge t_moved h_t_lowOne h_t_highOne h_t_ways t_met h_t_left t_hours t_greatest h_t_text t_typed t_at t_start t_token t_value h_t_verbs h_t_nums t_items)), (h_t_book, .inl (cI, 460, .inl t_book))] (some (.int o0)) := by
  refine CM_of (cc := cX10_boulderAt) (maxL := 3) (ret := (some .int)) (by decide +kernel) rfl (Nat.le_of_ble_eq_true rfl) ?_
  intro p e s m args below meth c A Q hx hb hr hml hown hts hlocks hA hK hP hD hS hE hQ hAe ls hl
  have hown : s.vm.findClass RX10 = some m.cls := hown
  have hl : lv_has ls 3 [(0, .ref h_t), (1, .int p1), (2, .int p2)] := hl
  unfold f_X10_boulderAt at hf
  refine lv_aload_n hx hb dX10_boulderAt_0 rfl (lv_at hl 0 rfl) ?_
  refine va_get (D := (dC, dI)) (ci := 8) (v := .ref h_t_book) (C := RX10) (T := TX10) (N := 32) hx hb hts (in1 tw_X10) hown hK hP 0 rfl rfl 0 (by decide) (hts _ (List.mem_cons_of_mem _ kw_116)) (fun _ h9 => h9) rfl dX10_boulderAt_1 ?_
  refine lv_sipush (v := (240 : Int32)) hx hb dX10_boulderAt_4 (by decide) ?_
  refine lv_iconst (v := (2 : Int32)) hx hb dX10_boulderAt_7 (by decide) ?_
  refine lv_iload_n hx hb dX10_boulderAt_8 rfl (lv_at hl 1 rfl) ?_
  refine lv_imul hx hb dX10_boulderAt_9 ?_
  refine lv_iadd hx hb dX10_boulderAt_10 ?_
  refine lv_iload_n hx hb dX10_boulderAt_11 rfl (lv_at hl 2 rfl) ?_
  refine lv_iadd hx hb dX10_boulderAt_12 ?_
  obtain ⟨g1, hf⟩ := chk_some hf
  refine va_iald hx hb hK hP 1 0 rfl rfl (gin_in g1) dX10_boulderAt_13 ?_
  obtain rfl := inj1 hf
  subst hQ
  exact CM_iret hx hb hr rfl hlocks hAe hP hD hS dX10_boulderAt_14
