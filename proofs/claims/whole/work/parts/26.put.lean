/-! ===== area, zone, ridge, put, count, clear, type ===== -/
theorem q_area : PP_area INV := by
  intro xi xa mi ma hI p1 p2
  have bad : ∃ (r : Int32) (o0 q0 : Nat → Int32), some ((-2 : Int32), xa 7) = some (r, o0) ∧ some ((-2 : Int32), ma 0) = some (r, q0) ∧ INV xi (va_up xa 7 o0) mi (va_up ma 0 q0) := ⟨_, _, _, rfl, rfl, by rw [va_id, va_id]; exact hI⟩
  unfold f_X9_area f_X10_area f_X9_isLevel
  simp only [in_0_1, in_0_2, in_0_5, in_0_6, in_0_7, in_0_15, in_0_19, in_0_20, in_0_39, in_0_60, in_0_63, in_0_99, in_0_999, in_1_8, in_1_9, in_1_20, in_1_300, in_1_999, in_50, in_0y, in_1y, in_x99, in_x999, within_eq, X_isStage, X_isPlace, M_isStage, M_isPlace, bd1_s, bI_0, chk_gz_bI]
  by_cases c1 : (0 : Int32) ≤ p1 ∧ p1 ≤ 19
  · by_cases c2 : (0 : Int32) ≤ p2 ∧ p2 ≤ 999
    · simp only [if_neg (not_not_intro c1), if_neg (not_not_intro c2)]
      obtain ⟨a, ha, rfl⟩ := rng 19 (by decide) c1
      obtain ⟨b, hb, rfl⟩ := rng 999 (by decide) c2
      obtain ⟨nc, nb, nd, nr, nf, ng, h1, h2, h3, h4, h5, h6, h7, h8, h9, h10, h11, h12⟩ := FB_now hI
      have q := h2.1
      have e5 : (410 : Int32) + nI a = nI (410 + a) := nI_add 410 a
      rw [e5, exch _ _ _ _ (by omega) (by decide), sets_eq _ _ _ (by omega), bd2_s, bd2_s]
      refine ⟨xa 7 a, upd (xa 7) a (nI b), upd (ma 0) (410 + a) (nI b), rfl, by rw [(h11 a (by omega)).1], INV_now hI ⟨nc, nb, nd, nr, nf, ng, h1, CNT_c h2 (fun k hk => upd_n _ _ (by omega)), h3, B_su_c h4 (fun k hk => upd_n _ _ (by omega)), B_two_c h5 (fun k a b => upd_n _ _ (by omega)), B_two_c h6 (fun k a b => upd_n _ _ (by omega)), B_two_c h7 (fun k a b => upd_n _ _ (by omega)), B_nu_c h8 (fun k a b => upd_n _ _ (by omega)), B_fa_c h9 (fun k a b => upd_n _ _ (by omega)), B_si_c h10 (fun k a b => upd_n _ _ (by omega)), ?_, ?_⟩ (fun k hk => rfl) (fun k hk => va_up_ne _ _ (by omega)) (fun k hk => va_up_ne _ _ (by omega))⟩
      · intro j hj
        by_cases c : j = a
        · subst c
          simp only [va_up_self, upd_s]
          exact ⟨trivial, isN.of hb⟩
        · simp (disch := omega) only [va_up_self, upd_n]
          exact h11 j hj
      · exact B_he_c h12 (fun k a => upd_n _ _ (by omega))
    · simp only [if_neg (not_not_intro c1), if_pos c2]
      exact bad
  · simp only [if_pos c1]
    exact bad
theorem q_zone : PP_zone INV := by
  intro xi xa mi ma hI p1 p2
  have bad : ∃ (r : Int32) (o0 q0 : Nat → Int32), some ((-2 : Int32), xa 8) = some (r, o0) ∧ some ((-2 : Int32), ma 0) = some (r, q0) ∧ INV xi (va_up xa 8 o0) mi (va_up ma 0 q0) := ⟨_, _, _, rfl, rfl, by rw [va_id, va_id]; exact hI⟩
  unfold f_X9_zone f_X10_zone f_X9_isZone f_X9_isWarmth
  simp only [in_0_1, in_0_2, in_0_5, in_0_6, in_0_7, in_0_15, in_0_19, in_0_20, in_0_39, in_0_60, in_0_63, in_0_99, in_0_999, in_1_8, in_1_9, in_1_20, in_1_300, in_1_999, in_50, in_0y, in_1y, in_x99, in_x999, within_eq, X_isStage, X_isPlace, M_isStage, M_isPlace, bd1_s, bI_0, chk_gz_bI]
  by_cases c1 : (0 : Int32) ≤ p1 ∧ p1 ≤ 20
  · by_cases c2 : (0 : Int32) ≤ p2 ∧ p2 ≤ 60
    · simp only [if_neg (not_not_intro c1), if_neg (not_not_intro c2)]
      obtain ⟨a, ha, rfl⟩ := rng 20 (by decide) c1
      obtain ⟨b, hb, rfl⟩ := rng 60 (by decide) c2
      obtain ⟨nc, nb, nd, nr, nf, ng, h1, h2, h3, h4, h5, h6, h7, h8, h9, h10, h11, h12⟩ := FB_now hI
      have q := h2.1
      have e5 : (430 : Int32) + nI a = nI (430 + a) := nI_add 430 a
      rw [e5, exch _ _ _ _ (by omega) (by decide), sets_eq _ _ _ (by omega), bd2_s, bd2_s]
      refine ⟨xa 8 a, upd (xa 8) a (nI b), upd (ma 0) (430 + a) (nI b), rfl, by rw [(h12 a (by omega)).1], INV_now hI ⟨nc, nb, nd, nr, nf, ng, h1, CNT_c h2 (fun k hk => upd_n _ _ (by omega)), h3, B_su_c h4 (fun k hk => upd_n _ _ (by omega)), B_two_c h5 (fun k a b => upd_n _ _ (by omega)), B_two_c h6 (fun k a b => upd_n _ _ (by omega)), B_two_c h7 (fun k a b => upd_n _ _ (by omega)), B_nu_c h8 (fun k a b => upd_n _ _ (by omega)), B_fa_c h9 (fun k a b => upd_n _ _ (by omega)), B_si_c h10 (fun k a b => upd_n _ _ (by omega)), ?_, ?_⟩ (fun k hk => rfl) (fun k hk => va_up_ne _ _ (by omega)) (fun k hk => va_up_ne _ _ (by omega))⟩
      · exact B_ar_c h11 (fun k a => upd_n _ _ (by omega))
      · intro j hj
        by_cases c : j = a
        · subst c
          simp only [va_up_self, upd_s]
          exact ⟨trivial, isN.of hb⟩
        · simp (disch := omega) only [va_up_self, upd_n]
          exact h12 j hj
    · simp only [if_neg (not_not_intro c1), if_pos c2]
      exact bad
  · simp only [if_pos c1]
    exact bad
theorem OKf_m {nr nr' : Nat} {g : Nat → Int32} (h : OKf nr g) (hn : nr ≤ nr') : OKf nr' g := by
  obtain ⟨h1, h2, ⟨h3, h4⟩, h5, h6, h7, h8⟩ := h
  exact ⟨h1, h2, ⟨h3, by omega⟩, h5, h6, fun z => ⟨by have := (h7 z).1; omega, (h7 z).2⟩, h8⟩
theorem q_ridge : PP_ridge INV := by
  intro xi xa mi ma hI _
  obtain ⟨nc, nb, nd, nr, nf, ng, h1, h2, h3, h4, h5, h6, h7, h8, h9, h10, h11, h12⟩ := FB_now hI
  obtain ⟨⟨n1, n2, n3, n4, n5, n6⟩, k0, k1, k2, k3, k4, k5⟩ := h2
  obtain ⟨s1, s2, s3, s4, s5, s6⟩ := h3
  by_cases c : nr < 8
  · refine ⟨nI nr, nI (nr + 1), upd (ma 0) 3 (nI (nr + 1)), ?_, ?_, INV_now hI ⟨nc, nb, nd, nr + 1, nf, ng, h1, ⟨⟨n1, n2, n3, by omega, n5, n6⟩, ?_, ?_, ?_, ?_, ?_, ?_⟩, ⟨s1, s2, s3, rfl, s5, s6⟩, B_su_c h4 (fun k hk => upd_n _ _ (by omega)), B_two_c h5 (fun k a b => upd_n _ _ (by omega)), B_two_c h6 (fun k a b => upd_n _ _ (by omega)), B_two_c h7 (fun k a b => upd_n _ _ (by omega)), B_nu_c h8 (fun k a b => upd_n _ _ (by omega)), fun i hi => ⟨?_, OKf_m (nr := nr) ?_ (by omega)⟩, B_si_c h10 (fun k a b => upd_n _ _ (by omega)), B_ar_c h11 (fun k a => upd_n _ _ (by omega)), B_he_c h12 (fun k a => upd_n _ _ (by omega))⟩ (fun k hk => va_up_ne _ _ (by omega)) (fun k hk => rfl) (fun k hk => va_up_ne _ _ (by omega))⟩
    · unfold f_X9_ridge
      rw [s4]
      simp (disch := omega) only [↓lm1, ln0, ln1, ln2, ln3, ln4, ln5, ln6, ln7, ln8, ln9, ln10, ln11, ln12, ln13, ln14, ln15, ln16, ln17, ln18, ln19, ln20, ln21, ln22, ln26, ln30, ln31, ln32, ln36, ln39, ln40, ln48, ln50, ln59, ln60, ln61, ln63, ln64, ln80, ln97, ln99, ln100, ln103, ln122, ln192, ln220, ln240, ln255, ln260, ln290, ln300, ln370, ln410, ln430, ln460, ln920, ln960, ln999, ln1000, ln2000, ln26880, ln1000000, ofNat_nI, nI_add, pk_mul, pk_sub, nI_leP, nI_ltP, nI_eqP, nI_clamp, gin_n, chk_t, nm_s, bd1_s, bd2_s, bd3_s, bd4_s, bI_n0, bI_1, chk_gz_bI, if_pos, if_neg, if_true, if_false, ite_some, nI_m1, m1_nI, m1_le, le_m1, m1_lt, lt_m1, m1_1, n_m1, n0_m1, m1_m1, not_true_eq_false, not_false_eq_true]
    · unfold f_X10_ridge
      simp (disch := omega) only [↓lm1, ln0, ln1, ln2, ln3, ln4, ln5, ln6, ln7, ln8, ln9, ln10, ln11, ln12, ln13, ln14, ln15, ln16, ln17, ln18, ln19, ln20, ln21, ln22, ln26, ln30, ln31, ln32, ln36, ln39, ln40, ln48, ln50, ln59, ln60, ln61, ln63, ln64, ln80, ln97, ln99, ln100, ln103, ln122, ln192, ln220, ln240, ln255, ln260, ln290, ln300, ln370, ln410, ln430, ln460, ln920, ln960, ln999, ln1000, ln2000, ln26880, ln1000000, ofNat_nI, nI_add, pk_mul, pk_sub, nI_leP, nI_ltP, nI_eqP, nI_clamp, gin_n, chk_t, nm_s, bd1_s, bd2_s, bd3_s, bd4_s, bI_n0, bI_1, chk_gz_bI, if_pos, if_neg, if_true, if_false, ite_some, nI_m1, m1_nI, m1_le, le_m1, m1_lt, lt_m1, m1_1, n_m1, n0_m1, m1_m1, not_true_eq_false, not_false_eq_true, k3, upd_s, Nat.add_sub_cancel]
    · simp (disch := omega) only [va_up_self, upd_n, k0]
    · simp (disch := omega) only [va_up_self, upd_n, k1]
    · simp (disch := omega) only [va_up_self, upd_n, k2]
    · simp only [va_up_self, upd_s]
    · simp (disch := omega) only [va_up_self, upd_n, k4]
    · simp (disch := omega) only [va_up_self, upd_n, k5]
    · intro j hj
      simp (disch := omega) only [va_up_self, upd_n]
      exact (h9 i hi).1 j hj
    · simp (disch := omega) only [va_up_self, upd_n]
      exact (h9 i hi).2
  · have e : nr = 8 := by omega
    subst e
    refine ⟨-4, nI 8, ma 0, ?_, ?_, ?_⟩
    · unfold f_X9_ridge
      rw [s4]
      simp (disch := omega) only [↓lm1, ln0, ln1, ln2, ln3, ln4, ln5, ln6, ln7, ln8, ln9, ln10, ln11, ln12, ln13, ln14, ln15, ln16, ln17, ln18, ln19, ln20, ln21, ln22, ln26, ln30, ln31, ln32, ln36, ln39, ln40, ln48, ln50, ln59, ln60, ln61, ln63, ln64, ln80, ln97, ln99, ln100, ln103, ln122, ln192, ln220, ln240, ln255, ln260, ln290, ln300, ln370, ln410, ln430, ln460, ln920, ln960, ln999, ln1000, ln2000, ln26880, ln1000000, ofNat_nI, nI_add, pk_mul, pk_sub, nI_leP, nI_ltP, nI_eqP, nI_clamp, gin_n, chk_t, nm_s, bd1_s, bd2_s, bd3_s, bd4_s, bI_n0, bI_1, chk_gz_bI, if_pos, if_neg, if_true, if_false, ite_some, nI_m1, m1_nI, m1_le, le_m1, m1_lt, lt_m1, m1_1, n_m1, n0_m1, m1_m1, not_true_eq_false, not_false_eq_true]
    · unfold f_X10_ridge
      simp (disch := omega) only [↓lm1, ln0, ln1, ln2, ln3, ln4, ln5, ln6, ln7, ln8, ln9, ln10, ln11, ln12, ln13, ln14, ln15, ln16, ln17, ln18, ln19, ln20, ln21, ln22, ln26, ln30, ln31, ln32, ln36, ln39, ln40, ln48, ln50, ln59, ln60, ln61, ln63, ln64, ln80, ln97, ln99, ln100, ln103, ln122, ln192, ln220, ln240, ln255, ln260, ln290, ln300, ln370, ln410, ln430, ln460, ln920, ln960, ln999, ln1000, ln2000, ln26880, ln1000000, ofNat_nI, nI_add, pk_mul, pk_sub, nI_leP, nI_ltP, nI_eqP, nI_clamp, gin_n, chk_t, nm_s, bd1_s, bd2_s, bd3_s, bd4_s, bI_n0, bI_1, chk_gz_bI, if_pos, if_neg, if_true, if_false, ite_some, nI_m1, m1_nI, m1_le, le_m1, m1_lt, lt_m1, m1_1, n_m1, n0_m1, m1_m1, not_true_eq_false, not_false_eq_true, k3]
    · rw [va_id, show va_up xi 2 (nI 8) = xi from by rw [← s4, va_id]]
      exact hI
theorem mayPut_lo (nu : Nat → Int32) (w : Nat) (p : Int32) (hw : w < 4) : f_X1_mayPut nu (nI w) p = some (bI (tb2 w ≤ p ∧ p ≤ tb3 w)) := by
  unfold f_X1_mayPut
  simp (disch := omega) only [↓lm1, ln0, ln1, ln2, ln3, ln4, ln5, ln6, ln7, ln8, ln9, ln10, ln11, ln12, ln13, ln14, ln15, ln16, ln17, ln18, ln19, ln20, ln21, ln22, ln26, ln30, ln31, ln32, ln36, ln39, ln40, ln48, ln50, ln59, ln60, ln61, ln63, ln64, ln80, ln97, ln99, ln100, ln103, ln122, ln192, ln220, ln240, ln255, ln260, ln290, ln300, ln370, ln410, ln430, ln460, ln920, ln960, ln999, ln1000, ln2000, ln26880, ln1000000, ofNat_nI, nI_add, pk_mul, pk_sub, nI_leP, nI_ltP, nI_eqP, nI_clamp, gin_n, chk_t, nm_s, bd1_s, bd2_s, bd3_s, bd4_s, bI_n0, bI_1, chk_gz_bI, if_pos, if_neg, if_true, if_false, ite_some, nI_m1, m1_nI, m1_le, le_m1, m1_lt, lt_m1, m1_1, n_m1, n0_m1, m1_m1, not_true_eq_false, not_false_eq_true]
  by_cases c1 : p < tb2 w
  · rw [if_pos c1, bI_f (fun h => absurd h.1 (Int32.not_le.mpr c1))]; rfl
  · rw [if_neg c1]
    by_cases c2 : p ≤ tb3 w
    · rw [if_pos c2, bI_t ⟨Int32.not_lt.mp c1, c2⟩]; rfl
    · rw [if_neg c2, bI_f (fun h => absurd h.2 c2)]; rfl
theorem mayPut_4 (nu : Nat → Int32) (f : Nat) (p : Int32) (hf : nu 5 = nI f) (hf2 : f ≤ 99) : f_X1_mayPut nu (nI 4) p = some (bI (1 ≤ p ∧ p ≤ nu 5)) := by
  by_cases cc : 1 ≤ p ∧ p ≤ nu 5
  · rw [bI_t cc]
    have a1 : ¬ p < tb2 4 := Int32.not_lt.mpr cc.1
    have a2 : p ≤ tb3 4 := Int32.le_trans cc.2 (by rw [hf]; exact nI_le (b := 99) hf2 (by decide))
    have a3 : ¬ nu 5 < p := Int32.not_lt.mpr cc.2
    unfold f_X1_mayPut
    simp (disch := omega) only [↓lm1, ln0, ln1, ln2, ln3, ln4, ln5, ln6, ln7, ln8, ln9, ln10, ln11, ln12, ln13, ln14, ln15, ln16, ln17, ln18, ln19, ln20, ln21, ln22, ln26, ln30, ln31, ln32, ln36, ln39, ln40, ln48, ln50, ln59, ln60, ln61, ln63, ln64, ln80, ln97, ln99, ln100, ln103, ln122, ln192, ln220, ln240, ln255, ln260, ln290, ln300, ln370, ln410, ln430, ln460, ln920, ln960, ln999, ln1000, ln2000, ln26880, ln1000000, ofNat_nI, nI_add, pk_mul, pk_sub, nI_leP, nI_ltP, nI_eqP, nI_clamp, gin_n, chk_t, nm_s, bd1_s, bd2_s, bd3_s, bd4_s, bI_n0, bI_1, chk_gz_bI, if_pos, if_neg, if_true, if_false, ite_some, nI_m1, m1_nI, m1_le, le_m1, m1_lt, lt_m1, m1_1, n_m1, n0_m1, m1_m1, not_true_eq_false, not_false_eq_true, a1, a2, a3]
  · rw [bI_f cc]
    unfold f_X1_mayPut
    by_cases c1 : p < tb2 4
    · simp (disch := omega) only [↓lm1, ln0, ln1, ln2, ln3, ln4, ln5, ln6, ln7, ln8, ln9, ln10, ln11, ln12, ln13, ln14, ln15, ln16, ln17, ln18, ln19, ln20, ln21, ln22, ln26, ln30, ln31, ln32, ln36, ln39, ln40, ln48, ln50, ln59, ln60, ln61, ln63, ln64, ln80, ln97, ln99, ln100, ln103, ln122, ln192, ln220, ln240, ln255, ln260, ln290, ln300, ln370, ln410, ln430, ln460, ln920, ln960, ln999, ln1000, ln2000, ln26880, ln1000000, ofNat_nI, nI_add, pk_mul, pk_sub, nI_leP, nI_ltP, nI_eqP, nI_clamp, gin_n, chk_t, nm_s, bd1_s, bd2_s, bd3_s, bd4_s, bI_n0, bI_1, chk_gz_bI, if_pos, if_neg, if_true, if_false, ite_some, nI_m1, m1_nI, m1_le, le_m1, m1_lt, lt_m1, m1_1, n_m1, n0_m1, m1_m1, not_true_eq_false, not_false_eq_true, c1]
    · by_cases c2 : p ≤ tb3 4
      · have c3 : nu 5 < p := Int32.not_le.mp (fun z => cc ⟨Int32.not_lt.mp c1, z⟩)
        simp (disch := omega) only [↓lm1, ln0, ln1, ln2, ln3, ln4, ln5, ln6, ln7, ln8, ln9, ln10, ln11, ln12, ln13, ln14, ln15, ln16, ln17, ln18, ln19, ln20, ln21, ln22, ln26, ln30, ln31, ln32, ln36, ln39, ln40, ln48, ln50, ln59, ln60, ln61, ln63, ln64, ln80, ln97, ln99, ln100, ln103, ln122, ln192, ln220, ln240, ln255, ln260, ln290, ln300, ln370, ln410, ln430, ln460, ln920, ln960, ln999, ln1000, ln2000, ln26880, ln1000000, ofNat_nI, nI_add, pk_mul, pk_sub, nI_leP, nI_ltP, nI_eqP, nI_clamp, gin_n, chk_t, nm_s, bd1_s, bd2_s, bd3_s, bd4_s, bI_n0, bI_1, chk_gz_bI, if_pos, if_neg, if_true, if_false, ite_some, nI_m1, m1_nI, m1_le, le_m1, m1_lt, lt_m1, m1_1, n_m1, n0_m1, m1_m1, not_true_eq_false, not_false_eq_true, c1, c2, c3]
      · simp (disch := omega) only [↓lm1, ln0, ln1, ln2, ln3, ln4, ln5, ln6, ln7, ln8, ln9, ln10, ln11, ln12, ln13, ln14, ln15, ln16, ln17, ln18, ln19, ln20, ln21, ln22, ln26, ln30, ln31, ln32, ln36, ln39, ln40, ln48, ln50, ln59, ln60, ln61, ln63, ln64, ln80, ln97, ln99, ln100, ln103, ln122, ln192, ln220, ln240, ln255, ln260, ln290, ln300, ln370, ln410, ln430, ln460, ln920, ln960, ln999, ln1000, ln2000, ln26880, ln1000000, ofNat_nI, nI_add, pk_mul, pk_sub, nI_leP, nI_ltP, nI_eqP, nI_clamp, gin_n, chk_t, nm_s, bd1_s, bd2_s, bd3_s, bd4_s, bI_n0, bI_1, chk_gz_bI, if_pos, if_neg, if_true, if_false, ite_some, nI_m1, m1_nI, m1_le, le_m1, m1_lt, lt_m1, m1_1, n_m1, n0_m1, m1_m1, not_true_eq_false, not_false_eq_true, c1, c2]
theorem mayPut_5 (nu : Nat → Int32) (f : Nat) (p : Int32) (hf : nu 4 = nI f) (hf2 : 1 ≤ f) (hf3 : f ≤ 99) : f_X1_mayPut nu (nI 5) p = some (bI (nu 4 ≤ p ∧ p ≤ 99)) := by
  by_cases cc : nu 4 ≤ p ∧ p ≤ 99
  · rw [bI_t cc]
    have a1 : ¬ p < tb2 5 := Int32.not_lt.mpr (Int32.le_trans (show (1 : Int32) ≤ nu 4 from by rw [hf]; exact nI_le (a := 1) hf2 (by omega)) cc.1)
    have a2 : p ≤ tb3 5 := cc.2
    have a3 : ¬ p < nu 4 := Int32.not_lt.mpr cc.1
    unfold f_X1_mayPut
    simp (disch := omega) only [↓lm1, ln0, ln1, ln2, ln3, ln4, ln5, ln6, ln7, ln8, ln9, ln10, ln11, ln12, ln13, ln14, ln15, ln16, ln17, ln18, ln19, ln20, ln21, ln22, ln26, ln30, ln31, ln32, ln36, ln39, ln40, ln48, ln50, ln59, ln60, ln61, ln63, ln64, ln80, ln97, ln99, ln100, ln103, ln122, ln192, ln220, ln240, ln255, ln260, ln290, ln300, ln370, ln410, ln430, ln460, ln920, ln960, ln999, ln1000, ln2000, ln26880, ln1000000, ofNat_nI, nI_add, pk_mul, pk_sub, nI_leP, nI_ltP, nI_eqP, nI_clamp, gin_n, chk_t, nm_s, bd1_s, bd2_s, bd3_s, bd4_s, bI_n0, bI_1, chk_gz_bI, if_pos, if_neg, if_true, if_false, ite_some, nI_m1, m1_nI, m1_le, le_m1, m1_lt, lt_m1, m1_1, n_m1, n0_m1, m1_m1, not_true_eq_false, not_false_eq_true, a1, a2, a3]
  · rw [bI_f cc]
    unfold f_X1_mayPut
    by_cases c1 : p < tb2 5
    · simp (disch := omega) only [↓lm1, ln0, ln1, ln2, ln3, ln4, ln5, ln6, ln7, ln8, ln9, ln10, ln11, ln12, ln13, ln14, ln15, ln16, ln17, ln18, ln19, ln20, ln21, ln22, ln26, ln30, ln31, ln32, ln36, ln39, ln40, ln48, ln50, ln59, ln60, ln61, ln63, ln64, ln80, ln97, ln99, ln100, ln103, ln122, ln192, ln220, ln240, ln255, ln260, ln290, ln300, ln370, ln410, ln430, ln460, ln920, ln960, ln999, ln1000, ln2000, ln26880, ln1000000, ofNat_nI, nI_add, pk_mul, pk_sub, nI_leP, nI_ltP, nI_eqP, nI_clamp, gin_n, chk_t, nm_s, bd1_s, bd2_s, bd3_s, bd4_s, bI_n0, bI_1, chk_gz_bI, if_pos, if_neg, if_true, if_false, ite_some, nI_m1, m1_nI, m1_le, le_m1, m1_lt, lt_m1, m1_1, n_m1, n0_m1, m1_m1, not_true_eq_false, not_false_eq_true, c1]
    · by_cases c2 : p ≤ tb3 5
      · have c3 : p < nu 4 := Int32.not_le.mp (fun z => cc ⟨z, c2⟩)
        simp (disch := omega) only [↓lm1, ln0, ln1, ln2, ln3, ln4, ln5, ln6, ln7, ln8, ln9, ln10, ln11, ln12, ln13, ln14, ln15, ln16, ln17, ln18, ln19, ln20, ln21, ln22, ln26, ln30, ln31, ln32, ln36, ln39, ln40, ln48, ln50, ln59, ln60, ln61, ln63, ln64, ln80, ln97, ln99, ln100, ln103, ln122, ln192, ln220, ln240, ln255, ln260, ln290, ln300, ln370, ln410, ln430, ln460, ln920, ln960, ln999, ln1000, ln2000, ln26880, ln1000000, ofNat_nI, nI_add, pk_mul, pk_sub, nI_leP, nI_ltP, nI_eqP, nI_clamp, gin_n, chk_t, nm_s, bd1_s, bd2_s, bd3_s, bd4_s, bI_n0, bI_1, chk_gz_bI, if_pos, if_neg, if_true, if_false, ite_some, nI_m1, m1_nI, m1_le, le_m1, m1_lt, lt_m1, m1_1, n_m1, n0_m1, m1_m1, not_true_eq_false, not_false_eq_true, c1, c2, c3]
      · simp (disch := omega) only [↓lm1, ln0, ln1, ln2, ln3, ln4, ln5, ln6, ln7, ln8, ln9, ln10, ln11, ln12, ln13, ln14, ln15, ln16, ln17, ln18, ln19, ln20, ln21, ln22, ln26, ln30, ln31, ln32, ln36, ln39, ln40, ln48, ln50, ln59, ln60, ln61, ln63, ln64, ln80, ln97, ln99, ln100, ln103, ln122, ln192, ln220, ln240, ln255, ln260, ln290, ln300, ln370, ln410, ln430, ln460, ln920, ln960, ln999, ln1000, ln2000, ln26880, ln1000000, ofNat_nI, nI_add, pk_mul, pk_sub, nI_leP, nI_ltP, nI_eqP, nI_clamp, gin_n, chk_t, nm_s, bd1_s, bd2_s, bd3_s, bd4_s, bI_n0, bI_1, chk_gz_bI, if_pos, if_neg, if_true, if_false, ite_some, nI_m1, m1_nI, m1_le, le_m1, m1_lt, lt_m1, m1_1, n_m1, n0_m1, m1_m1, not_true_eq_false, not_false_eq_true, c1, c2]
theorem q_put : PP_put INV := by
  intro xi xa mi ma hI p1 p2
  have bad : ∃ (r : Int32) (o0 q0 : Nat → Int32), some ((-2 : Int32), xa 4) = some (r, o0) ∧ some ((-2 : Int32), ma 0) = some (r, q0) ∧ INV xi (va_up xa 4 o0) mi (va_up ma 0 q0) := ⟨_, _, _, rfl, rfl, by rw [va_id, va_id]; exact hI⟩
  obtain ⟨nc, nb, nd, nr, nf, ng, h1, h2, h3, h4, h5, h6, h7, h8, h9, h10, h11, h12⟩ := FB_now hI
  have q := h2.1
  obtain ⟨e0, b6, b7, b8, b9, b10, b11⟩ := h8
  have key : ∀ (w v : Nat), w < 6 → B_nu (upd (xa 4) w (nI v)) (upd (ma 0) (6 + w) (nI v)) → INV xi (va_up xa 4 (upd (xa 4) w (nI v))) mi (va_up ma 0 (upd (ma 0) (6 + w) (nI v))) := fun w v hw hB => INV_now hI ⟨nc, nb, nd, nr, nf, ng, h1, CNT_c h2 (fun k hk => upd_n _ _ (by omega)), h3, B_su_c h4 (fun k hk => upd_n _ _ (by omega)), B_two_c h5 (fun k a b => upd_n _ _ (by omega)), B_two_c h6 (fun k a b => upd_n _ _ (by omega)), B_two_c h7 (fun k a b => upd_n _ _ (by omega)), hB, B_fa_c h9 (fun k a b => upd_n _ _ (by omega)), B_si_c h10 (fun k a b => upd_n _ _ (by omega)), B_ar_c h11 (fun k a => upd_n _ _ (by omega)), B_he_c h12 (fun k a => upd_n _ _ (by omega))⟩ (fun k hk => rfl) (fun k hk => va_up_ne _ _ (by omega)) (fun k hk => va_up_ne _ _ (by omega))
  have fin : ∀ (w v : Nat), w < 6 → B_nu (upd (xa 4) w (nI v)) (upd (ma 0) (6 + w) (nI v)) → ∃ (r : Int32) (o0 q0 : Nat → Int32), bd2 (f_X9_exchange 6 (xa 4) (nI w) (nI v)) (fun r4 y5 => some (r4, y5)) = some (r, o0) ∧ bd2 (f_X10_sets (ma 0) (6 + nI w) (nI v)) (fun r4 y5 => some (r4, y5)) = some (r, q0) ∧ INV xi (va_up xa 4 o0) mi (va_up ma 0 q0) := by
    intro w v hw hB
    rw [show (6 : Int32) + nI w = nI (6 + w) from nI_add 6 w, exch _ _ _ _ hw (by decide), sets_eq _ _ _ (by omega), bd2_s, bd2_s]
    exact ⟨xa 4 w, _, _, rfl, by rw [e0 w hw], key w v hw hB⟩
  have hB0 : ∀ (w v : Nat), w < 6 → ∀ i, i < 6 → upd (xa 4) w (nI v) i = upd (ma 0) (6 + w) (nI v) (6 + i) := by
    intro w v hw i hi
    by_cases c : i = w
    · subst c; rw [upd_s, upd_s]
    · rw [upd_n _ _ c, upd_n _ _ (by omega)]; exact e0 i hi
  unfold f_X9_put f_X10_put
  rcases rc p1 5 (by decide) with ⟨w, hw, rfl⟩ | c
  · obtain ⟨f, f1, f2⟩ := b11.1
    obtain ⟨s, s1, s2⟩ := b10.1
    have f3 : xa 4 5 = nI f := by rw [e0 5 (by omega), f2]
    have s3 : xa 4 4 = nI s := by rw [e0 4 (by omega), s2]
    have sf : 1 ≤ s ∧ s ≤ f := by
      have a1 := b11.2
      have a2 := b10.2
      rw [s2, vN_n (by omega)] at a2
      rw [f2, s2, vN_n (by omega), vN_n (by omega)] at a1
      omega
    have hsN : vN (ma 0 10) = s := by rw [s2, vN_n (by omega)]
    have hfN : vN (ma 0 11) = f := by rw [f2, vN_n (by omega)]
    have cs : w = 0 ∨ w = 1 ∨ w = 2 ∨ w = 3 ∨ w = 4 ∨ w = 5 := by omega
    rcases cs with rfl | rfl | rfl | rfl | rfl | rfl
    · have hm : f_X1_mayPut (xa 4) (nI 0) p2 = some (bI (nI 0 ≤ p2 ∧ p2 ≤ nI 7)) := by
        rw [mayPut_lo (xa 4) 0 p2 (by decide)]
        skip
        rfl
      by_cases c : nI 0 ≤ p2 ∧ p2 ≤ nI 7
      · obtain ⟨v, hv, rfl⟩ : ∃ v, v ≤ 7 ∧ p2 = nI v := rng 7 (by omega) ⟨Int32.le_trans (nI_pos' (by omega)) c.1, c.2⟩
        have c1 : 0 ≤ v := (nI_leI (by omega) (by omega)).mp c.1
        have hB : B_nu (upd (xa 4) 0 (nI v)) (upd (ma 0) (6 + 0) (nI v)) := by
          refine ⟨hB0 0 v (by decide), ?_⟩
          simp (disch := omega) only [upd_s, upd_n, vN_n, hsN, hfN]
          exact ⟨isN.of hv, b7, b8, b9, ⟨b10.1, sf.1⟩, ⟨b11.1, sf.2⟩⟩
        have hz := fin 0 v (by decide) hB
        simp only [show (6 : Int32) = nI 6 from rfl] at hz
        simp (disch := omega) only [↓lm1, ln0, ln1, ln2, ln3, ln4, ln5, ln6, ln7, ln8, ln9, ln10, ln11, ln12, ln13, ln14, ln15, ln16, ln17, ln18, ln19, ln20, ln21, ln22, ln26, ln30, ln31, ln32, ln36, ln39, ln40, ln48, ln50, ln59, ln60, ln61, ln63, ln64, ln80, ln97, ln99, ln100, ln103, ln122, ln192, ln220, ln240, ln255, ln260, ln290, ln300, ln370, ln410, ln430, ln460, ln920, ln960, ln999, ln1000, ln2000, ln26880, ln1000000, ofNat_nI, nI_add, pk_mul, pk_sub, nI_leP, nI_ltP, nI_eqP, nI_clamp, gin_n, chk_t, nm_s, bd1_s, bd2_s, bd3_s, bd4_s, bI_n0, bI_1, chk_gz_bI, if_pos, if_neg, if_true, if_false, ite_some, nI_m1, m1_nI, m1_le, le_m1, m1_lt, lt_m1, m1_1, n_m1, n0_m1, m1_m1, not_true_eq_false, not_false_eq_true, in_0_1, in_0_2, in_0_5, in_0_6, in_0_7, in_0_15, in_0_19, in_0_20, in_0_39, in_0_60, in_0_63, in_0_99, in_0_999, in_1_8, in_1_9, in_1_20, in_1_300, in_1_999, in_50, in_0y, in_1y, in_x99, in_x999, within_eq, X_isStage, X_isPlace, M_isStage, M_isPlace, hm, f3, s3, f2, s2, c]
        exact hz
      · simp (disch := omega) only [↓lm1, ln0, ln1, ln2, ln3, ln4, ln5, ln6, ln7, ln8, ln9, ln10, ln11, ln12, ln13, ln14, ln15, ln16, ln17, ln18, ln19, ln20, ln21, ln22, ln26, ln30, ln31, ln32, ln36, ln39, ln40, ln48, ln50, ln59, ln60, ln61, ln63, ln64, ln80, ln97, ln99, ln100, ln103, ln122, ln192, ln220, ln240, ln255, ln260, ln290, ln300, ln370, ln410, ln430, ln460, ln920, ln960, ln999, ln1000, ln2000, ln26880, ln1000000, ofNat_nI, nI_add, pk_mul, pk_sub, nI_leP, nI_ltP, nI_eqP, nI_clamp, gin_n, chk_t, nm_s, bd1_s, bd2_s, bd3_s, bd4_s, bI_n0, bI_1, chk_gz_bI, if_pos, if_neg, if_true, if_false, ite_some, nI_m1, m1_nI, m1_le, le_m1, m1_lt, lt_m1, m1_1, n_m1, n0_m1, m1_m1, not_true_eq_false, not_false_eq_true, in_0_1, in_0_2, in_0_5, in_0_6, in_0_7, in_0_15, in_0_19, in_0_20, in_0_39, in_0_60, in_0_63, in_0_99, in_0_999, in_1_8, in_1_9, in_1_20, in_1_300, in_1_999, in_50, in_0y, in_1y, in_x99, in_x999, within_eq, X_isStage, X_isPlace, M_isStage, M_isPlace, hm, f3, s3, f2, s2, c]
        exact bad
    · have hm : f_X1_mayPut (xa 4) (nI 1) p2 = some (bI (nI 1 ≤ p2 ∧ p2 ≤ nI 20)) := by
        rw [mayPut_lo (xa 4) 1 p2 (by decide)]
        skip
        rfl
      by_cases c : nI 1 ≤ p2 ∧ p2 ≤ nI 20
      · obtain ⟨v, hv, rfl⟩ : ∃ v, v ≤ 20 ∧ p2 = nI v := rng 20 (by omega) ⟨Int32.le_trans (nI_pos' (by omega)) c.1, c.2⟩
        have c1 : 1 ≤ v := (nI_leI (by omega) (by omega)).mp c.1
        have hB : B_nu (upd (xa 4) 1 (nI v)) (upd (ma 0) (6 + 1) (nI v)) := by
          refine ⟨hB0 1 v (by decide), ?_⟩
          simp (disch := omega) only [upd_s, upd_n, vN_n, hsN, hfN]
          exact ⟨b6, ⟨isN.of hv, c1⟩, b8, b9, ⟨b10.1, sf.1⟩, ⟨b11.1, sf.2⟩⟩
        have hz := fin 1 v (by decide) hB
        simp only [show (6 : Int32) = nI 6 from rfl] at hz
        simp (disch := omega) only [↓lm1, ln0, ln1, ln2, ln3, ln4, ln5, ln6, ln7, ln8, ln9, ln10, ln11, ln12, ln13, ln14, ln15, ln16, ln17, ln18, ln19, ln20, ln21, ln22, ln26, ln30, ln31, ln32, ln36, ln39, ln40, ln48, ln50, ln59, ln60, ln61, ln63, ln64, ln80, ln97, ln99, ln100, ln103, ln122, ln192, ln220, ln240, ln255, ln260, ln290, ln300, ln370, ln410, ln430, ln460, ln920, ln960, ln999, ln1000, ln2000, ln26880, ln1000000, ofNat_nI, nI_add, pk_mul, pk_sub, nI_leP, nI_ltP, nI_eqP, nI_clamp, gin_n, chk_t, nm_s, bd1_s, bd2_s, bd3_s, bd4_s, bI_n0, bI_1, chk_gz_bI, if_pos, if_neg, if_true, if_false, ite_some, nI_m1, m1_nI, m1_le, le_m1, m1_lt, lt_m1, m1_1, n_m1, n0_m1, m1_m1, not_true_eq_false, not_false_eq_true, in_0_1, in_0_2, in_0_5, in_0_6, in_0_7, in_0_15, in_0_19, in_0_20, in_0_39, in_0_60, in_0_63, in_0_99, in_0_999, in_1_8, in_1_9, in_1_20, in_1_300, in_1_999, in_50, in_0y, in_1y, in_x99, in_x999, within_eq, X_isStage, X_isPlace, M_isStage, M_isPlace, hm, f3, s3, f2, s2, c]
        exact hz
      · simp (disch := omega) only [↓lm1, ln0, ln1, ln2, ln3, ln4, ln5, ln6, ln7, ln8, ln9, ln10, ln11, ln12, ln13, ln14, ln15, ln16, ln17, ln18, ln19, ln20, ln21, ln22, ln26, ln30, ln31, ln32, ln36, ln39, ln40, ln48, ln50, ln59, ln60, ln61, ln63, ln64, ln80, ln97, ln99, ln100, ln103, ln122, ln192, ln220, ln240, ln255, ln260, ln290, ln300, ln370, ln410, ln430, ln460, ln920, ln960, ln999, ln1000, ln2000, ln26880, ln1000000, ofNat_nI, nI_add, pk_mul, pk_sub, nI_leP, nI_ltP, nI_eqP, nI_clamp, gin_n, chk_t, nm_s, bd1_s, bd2_s, bd3_s, bd4_s, bI_n0, bI_1, chk_gz_bI, if_pos, if_neg, if_true, if_false, ite_some, nI_m1, m1_nI, m1_le, le_m1, m1_lt, lt_m1, m1_1, n_m1, n0_m1, m1_m1, not_true_eq_false, not_false_eq_true, in_0_1, in_0_2, in_0_5, in_0_6, in_0_7, in_0_15, in_0_19, in_0_20, in_0_39, in_0_60, in_0_63, in_0_99, in_0_999, in_1_8, in_1_9, in_1_20, in_1_300, in_1_999, in_50, in_0y, in_1y, in_x99, in_x999, within_eq, X_isStage, X_isPlace, M_isStage, M_isPlace, hm, f3, s3, f2, s2, c]
        exact bad
    · have hm : f_X1_mayPut (xa 4) (nI 2) p2 = some (bI (nI 1 ≤ p2 ∧ p2 ≤ nI 999)) := by
        rw [mayPut_lo (xa 4) 2 p2 (by decide)]
        skip
        rfl
      by_cases c : nI 1 ≤ p2 ∧ p2 ≤ nI 999
      · obtain ⟨v, hv, rfl⟩ : ∃ v, v ≤ 999 ∧ p2 = nI v := rng 999 (by omega) ⟨Int32.le_trans (nI_pos' (by omega)) c.1, c.2⟩
        have c1 : 1 ≤ v := (nI_leI (by omega) (by omega)).mp c.1
        have hB : B_nu (upd (xa 4) 2 (nI v)) (upd (ma 0) (6 + 2) (nI v)) := by
          refine ⟨hB0 2 v (by decide), ?_⟩
          simp (disch := omega) only [upd_s, upd_n, vN_n, hsN, hfN]
          exact ⟨b6, b7, ⟨isN.of hv, c1⟩, b9, ⟨b10.1, sf.1⟩, ⟨b11.1, sf.2⟩⟩
        have hz := fin 2 v (by decide) hB
        simp only [show (6 : Int32) = nI 6 from rfl] at hz
        simp (disch := omega) only [↓lm1, ln0, ln1, ln2, ln3, ln4, ln5, ln6, ln7, ln8, ln9, ln10, ln11, ln12, ln13, ln14, ln15, ln16, ln17, ln18, ln19, ln20, ln21, ln22, ln26, ln30, ln31, ln32, ln36, ln39, ln40, ln48, ln50, ln59, ln60, ln61, ln63, ln64, ln80, ln97, ln99, ln100, ln103, ln122, ln192, ln220, ln240, ln255, ln260, ln290, ln300, ln370, ln410, ln430, ln460, ln920, ln960, ln999, ln1000, ln2000, ln26880, ln1000000, ofNat_nI, nI_add, pk_mul, pk_sub, nI_leP, nI_ltP, nI_eqP, nI_clamp, gin_n, chk_t, nm_s, bd1_s, bd2_s, bd3_s, bd4_s, bI_n0, bI_1, chk_gz_bI, if_pos, if_neg, if_true, if_false, ite_some, nI_m1, m1_nI, m1_le, le_m1, m1_lt, lt_m1, m1_1, n_m1, n0_m1, m1_m1, not_true_eq_false, not_false_eq_true, in_0_1, in_0_2, in_0_5, in_0_6, in_0_7, in_0_15, in_0_19, in_0_20, in_0_39, in_0_60, in_0_63, in_0_99, in_0_999, in_1_8, in_1_9, in_1_20, in_1_300, in_1_999, in_50, in_0y, in_1y, in_x99, in_x999, within_eq, X_isStage, X_isPlace, M_isStage, M_isPlace, hm, f3, s3, f2, s2, c]
        exact hz
      · simp (disch := omega) only [↓lm1, ln0, ln1, ln2, ln3, ln4, ln5, ln6, ln7, ln8, ln9, ln10, ln11, ln12, ln13, ln14, ln15, ln16, ln17, ln18, ln19, ln20, ln21, ln22, ln26, ln30, ln31, ln32, ln36, ln39, ln40, ln48, ln50, ln59, ln60, ln61, ln63, ln64, ln80, ln97, ln99, ln100, ln103, ln122, ln192, ln220, ln240, ln255, ln260, ln290, ln300, ln370, ln410, ln430, ln460, ln920, ln960, ln999, ln1000, ln2000, ln26880, ln1000000, ofNat_nI, nI_add, pk_mul, pk_sub, nI_leP, nI_ltP, nI_eqP, nI_clamp, gin_n, chk_t, nm_s, bd1_s, bd2_s, bd3_s, bd4_s, bI_n0, bI_1, chk_gz_bI, if_pos, if_neg, if_true, if_false, ite_some, nI_m1, m1_nI, m1_le, le_m1, m1_lt, lt_m1, m1_1, n_m1, n0_m1, m1_m1, not_true_eq_false, not_false_eq_true, in_0_1, in_0_2, in_0_5, in_0_6, in_0_7, in_0_15, in_0_19, in_0_20, in_0_39, in_0_60, in_0_63, in_0_99, in_0_999, in_1_8, in_1_9, in_1_20, in_1_300, in_1_999, in_50, in_0y, in_1y, in_x99, in_x999, within_eq, X_isStage, X_isPlace, M_isStage, M_isPlace, hm, f3, s3, f2, s2, c]
        exact bad
    · have hm : f_X1_mayPut (xa 4) (nI 3) p2 = some (bI (nI 1 ≤ p2 ∧ p2 ≤ nI 9)) := by
        rw [mayPut_lo (xa 4) 3 p2 (by decide)]
        skip
        rfl
      by_cases c : nI 1 ≤ p2 ∧ p2 ≤ nI 9
      · obtain ⟨v, hv, rfl⟩ : ∃ v, v ≤ 9 ∧ p2 = nI v := rng 9 (by omega) ⟨Int32.le_trans (nI_pos' (by omega)) c.1, c.2⟩
        have c1 : 1 ≤ v := (nI_leI (by omega) (by omega)).mp c.1
        have hB : B_nu (upd (xa 4) 3 (nI v)) (upd (ma 0) (6 + 3) (nI v)) := by
          refine ⟨hB0 3 v (by decide), ?_⟩
          simp (disch := omega) only [upd_s, upd_n, vN_n, hsN, hfN]
          exact ⟨b6, b7, b8, ⟨isN.of hv, c1⟩, ⟨b10.1, sf.1⟩, ⟨b11.1, sf.2⟩⟩
        have hz := fin 3 v (by decide) hB
        simp only [show (6 : Int32) = nI 6 from rfl] at hz
        simp (disch := omega) only [↓lm1, ln0, ln1, ln2, ln3, ln4, ln5, ln6, ln7, ln8, ln9, ln10, ln11, ln12, ln13, ln14, ln15, ln16, ln17, ln18, ln19, ln20, ln21, ln22, ln26, ln30, ln31, ln32, ln36, ln39, ln40, ln48, ln50, ln59, ln60, ln61, ln63, ln64, ln80, ln97, ln99, ln100, ln103, ln122, ln192, ln220, ln240, ln255, ln260, ln290, ln300, ln370, ln410, ln430, ln460, ln920, ln960, ln999, ln1000, ln2000, ln26880, ln1000000, ofNat_nI, nI_add, pk_mul, pk_sub, nI_leP, nI_ltP, nI_eqP, nI_clamp, gin_n, chk_t, nm_s, bd1_s, bd2_s, bd3_s, bd4_s, bI_n0, bI_1, chk_gz_bI, if_pos, if_neg, if_true, if_false, ite_some, nI_m1, m1_nI, m1_le, le_m1, m1_lt, lt_m1, m1_1, n_m1, n0_m1, m1_m1, not_true_eq_false, not_false_eq_true, in_0_1, in_0_2, in_0_5, in_0_6, in_0_7, in_0_15, in_0_19, in_0_20, in_0_39, in_0_60, in_0_63, in_0_99, in_0_999, in_1_8, in_1_9, in_1_20, in_1_300, in_1_999, in_50, in_0y, in_1y, in_x99, in_x999, within_eq, X_isStage, X_isPlace, M_isStage, M_isPlace, hm, f3, s3, f2, s2, c]
        exact hz
      · simp (disch := omega) only [↓lm1, ln0, ln1, ln2, ln3, ln4, ln5, ln6, ln7, ln8, ln9, ln10, ln11, ln12, ln13, ln14, ln15, ln16, ln17, ln18, ln19, ln20, ln21, ln22, ln26, ln30, ln31, ln32, ln36, ln39, ln40, ln48, ln50, ln59, ln60, ln61, ln63, ln64, ln80, ln97, ln99, ln100, ln103, ln122, ln192, ln220, ln240, ln255, ln260, ln290, ln300, ln370, ln410, ln430, ln460, ln920, ln960, ln999, ln1000, ln2000, ln26880, ln1000000, ofNat_nI, nI_add, pk_mul, pk_sub, nI_leP, nI_ltP, nI_eqP, nI_clamp, gin_n, chk_t, nm_s, bd1_s, bd2_s, bd3_s, bd4_s, bI_n0, bI_1, chk_gz_bI, if_pos, if_neg, if_true, if_false, ite_some, nI_m1, m1_nI, m1_le, le_m1, m1_lt, lt_m1, m1_1, n_m1, n0_m1, m1_m1, not_true_eq_false, not_false_eq_true, in_0_1, in_0_2, in_0_5, in_0_6, in_0_7, in_0_15, in_0_19, in_0_20, in_0_39, in_0_60, in_0_63, in_0_99, in_0_999, in_1_8, in_1_9, in_1_20, in_1_300, in_1_999, in_50, in_0y, in_1y, in_x99, in_x999, within_eq, X_isStage, X_isPlace, M_isStage, M_isPlace, hm, f3, s3, f2, s2, c]
        exact bad
    · have hm : f_X1_mayPut (xa 4) (nI 4) p2 = some (bI (nI 1 ≤ p2 ∧ p2 ≤ nI f)) := by
        rw [mayPut_4 (xa 4) f p2 f3 f1]
        simp only [f3, s3]
        rfl
      by_cases c : nI 1 ≤ p2 ∧ p2 ≤ nI f
      · obtain ⟨v, hv, rfl⟩ : ∃ v, v ≤ f ∧ p2 = nI v := rng f (by omega) ⟨Int32.le_trans (nI_pos' (by omega)) c.1, c.2⟩
        have c1 : 1 ≤ v := (nI_leI (by omega) (by omega)).mp c.1
        have hB : B_nu (upd (xa 4) 4 (nI v)) (upd (ma 0) (6 + 4) (nI v)) := by
          refine ⟨hB0 4 v (by decide), ?_⟩
          simp (disch := omega) only [upd_s, upd_n, vN_n, hsN, hfN]
          exact ⟨b6, b7, b8, b9, ⟨isN.of (by omega), c1⟩, ⟨b11.1, hv⟩⟩
        have hz := fin 4 v (by decide) hB
        simp only [show (6 : Int32) = nI 6 from rfl] at hz
        simp (disch := omega) only [↓lm1, ln0, ln1, ln2, ln3, ln4, ln5, ln6, ln7, ln8, ln9, ln10, ln11, ln12, ln13, ln14, ln15, ln16, ln17, ln18, ln19, ln20, ln21, ln22, ln26, ln30, ln31, ln32, ln36, ln39, ln40, ln48, ln50, ln59, ln60, ln61, ln63, ln64, ln80, ln97, ln99, ln100, ln103, ln122, ln192, ln220, ln240, ln255, ln260, ln290, ln300, ln370, ln410, ln430, ln460, ln920, ln960, ln999, ln1000, ln2000, ln26880, ln1000000, ofNat_nI, nI_add, pk_mul, pk_sub, nI_leP, nI_ltP, nI_eqP, nI_clamp, gin_n, chk_t, nm_s, bd1_s, bd2_s, bd3_s, bd4_s, bI_n0, bI_1, chk_gz_bI, if_pos, if_neg, if_true, if_false, ite_some, nI_m1, m1_nI, m1_le, le_m1, m1_lt, lt_m1, m1_1, n_m1, n0_m1, m1_m1, not_true_eq_false, not_false_eq_true, in_0_1, in_0_2, in_0_5, in_0_6, in_0_7, in_0_15, in_0_19, in_0_20, in_0_39, in_0_60, in_0_63, in_0_99, in_0_999, in_1_8, in_1_9, in_1_20, in_1_300, in_1_999, in_50, in_0y, in_1y, in_x99, in_x999, within_eq, X_isStage, X_isPlace, M_isStage, M_isPlace, hm, f3, s3, f2, s2, c]
        exact hz
      · simp (disch := omega) only [↓lm1, ln0, ln1, ln2, ln3, ln4, ln5, ln6, ln7, ln8, ln9, ln10, ln11, ln12, ln13, ln14, ln15, ln16, ln17, ln18, ln19, ln20, ln21, ln22, ln26, ln30, ln31, ln32, ln36, ln39, ln40, ln48, ln50, ln59, ln60, ln61, ln63, ln64, ln80, ln97, ln99, ln100, ln103, ln122, ln192, ln220, ln240, ln255, ln260, ln290, ln300, ln370, ln410, ln430, ln460, ln920, ln960, ln999, ln1000, ln2000, ln26880, ln1000000, ofNat_nI, nI_add, pk_mul, pk_sub, nI_leP, nI_ltP, nI_eqP, nI_clamp, gin_n, chk_t, nm_s, bd1_s, bd2_s, bd3_s, bd4_s, bI_n0, bI_1, chk_gz_bI, if_pos, if_neg, if_true, if_false, ite_some, nI_m1, m1_nI, m1_le, le_m1, m1_lt, lt_m1, m1_1, n_m1, n0_m1, m1_m1, not_true_eq_false, not_false_eq_true, in_0_1, in_0_2, in_0_5, in_0_6, in_0_7, in_0_15, in_0_19, in_0_20, in_0_39, in_0_60, in_0_63, in_0_99, in_0_999, in_1_8, in_1_9, in_1_20, in_1_300, in_1_999, in_50, in_0y, in_1y, in_x99, in_x999, within_eq, X_isStage, X_isPlace, M_isStage, M_isPlace, hm, f3, s3, f2, s2, c]
        exact bad
    · have hm : f_X1_mayPut (xa 4) (nI 5) p2 = some (bI (nI s ≤ p2 ∧ p2 ≤ nI 99)) := by
        rw [mayPut_5 (xa 4) s p2 s3 sf.1 (by omega)]
        simp only [f3, s3]
        rfl
      by_cases c : nI s ≤ p2 ∧ p2 ≤ nI 99
      · obtain ⟨v, hv, rfl⟩ : ∃ v, v ≤ 99 ∧ p2 = nI v := rng 99 (by omega) ⟨Int32.le_trans (nI_pos' (by omega)) c.1, c.2⟩
        have c1 : s ≤ v := (nI_leI (by omega) (by omega)).mp c.1
        have hB : B_nu (upd (xa 4) 5 (nI v)) (upd (ma 0) (6 + 5) (nI v)) := by
          refine ⟨hB0 5 v (by decide), ?_⟩
          simp (disch := omega) only [upd_s, upd_n, vN_n, hsN, hfN]
          exact ⟨b6, b7, b8, b9, ⟨b10.1, sf.1⟩, ⟨isN.of hv, c1⟩⟩
        have hz := fin 5 v (by decide) hB
        simp only [show (6 : Int32) = nI 6 from rfl] at hz
        simp (disch := omega) only [↓lm1, ln0, ln1, ln2, ln3, ln4, ln5, ln6, ln7, ln8, ln9, ln10, ln11, ln12, ln13, ln14, ln15, ln16, ln17, ln18, ln19, ln20, ln21, ln22, ln26, ln30, ln31, ln32, ln36, ln39, ln40, ln48, ln50, ln59, ln60, ln61, ln63, ln64, ln80, ln97, ln99, ln100, ln103, ln122, ln192, ln220, ln240, ln255, ln260, ln290, ln300, ln370, ln410, ln430, ln460, ln920, ln960, ln999, ln1000, ln2000, ln26880, ln1000000, ofNat_nI, nI_add, pk_mul, pk_sub, nI_leP, nI_ltP, nI_eqP, nI_clamp, gin_n, chk_t, nm_s, bd1_s, bd2_s, bd3_s, bd4_s, bI_n0, bI_1, chk_gz_bI, if_pos, if_neg, if_true, if_false, ite_some, nI_m1, m1_nI, m1_le, le_m1, m1_lt, lt_m1, m1_1, n_m1, n0_m1, m1_m1, not_true_eq_false, not_false_eq_true, in_0_1, in_0_2, in_0_5, in_0_6, in_0_7, in_0_15, in_0_19, in_0_20, in_0_39, in_0_60, in_0_63, in_0_99, in_0_999, in_1_8, in_1_9, in_1_20, in_1_300, in_1_999, in_50, in_0y, in_1y, in_x99, in_x999, within_eq, X_isStage, X_isPlace, M_isStage, M_isPlace, hm, f3, s3, f2, s2, c]
        exact hz
      · simp (disch := omega) only [↓lm1, ln0, ln1, ln2, ln3, ln4, ln5, ln6, ln7, ln8, ln9, ln10, ln11, ln12, ln13, ln14, ln15, ln16, ln17, ln18, ln19, ln20, ln21, ln22, ln26, ln30, ln31, ln32, ln36, ln39, ln40, ln48, ln50, ln59, ln60, ln61, ln63, ln64, ln80, ln97, ln99, ln100, ln103, ln122, ln192, ln220, ln240, ln255, ln260, ln290, ln300, ln370, ln410, ln430, ln460, ln920, ln960, ln999, ln1000, ln2000, ln26880, ln1000000, ofNat_nI, nI_add, pk_mul, pk_sub, nI_leP, nI_ltP, nI_eqP, nI_clamp, gin_n, chk_t, nm_s, bd1_s, bd2_s, bd3_s, bd4_s, bI_n0, bI_1, chk_gz_bI, if_pos, if_neg, if_true, if_false, ite_some, nI_m1, m1_nI, m1_le, le_m1, m1_lt, lt_m1, m1_1, n_m1, n0_m1, m1_m1, not_true_eq_false, not_false_eq_true, in_0_1, in_0_2, in_0_5, in_0_6, in_0_7, in_0_15, in_0_19, in_0_20, in_0_39, in_0_60, in_0_63, in_0_99, in_0_999, in_1_8, in_1_9, in_1_20, in_1_300, in_1_999, in_50, in_0y, in_1y, in_x99, in_x999, within_eq, X_isStage, X_isPlace, M_isStage, M_isPlace, hm, f3, s3, f2, s2, c]
        exact bad
  · have hm : f_X1_mayPut (xa 4) p1 p2 = some 0 := by
      unfold f_X1_mayPut
      by_cases d : p1 < 0
      · rw [if_pos d]
      · rw [if_neg d, if_pos (show (6 : Int32) ≤ p1 from ?_)]
        refine Classical.byContradiction fun z => c ⟨Int32.not_lt.mp d, ?_⟩
        have := Int32.not_le.mp z
        rw [Int32.lt_iff_toInt_lt, show (6 : Int32).toInt = 6 from by decide] at this
        rw [Int32.le_iff_toInt_le, nI_toInt (by decide)]
        omega
    have ne : ∀ w, w ≤ 5 → (p1 = nI w) = False := fun w hw => eq_false (fun z => c (by rw [z]; exact ⟨nI_pos' (by omega), nI_le hw (by decide)⟩))
    simp (disch := omega) only [↓lm1, ln0, ln1, ln2, ln3, ln4, ln5, ln6, ln7, ln8, ln9, ln10, ln11, ln12, ln13, ln14, ln15, ln16, ln17, ln18, ln19, ln20, ln21, ln22, ln26, ln30, ln31, ln32, ln36, ln39, ln40, ln48, ln50, ln59, ln60, ln61, ln63, ln64, ln80, ln97, ln99, ln100, ln103, ln122, ln192, ln220, ln240, ln255, ln260, ln290, ln300, ln370, ln410, ln430, ln460, ln920, ln960, ln999, ln1000, ln2000, ln26880, ln1000000, ofNat_nI, nI_add, pk_mul, pk_sub, nI_leP, nI_ltP, nI_eqP, nI_clamp, gin_n, chk_t, nm_s, bd1_s, bd2_s, bd3_s, bd4_s, bI_n0, bI_1, chk_gz_bI, if_pos, if_neg, if_true, if_false, ite_some, nI_m1, m1_nI, m1_le, le_m1, m1_lt, lt_m1, m1_1, n_m1, n0_m1, m1_m1, not_true_eq_false, not_false_eq_true, hm, ne]
    exact bad
theorem q_count : PP_count INV := by
  intro xi xa mi ma hI p1
  obtain ⟨nc, nb, nd, nr, nf, ng, h1, h2, h3, h4, h5, h6, h7, h8, h9, h10, h11, h12⟩ := FB_now hI
  obtain ⟨⟨n1, n2, n3, n4, n5, n6⟩, k0, k1, k2, k3, k4, k5⟩ := h2
  obtain ⟨s1, s2, s3, s4, s5, s6⟩ := h3
  obtain ⟨t, t1, t2, t3, t4⟩ := hI.2.2.2.2.1
  unfold f_X9_count f_X10_count f_X4_size f_X6_size f_X10_countOf
  rcases rc p1 6 (by decide) with ⟨w, hw, rfl⟩ | c
  · have cs : w = 0 ∨ w = 1 ∨ w = 2 ∨ w = 3 ∨ w = 4 ∨ w = 5 ∨ w = 6 := by omega
    rcases cs with rfl | rfl | rfl | rfl | rfl | rfl | rfl
    all_goals simp (disch := omega) only [↓lm1, ln0, ln1, ln2, ln3, ln4, ln5, ln6, ln7, ln8, ln9, ln10, ln11, ln12, ln13, ln14, ln15, ln16, ln17, ln18, ln19, ln20, ln21, ln22, ln26, ln30, ln31, ln32, ln36, ln39, ln40, ln48, ln50, ln59, ln60, ln61, ln63, ln64, ln80, ln97, ln99, ln100, ln103, ln122, ln192, ln220, ln240, ln255, ln260, ln290, ln300, ln370, ln410, ln430, ln460, ln920, ln960, ln999, ln1000, ln2000, ln26880, ln1000000, ofNat_nI, nI_add, pk_mul, pk_sub, nI_leP, nI_ltP, nI_eqP, nI_clamp, gin_n, chk_t, nm_s, bd1_s, bd2_s, bd3_s, bd4_s, bI_n0, bI_1, chk_gz_bI, if_pos, if_neg, if_true, if_false, ite_some, nI_m1, m1_nI, m1_le, le_m1, m1_lt, lt_m1, m1_1, n_m1, n0_m1, m1_m1, not_true_eq_false, not_false_eq_true, in_0_1, in_0_2, in_0_5, in_0_6, in_0_7, in_0_15, in_0_19, in_0_20, in_0_39, in_0_60, in_0_63, in_0_99, in_0_999, in_1_8, in_1_9, in_1_20, in_1_300, in_1_999, in_50, in_0y, in_1y, in_x99, in_x999, within_eq, X_isStage, X_isPlace, M_isStage, M_isPlace, k0, k1, k2, k3, k4, k5, s1, s2, s3, s4, s5, s6, t2, t3]
    all_goals exact ⟨_, rfl, rfl, hI⟩
  · have ne : ∀ w, w ≤ 6 → (p1 = nI w) = False := fun w hw => eq_false (fun z => c (by rw [z]; exact ⟨nI_pos' (by omega), nI_le hw (by decide)⟩))
    simp (disch := omega) only [↓lm1, ln0, ln1, ln2, ln3, ln4, ln5, ln6, ln7, ln8, ln9, ln10, ln11, ln12, ln13, ln14, ln15, ln16, ln17, ln18, ln19, ln20, ln21, ln22, ln26, ln30, ln31, ln32, ln36, ln39, ln40, ln48, ln50, ln59, ln60, ln61, ln63, ln64, ln80, ln97, ln99, ln100, ln103, ln122, ln192, ln220, ln240, ln255, ln260, ln290, ln300, ln370, ln410, ln430, ln460, ln920, ln960, ln999, ln1000, ln2000, ln26880, ln1000000, ofNat_nI, nI_add, pk_mul, pk_sub, nI_leP, nI_ltP, nI_eqP, nI_clamp, gin_n, chk_t, nm_s, bd1_s, bd2_s, bd3_s, bd4_s, bI_n0, bI_1, chk_gz_bI, if_pos, if_neg, if_true, if_false, ite_some, nI_m1, m1_nI, m1_le, le_m1, m1_lt, lt_m1, m1_1, n_m1, n0_m1, m1_m1, not_true_eq_false, not_false_eq_true, in_0_1, in_0_2, in_0_5, in_0_6, in_0_7, in_0_15, in_0_19, in_0_20, in_0_39, in_0_60, in_0_63, in_0_99, in_0_999, in_1_8, in_1_9, in_1_20, in_1_300, in_1_999, in_50, in_0y, in_1y, in_x99, in_x999, within_eq, X_isStage, X_isPlace, M_isStage, M_isPlace, ne, c]
    exact ⟨_, rfl, rfl, hI⟩
