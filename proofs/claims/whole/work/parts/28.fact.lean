/-! ===== fact, sign ===== -/
theorem rcR (p : Int32) (n : Nat) (hn : n ≤ 400) : (∃ j, j < n ∧ p = nI j) ∨ ¬ (nI 0 ≤ p ∧ p ≤ nI n - nI 1) := by
  by_cases c : nI 0 ≤ p ∧ p ≤ nI n - nI 1
  · refine Or.inl ?_
    by_cases z : n = 0
    · subst z
      exact absurd (Int32.le_trans c.1 c.2) (by decide)
    · rw [pk_sub (by omega)] at c
      obtain ⟨j, h1, h2⟩ := rng (n - 1) (by omega) c
      exact ⟨j, by omega, h2⟩
  · exact Or.inr c
theorem lt_R {j n : Nat} (h : j < n) (hn : n ≤ 400) : nI 0 ≤ nI j ∧ nI j ≤ nI n - nI 1 := by
  rw [pk_sub (by omega)]
  exact rng_of (by omega) (by omega)
theorem isRid_t {n j : Nat} (h : j < n) (hn : n ≤ 400) : f_X9_isRidge (nI n) (nI j) = some (nI 1) := by
  unfold f_X9_isRidge
  rw [within_eq, bd1_s, chk_gz_bI]
  exact congrArg some (bI_t (lt_R h hn))
theorem isRid_f {n : Nat} {p : Int32} (h : ¬ (nI 0 ≤ p ∧ p ≤ nI n - nI 1)) : f_X9_isRidge (nI n) p = some (nI 0) := by
  unfold f_X9_isRidge
  rw [within_eq, bd1_s, chk_gz_bI]
  exact congrArg some (bI_f h)
theorem M_is_t {bk : Nat → Int32} {k n j : Nat} (hk : k < 6) (hb : bk k = nI n) (h : j < n) (hn : n ≤ 400) : f_X10_is bk (nI k) (nI j) = some (nI 1) := by
  unfold f_X10_is
  rw [gin_n (by omega) (by decide), chk_t, cl_n (by omega), hb, in_0y, bd1_s, chk_gz_bI]
  exact congrArg some (bI_t (lt_R h hn))
theorem M_is_f {bk : Nat → Int32} {k n : Nat} {p : Int32} (hk : k < 6) (hb : bk k = nI n) (h : ¬ (nI 0 ≤ p ∧ p ≤ nI n - nI 1)) : f_X10_is bk (nI k) p = some (nI 0) := by
  unfold f_X10_is
  rw [gin_n (by omega) (by decide), chk_t, cl_n (by omega), hb, in_0y, bd1_s, chk_gz_bI]
  exact congrArg some (bI_f h)
theorem ne_rc {p : Int32} {k : Nat} (hk : k < 2 ^ 31) (c : ¬ (nI 0 ≤ p ∧ p ≤ nI k)) (w : Nat) (hw : w ≤ k) : (p = nI w) = False := eq_false (fun z => c (by rw [z]; exact ⟨nI_pos' (by omega), nI_le hw hk⟩))
theorem factT {nr a : Nat} {bk : Nat → Int32} (p2 p4 p5 : Int32) (h3 : bk 3 = nI nr) (hn : nr ≤ 8) (ha : a < nr) : ∃ r, f_X9_mayTell (nI nr) p2 (nI a) p4 p5 = some r ∧ f_X10_isFact bk p2 (nI a) p4 p5 = some r ∧ (r = nI 0 ∨ (r = nI 1 ∧ ∃ k b, k ≤ 4 ∧ b ≤ 999 ∧ p2 = nI k ∧ p4 = nI b ∧ (k = 0 → b < nr ∧ b ≠ a) ∧ (k = 1 → ∃ c, c ≤ 999 ∧ b ≤ c ∧ p5 = nI c) ∧ (k = 2 → 1 ≤ b ∧ b ≤ 300))) := by
  unfold f_X9_mayTell f_X10_isFact
  have hA := M_is_t (k := 3) (by decide) h3 ha (by omega)
  rcases rc p2 4 (by decide) with ⟨k, hk, rfl⟩ | c
  · have cs : k = 0 ∨ k = 1 ∨ k = 2 ∨ k = 3 ∨ k = 4 := by omega
    rcases cs with rfl | rfl | rfl | rfl | rfl
    · rcases rcR p4 nr (by omega) with ⟨b, hb, rfl⟩ | d
      · have hB := M_is_t (k := 3) (by decide) h3 hb (by omega)
        have hX := isRid_t hb (by omega)
        by_cases e : a = b
        · subst e
          simp (disch := omega) only [↓lm1, ln0, ln1, ln2, ln3, ln4, ln5, ln6, ln7, ln8, ln9, ln10, ln11, ln12, ln13, ln14, ln15, ln16, ln17, ln18, ln19, ln20, ln21, ln22, ln26, ln30, ln31, ln32, ln36, ln39, ln40, ln48, ln50, ln59, ln60, ln61, ln63, ln64, ln80, ln97, ln99, ln100, ln103, ln122, ln192, ln220, ln240, ln255, ln260, ln290, ln300, ln370, ln410, ln430, ln460, ln920, ln960, ln999, ln1000, ln2000, ln26880, ln1000000, ofNat_nI, nI_add, pk_mul, pk_sub, nI_leP, nI_ltP, nI_eqP, nI_clamp, gin_n, chk_t, nm_s, bd1_s, bd2_s, bd3_s, bd4_s, bI_n0, bI_1, chk_gz_bI, if_pos, if_neg, if_true, if_false, ite_some, nI_m1, m1_nI, m1_le, le_m1, m1_lt, lt_m1, m1_1, n_m1, n0_m1, m1_m1, not_true_eq_false, not_false_eq_true, in_0_1, in_0_2, in_0_5, in_0_6, in_0_7, in_0_15, in_0_19, in_0_20, in_0_39, in_0_60, in_0_63, in_0_99, in_0_999, in_1_8, in_1_9, in_1_20, in_1_300, in_1_999, in_50, in_0y, in_1y, in_x99, in_x999, within_eq, X_isStage, X_isPlace, M_isStage, M_isPlace, hA, hB, hX]
          exact ⟨_, rfl, rfl, Or.inl rfl⟩
        · simp (disch := omega) only [↓lm1, ln0, ln1, ln2, ln3, ln4, ln5, ln6, ln7, ln8, ln9, ln10, ln11, ln12, ln13, ln14, ln15, ln16, ln17, ln18, ln19, ln20, ln21, ln22, ln26, ln30, ln31, ln32, ln36, ln39, ln40, ln48, ln50, ln59, ln60, ln61, ln63, ln64, ln80, ln97, ln99, ln100, ln103, ln122, ln192, ln220, ln240, ln255, ln260, ln290, ln300, ln370, ln410, ln430, ln460, ln920, ln960, ln999, ln1000, ln2000, ln26880, ln1000000, ofNat_nI, nI_add, pk_mul, pk_sub, nI_leP, nI_ltP, nI_eqP, nI_clamp, gin_n, chk_t, nm_s, bd1_s, bd2_s, bd3_s, bd4_s, bI_n0, bI_1, chk_gz_bI, if_pos, if_neg, if_true, if_false, ite_some, nI_m1, m1_nI, m1_le, le_m1, m1_lt, lt_m1, m1_1, n_m1, n0_m1, m1_m1, not_true_eq_false, not_false_eq_true, in_0_1, in_0_2, in_0_5, in_0_6, in_0_7, in_0_15, in_0_19, in_0_20, in_0_39, in_0_60, in_0_63, in_0_99, in_0_999, in_1_8, in_1_9, in_1_20, in_1_300, in_1_999, in_50, in_0y, in_1y, in_x99, in_x999, within_eq, X_isStage, X_isPlace, M_isStage, M_isPlace, hA, hB, hX]
          exact ⟨_, rfl, rfl, Or.inr ⟨rfl, 0, b, by omega, by omega, rfl, rfl, fun _ => ⟨hb, fun z => e z.symm⟩, fun z => by omega, fun z => by omega⟩⟩
      · have hB := M_is_f (k := 3) (by decide) h3 d
        have hX := isRid_f d
        simp (disch := omega) only [↓lm1, ln0, ln1, ln2, ln3, ln4, ln5, ln6, ln7, ln8, ln9, ln10, ln11, ln12, ln13, ln14, ln15, ln16, ln17, ln18, ln19, ln20, ln21, ln22, ln26, ln30, ln31, ln32, ln36, ln39, ln40, ln48, ln50, ln59, ln60, ln61, ln63, ln64, ln80, ln97, ln99, ln100, ln103, ln122, ln192, ln220, ln240, ln255, ln260, ln290, ln300, ln370, ln410, ln430, ln460, ln920, ln960, ln999, ln1000, ln2000, ln26880, ln1000000, ofNat_nI, nI_add, pk_mul, pk_sub, nI_leP, nI_ltP, nI_eqP, nI_clamp, gin_n, chk_t, nm_s, bd1_s, bd2_s, bd3_s, bd4_s, bI_n0, bI_1, chk_gz_bI, if_pos, if_neg, if_true, if_false, ite_some, nI_m1, m1_nI, m1_le, le_m1, m1_lt, lt_m1, m1_1, n_m1, n0_m1, m1_m1, not_true_eq_false, not_false_eq_true, in_0_1, in_0_2, in_0_5, in_0_6, in_0_7, in_0_15, in_0_19, in_0_20, in_0_39, in_0_60, in_0_63, in_0_99, in_0_999, in_1_8, in_1_9, in_1_20, in_1_300, in_1_999, in_50, in_0y, in_1y, in_x99, in_x999, within_eq, X_isStage, X_isPlace, M_isStage, M_isPlace, hA, hB, hX]
        exact ⟨_, rfl, rfl, Or.inl rfl⟩
    · rcases rc p4 999 (by decide) with ⟨b, hb, rfl⟩ | d
      · by_cases e : nI b ≤ p5 ∧ p5 ≤ nI 999
        · obtain ⟨c, hc, rfl⟩ := rng 999 (by decide) ⟨Int32.le_trans (nI_pos' (n := b) (by omega)) e.1, e.2⟩
          have e1 := (nI_leI (by omega) (by omega)).mp e.1
          simp (disch := omega) only [↓lm1, ln0, ln1, ln2, ln3, ln4, ln5, ln6, ln7, ln8, ln9, ln10, ln11, ln12, ln13, ln14, ln15, ln16, ln17, ln18, ln19, ln20, ln21, ln22, ln26, ln30, ln31, ln32, ln36, ln39, ln40, ln48, ln50, ln59, ln60, ln61, ln63, ln64, ln80, ln97, ln99, ln100, ln103, ln122, ln192, ln220, ln240, ln255, ln260, ln290, ln300, ln370, ln410, ln430, ln460, ln920, ln960, ln999, ln1000, ln2000, ln26880, ln1000000, ofNat_nI, nI_add, pk_mul, pk_sub, nI_leP, nI_ltP, nI_eqP, nI_clamp, gin_n, chk_t, nm_s, bd1_s, bd2_s, bd3_s, bd4_s, bI_n0, bI_1, chk_gz_bI, if_pos, if_neg, if_true, if_false, ite_some, nI_m1, m1_nI, m1_le, le_m1, m1_lt, lt_m1, m1_1, n_m1, n0_m1, m1_m1, not_true_eq_false, not_false_eq_true, in_0_1, in_0_2, in_0_5, in_0_6, in_0_7, in_0_15, in_0_19, in_0_20, in_0_39, in_0_60, in_0_63, in_0_99, in_0_999, in_1_8, in_1_9, in_1_20, in_1_300, in_1_999, in_50, in_0y, in_1y, in_x99, in_x999, within_eq, X_isStage, X_isPlace, M_isStage, M_isPlace, hA]
          exact ⟨_, rfl, rfl, Or.inr ⟨rfl, 1, b, by omega, by omega, rfl, rfl, fun z => by omega, fun _ => ⟨c, hc, e1, rfl⟩, fun z => by omega⟩⟩
        · simp (disch := omega) only [↓lm1, ln0, ln1, ln2, ln3, ln4, ln5, ln6, ln7, ln8, ln9, ln10, ln11, ln12, ln13, ln14, ln15, ln16, ln17, ln18, ln19, ln20, ln21, ln22, ln26, ln30, ln31, ln32, ln36, ln39, ln40, ln48, ln50, ln59, ln60, ln61, ln63, ln64, ln80, ln97, ln99, ln100, ln103, ln122, ln192, ln220, ln240, ln255, ln260, ln290, ln300, ln370, ln410, ln430, ln460, ln920, ln960, ln999, ln1000, ln2000, ln26880, ln1000000, ofNat_nI, nI_add, pk_mul, pk_sub, nI_leP, nI_ltP, nI_eqP, nI_clamp, gin_n, chk_t, nm_s, bd1_s, bd2_s, bd3_s, bd4_s, bI_n0, bI_1, chk_gz_bI, if_pos, if_neg, if_true, if_false, ite_some, nI_m1, m1_nI, m1_le, le_m1, m1_lt, lt_m1, m1_1, n_m1, n0_m1, m1_m1, not_true_eq_false, not_false_eq_true, in_0_1, in_0_2, in_0_5, in_0_6, in_0_7, in_0_15, in_0_19, in_0_20, in_0_39, in_0_60, in_0_63, in_0_99, in_0_999, in_1_8, in_1_9, in_1_20, in_1_300, in_1_999, in_50, in_0y, in_1y, in_x99, in_x999, within_eq, X_isStage, X_isPlace, M_isStage, M_isPlace, hA, e]
          exact ⟨_, rfl, rfl, Or.inl rfl⟩
      · simp (disch := omega) only [↓lm1, ln0, ln1, ln2, ln3, ln4, ln5, ln6, ln7, ln8, ln9, ln10, ln11, ln12, ln13, ln14, ln15, ln16, ln17, ln18, ln19, ln20, ln21, ln22, ln26, ln30, ln31, ln32, ln36, ln39, ln40, ln48, ln50, ln59, ln60, ln61, ln63, ln64, ln80, ln97, ln99, ln100, ln103, ln122, ln192, ln220, ln240, ln255, ln260, ln290, ln300, ln370, ln410, ln430, ln460, ln920, ln960, ln999, ln1000, ln2000, ln26880, ln1000000, ofNat_nI, nI_add, pk_mul, pk_sub, nI_leP, nI_ltP, nI_eqP, nI_clamp, gin_n, chk_t, nm_s, bd1_s, bd2_s, bd3_s, bd4_s, bI_n0, bI_1, chk_gz_bI, if_pos, if_neg, if_true, if_false, ite_some, nI_m1, m1_nI, m1_le, le_m1, m1_lt, lt_m1, m1_1, n_m1, n0_m1, m1_m1, not_true_eq_false, not_false_eq_true, in_0_1, in_0_2, in_0_5, in_0_6, in_0_7, in_0_15, in_0_19, in_0_20, in_0_39, in_0_60, in_0_63, in_0_99, in_0_999, in_1_8, in_1_9, in_1_20, in_1_300, in_1_999, in_50, in_0y, in_1y, in_x99, in_x999, within_eq, X_isStage, X_isPlace, M_isStage, M_isPlace, hA, d]
        exact ⟨_, rfl, rfl, Or.inl rfl⟩
    · by_cases e : nI 1 ≤ p4 ∧ p4 ≤ nI 300
      · obtain ⟨b, hb, rfl⟩ := rng 300 (by decide) ⟨Int32.le_trans (nI_pos' (n := 1) (by omega)) e.1, e.2⟩
        have e1 := (nI_leI (by omega) (by omega)).mp e.1
        simp (disch := omega) only [↓lm1, ln0, ln1, ln2, ln3, ln4, ln5, ln6, ln7, ln8, ln9, ln10, ln11, ln12, ln13, ln14, ln15, ln16, ln17, ln18, ln19, ln20, ln21, ln22, ln26, ln30, ln31, ln32, ln36, ln39, ln40, ln48, ln50, ln59, ln60, ln61, ln63, ln64, ln80, ln97, ln99, ln100, ln103, ln122, ln192, ln220, ln240, ln255, ln260, ln290, ln300, ln370, ln410, ln430, ln460, ln920, ln960, ln999, ln1000, ln2000, ln26880, ln1000000, ofNat_nI, nI_add, pk_mul, pk_sub, nI_leP, nI_ltP, nI_eqP, nI_clamp, gin_n, chk_t, nm_s, bd1_s, bd2_s, bd3_s, bd4_s, bI_n0, bI_1, chk_gz_bI, if_pos, if_neg, if_true, if_false, ite_some, nI_m1, m1_nI, m1_le, le_m1, m1_lt, lt_m1, m1_1, n_m1, n0_m1, m1_m1, not_true_eq_false, not_false_eq_true, in_0_1, in_0_2, in_0_5, in_0_6, in_0_7, in_0_15, in_0_19, in_0_20, in_0_39, in_0_60, in_0_63, in_0_99, in_0_999, in_1_8, in_1_9, in_1_20, in_1_300, in_1_999, in_50, in_0y, in_1y, in_x99, in_x999, within_eq, X_isStage, X_isPlace, M_isStage, M_isPlace, hA]
        exact ⟨_, rfl, rfl, Or.inr ⟨bI_t (by omega), 2, b, by omega, by omega, rfl, rfl, fun z => by omega, fun z => by omega, fun _ => ⟨e1, hb⟩⟩⟩
      · simp (disch := omega) only [↓lm1, ln0, ln1, ln2, ln3, ln4, ln5, ln6, ln7, ln8, ln9, ln10, ln11, ln12, ln13, ln14, ln15, ln16, ln17, ln18, ln19, ln20, ln21, ln22, ln26, ln30, ln31, ln32, ln36, ln39, ln40, ln48, ln50, ln59, ln60, ln61, ln63, ln64, ln80, ln97, ln99, ln100, ln103, ln122, ln192, ln220, ln240, ln255, ln260, ln290, ln300, ln370, ln410, ln430, ln460, ln920, ln960, ln999, ln1000, ln2000, ln26880, ln1000000, ofNat_nI, nI_add, pk_mul, pk_sub, nI_leP, nI_ltP, nI_eqP, nI_clamp, gin_n, chk_t, nm_s, bd1_s, bd2_s, bd3_s, bd4_s, bI_n0, bI_1, chk_gz_bI, if_pos, if_neg, if_true, if_false, ite_some, nI_m1, m1_nI, m1_le, le_m1, m1_lt, lt_m1, m1_1, n_m1, n0_m1, m1_m1, not_true_eq_false, not_false_eq_true, in_0_1, in_0_2, in_0_5, in_0_6, in_0_7, in_0_15, in_0_19, in_0_20, in_0_39, in_0_60, in_0_63, in_0_99, in_0_999, in_1_8, in_1_9, in_1_20, in_1_300, in_1_999, in_50, in_0y, in_1y, in_x99, in_x999, within_eq, X_isStage, X_isPlace, M_isStage, M_isPlace, hA, e]
        exact ⟨_, rfl, rfl, Or.inl (bI_f (fun h => h))⟩
    · by_cases e : nI 0 ≤ p4 ∧ p4 ≤ nI 999
      · obtain ⟨b, hb, rfl⟩ := rng 999 (by decide) e
        simp (disch := omega) only [↓lm1, ln0, ln1, ln2, ln3, ln4, ln5, ln6, ln7, ln8, ln9, ln10, ln11, ln12, ln13, ln14, ln15, ln16, ln17, ln18, ln19, ln20, ln21, ln22, ln26, ln30, ln31, ln32, ln36, ln39, ln40, ln48, ln50, ln59, ln60, ln61, ln63, ln64, ln80, ln97, ln99, ln100, ln103, ln122, ln192, ln220, ln240, ln255, ln260, ln290, ln300, ln370, ln410, ln430, ln460, ln920, ln960, ln999, ln1000, ln2000, ln26880, ln1000000, ofNat_nI, nI_add, pk_mul, pk_sub, nI_leP, nI_ltP, nI_eqP, nI_clamp, gin_n, chk_t, nm_s, bd1_s, bd2_s, bd3_s, bd4_s, bI_n0, bI_1, chk_gz_bI, if_pos, if_neg, if_true, if_false, ite_some, nI_m1, m1_nI, m1_le, le_m1, m1_lt, lt_m1, m1_1, n_m1, n0_m1, m1_m1, not_true_eq_false, not_false_eq_true, in_0_1, in_0_2, in_0_5, in_0_6, in_0_7, in_0_15, in_0_19, in_0_20, in_0_39, in_0_60, in_0_63, in_0_99, in_0_999, in_1_8, in_1_9, in_1_20, in_1_300, in_1_999, in_50, in_0y, in_1y, in_x99, in_x999, within_eq, X_isStage, X_isPlace, M_isStage, M_isPlace, hA]
        exact ⟨_, rfl, rfl, Or.inr ⟨bI_t (by omega), 3, b, hk, by omega, rfl, rfl, fun z => by omega, fun z => by omega, fun z => by omega⟩⟩
      · simp (disch := omega) only [↓lm1, ln0, ln1, ln2, ln3, ln4, ln5, ln6, ln7, ln8, ln9, ln10, ln11, ln12, ln13, ln14, ln15, ln16, ln17, ln18, ln19, ln20, ln21, ln22, ln26, ln30, ln31, ln32, ln36, ln39, ln40, ln48, ln50, ln59, ln60, ln61, ln63, ln64, ln80, ln97, ln99, ln100, ln103, ln122, ln192, ln220, ln240, ln255, ln260, ln290, ln300, ln370, ln410, ln430, ln460, ln920, ln960, ln999, ln1000, ln2000, ln26880, ln1000000, ofNat_nI, nI_add, pk_mul, pk_sub, nI_leP, nI_ltP, nI_eqP, nI_clamp, gin_n, chk_t, nm_s, bd1_s, bd2_s, bd3_s, bd4_s, bI_n0, bI_1, chk_gz_bI, if_pos, if_neg, if_true, if_false, ite_some, nI_m1, m1_nI, m1_le, le_m1, m1_lt, lt_m1, m1_1, n_m1, n0_m1, m1_m1, not_true_eq_false, not_false_eq_true, in_0_1, in_0_2, in_0_5, in_0_6, in_0_7, in_0_15, in_0_19, in_0_20, in_0_39, in_0_60, in_0_63, in_0_99, in_0_999, in_1_8, in_1_9, in_1_20, in_1_300, in_1_999, in_50, in_0y, in_1y, in_x99, in_x999, within_eq, X_isStage, X_isPlace, M_isStage, M_isPlace, hA, e]
        exact ⟨_, rfl, rfl, Or.inl (bI_f (fun h => h))⟩
    · by_cases e : nI 0 ≤ p4 ∧ p4 ≤ nI 999
      · obtain ⟨b, hb, rfl⟩ := rng 999 (by decide) e
        simp (disch := omega) only [↓lm1, ln0, ln1, ln2, ln3, ln4, ln5, ln6, ln7, ln8, ln9, ln10, ln11, ln12, ln13, ln14, ln15, ln16, ln17, ln18, ln19, ln20, ln21, ln22, ln26, ln30, ln31, ln32, ln36, ln39, ln40, ln48, ln50, ln59, ln60, ln61, ln63, ln64, ln80, ln97, ln99, ln100, ln103, ln122, ln192, ln220, ln240, ln255, ln260, ln290, ln300, ln370, ln410, ln430, ln460, ln920, ln960, ln999, ln1000, ln2000, ln26880, ln1000000, ofNat_nI, nI_add, pk_mul, pk_sub, nI_leP, nI_ltP, nI_eqP, nI_clamp, gin_n, chk_t, nm_s, bd1_s, bd2_s, bd3_s, bd4_s, bI_n0, bI_1, chk_gz_bI, if_pos, if_neg, if_true, if_false, ite_some, nI_m1, m1_nI, m1_le, le_m1, m1_lt, lt_m1, m1_1, n_m1, n0_m1, m1_m1, not_true_eq_false, not_false_eq_true, in_0_1, in_0_2, in_0_5, in_0_6, in_0_7, in_0_15, in_0_19, in_0_20, in_0_39, in_0_60, in_0_63, in_0_99, in_0_999, in_1_8, in_1_9, in_1_20, in_1_300, in_1_999, in_50, in_0y, in_1y, in_x99, in_x999, within_eq, X_isStage, X_isPlace, M_isStage, M_isPlace, hA]
        exact ⟨_, rfl, rfl, Or.inr ⟨bI_t (by omega), 4, b, hk, by omega, rfl, rfl, fun z => by omega, fun z => by omega, fun z => by omega⟩⟩
      · simp (disch := omega) only [↓lm1, ln0, ln1, ln2, ln3, ln4, ln5, ln6, ln7, ln8, ln9, ln10, ln11, ln12, ln13, ln14, ln15, ln16, ln17, ln18, ln19, ln20, ln21, ln22, ln26, ln30, ln31, ln32, ln36, ln39, ln40, ln48, ln50, ln59, ln60, ln61, ln63, ln64, ln80, ln97, ln99, ln100, ln103, ln122, ln192, ln220, ln240, ln255, ln260, ln290, ln300, ln370, ln410, ln430, ln460, ln920, ln960, ln999, ln1000, ln2000, ln26880, ln1000000, ofNat_nI, nI_add, pk_mul, pk_sub, nI_leP, nI_ltP, nI_eqP, nI_clamp, gin_n, chk_t, nm_s, bd1_s, bd2_s, bd3_s, bd4_s, bI_n0, bI_1, chk_gz_bI, if_pos, if_neg, if_true, if_false, ite_some, nI_m1, m1_nI, m1_le, le_m1, m1_lt, lt_m1, m1_1, n_m1, n0_m1, m1_m1, not_true_eq_false, not_false_eq_true, in_0_1, in_0_2, in_0_5, in_0_6, in_0_7, in_0_15, in_0_19, in_0_20, in_0_39, in_0_60, in_0_63, in_0_99, in_0_999, in_1_8, in_1_9, in_1_20, in_1_300, in_1_999, in_50, in_0y, in_1y, in_x99, in_x999, within_eq, X_isStage, X_isPlace, M_isStage, M_isPlace, hA, e]
        exact ⟨_, rfl, rfl, Or.inl (bI_f (fun h => h))⟩
  · have ne := ne_rc (by decide) c
    simp (disch := omega) only [↓lm1, ln0, ln1, ln2, ln3, ln4, ln5, ln6, ln7, ln8, ln9, ln10, ln11, ln12, ln13, ln14, ln15, ln16, ln17, ln18, ln19, ln20, ln21, ln22, ln26, ln30, ln31, ln32, ln36, ln39, ln40, ln48, ln50, ln59, ln60, ln61, ln63, ln64, ln80, ln97, ln99, ln100, ln103, ln122, ln192, ln220, ln240, ln255, ln260, ln290, ln300, ln370, ln410, ln430, ln460, ln920, ln960, ln999, ln1000, ln2000, ln26880, ln1000000, ofNat_nI, nI_add, pk_mul, pk_sub, nI_leP, nI_ltP, nI_eqP, nI_clamp, gin_n, chk_t, nm_s, bd1_s, bd2_s, bd3_s, bd4_s, bI_n0, bI_1, chk_gz_bI, if_pos, if_neg, if_true, if_false, ite_some, nI_m1, m1_nI, m1_le, le_m1, m1_lt, lt_m1, m1_1, n_m1, n0_m1, m1_m1, not_true_eq_false, not_false_eq_true, in_0_1, in_0_2, in_0_5, in_0_6, in_0_7, in_0_15, in_0_19, in_0_20, in_0_39, in_0_60, in_0_63, in_0_99, in_0_999, in_1_8, in_1_9, in_1_20, in_1_300, in_1_999, in_50, in_0y, in_1y, in_x99, in_x999, within_eq, X_isStage, X_isPlace, M_isStage, M_isPlace, hA, ne]
    exact ⟨_, rfl, rfl, Or.inl rfl⟩
theorem B_fa_add {nf nr : Nat} {cells cells' bk bk' : Nat → Int32} (h : B_fa nf nr cells bk) (e1 : ∀ j, j < 5 → cells' (5 * nf + j) = bk' (290 + 5 * nf + j)) (e2 : OKf nr (fun j => bk' (290 + 5 * nf + j))) (e3 : ∀ k, k < 5 * nf → cells' k = cells k) (e6 : ∀ k, 290 ≤ k → k < 290 + 5 * nf → bk' k = bk k) : B_fa (nf + 1) nr cells' bk' := by
  intro i hi
  by_cases q : i = nf
  · subst q; exact ⟨e1, e2⟩
  · exact ⟨fun j hj => by rw [e3 _ (by omega), e6 _ (by omega) (by omega)]; exact (h i (by omega)).1 j hj, OKf_c (h i (by omega)).2 (fun j hj => e6 _ (by omega) (by omega))⟩
theorem q_fact : PP_fact INV := by
  intro xi xa mi ma hI p1 p2 p3 p4 p5
  have bad : ∃ (r o0 : Int32) (o1 q0 : Nat → Int32), some ((-2 : Int32), xi 10, xa 5) = some (r, o0, o1) ∧ some ((-2 : Int32), ma 0) = some (r, q0) ∧ INV (va_up xi 10 o0) (va_up xa 5 o1) mi (va_up ma 0 q0) := ⟨_, _, _, _, rfl, rfl, by rw [va_id, va_id, va_id]; exact hI⟩
  obtain ⟨nc, nb, nd, nr, nf, ng, h1, h2, h3, h4, h5, h6, h7, h8, h9, h10, h11, h12⟩ := FB_now hI
  obtain ⟨⟨n1, n2, n3, n4, n5, n6⟩, k0, k1, k2, k3, k4, k5⟩ := h2
  obtain ⟨s1, s2, s3, s4, s5, s6⟩ := h3
  obtain ⟨l1, l2, l3, l4, l5⟩ := h1
  unfold f_X9_fact f_X10_fact
  rcases rc p1 1 (by decide) with ⟨sc, hsc, rfl⟩ | c1
  · rcases rcR p3 nr (by omega) with ⟨a, ha, rfl⟩ | c2
    · obtain ⟨r, t1, t2, t3⟩ := factT (bk := ma 0) p2 p4 p5 k3 n4 ha
      have hX := isRid_t ha (by omega)
      rcases t3 with rfl | ⟨rfl, k, b, hk, hb, rfl, rfl, v0, v1, v2⟩
      · simp (disch := omega) only [↓lm1, ln0, ln1, ln2, ln3, ln4, ln5, ln6, ln7, ln8, ln9, ln10, ln11, ln12, ln13, ln14, ln15, ln16, ln17, ln18, ln19, ln20, ln21, ln22, ln26, ln30, ln31, ln32, ln36, ln39, ln40, ln48, ln50, ln59, ln60, ln61, ln63, ln64, ln80, ln97, ln99, ln100, ln103, ln122, ln192, ln220, ln240, ln255, ln260, ln290, ln300, ln370, ln410, ln430, ln460, ln920, ln960, ln999, ln1000, ln2000, ln26880, ln1000000, ofNat_nI, nI_add, pk_mul, pk_sub, nI_leP, nI_ltP, nI_eqP, nI_clamp, gin_n, chk_t, nm_s, bd1_s, bd2_s, bd3_s, bd4_s, bI_n0, bI_1, chk_gz_bI, if_pos, if_neg, if_true, if_false, ite_some, nI_m1, m1_nI, m1_le, le_m1, m1_lt, lt_m1, m1_1, n_m1, n0_m1, m1_m1, not_true_eq_false, not_false_eq_true, in_0_1, in_0_2, in_0_5, in_0_6, in_0_7, in_0_15, in_0_19, in_0_20, in_0_39, in_0_60, in_0_63, in_0_99, in_0_999, in_1_8, in_1_9, in_1_20, in_1_300, in_1_999, in_50, in_0y, in_1y, in_x99, in_x999, within_eq, X_isStage, X_isPlace, M_isStage, M_isPlace, s4, hX, t1, t2]
        exact bad
      · obtain ⟨c, hc, hcc, e0⟩ : ∃ c, c ≤ 999 ∧ (∀ {h0 : Decidable (k = 1)}, @ite _ (k = 1) h0 p5 (nI 0) = nI c) ∧ (k = 1 → b ≤ c) ∧ (k ≠ 1 → c = 0) := by
          by_cases z : k = 1
          · obtain ⟨c, w1, w2, w3⟩ := v1 z
            exact ⟨c, w1, by intro h0; rw [if_pos z, w3], fun _ => w2, fun q => absurd z q⟩
          · exact ⟨0, by omega, by intro h0; rw [if_neg z], fun q => absurd q z, fun _ => rfl⟩
        by_cases d : nf < 16
        · have hx := X_add (c := nf) (L := 16) (n := 80) (cells := xa 5) (nI sc) (nI k) (nI a) (nI b) (nI c) d (by decide) rfl
          have hOK : OKf nr (fun j => [nI sc, nI k, nI a, nI b, nI c].getD j (nI 0)) := by
            refine ⟨isN.of hsc, isN.of hk, ⟨isN.of (by omega), ?_⟩, isN.of hb, isN.of hc, fun z => ?_, fun z => ?_, fun z => ?_, fun z => ?_⟩
            · show vN (nI a) < nr
              rw [vN_n (by omega)]; exact ha
            · show vN (nI b) < nr ∧ vN (nI b) ≠ vN (nI a)
              have z : vN (nI k) = 0 := z
              rw [vN_n (by omega)] at z
              rw [vN_n (by omega), vN_n (by omega)]
              exact v0 z
            · show vN (nI b) ≤ vN (nI c)
              have z : vN (nI k) = 1 := z
              rw [vN_n (by omega)] at z
              rw [vN_n (by omega), vN_n (by omega)]
              exact e0.1 z
            · show 1 ≤ vN (nI b) ∧ vN (nI b) ≤ 300
              have z : vN (nI k) = 2 := z
              rw [vN_n (by omega)] at z
              rw [vN_n (by omega)]
              exact v2 z
            · show nI c = 0
              have z : vN (nI k) ≠ 1 := z
              rw [vN_n (by omega)] at z
              rw [e0.2 z]; rfl
          obtain ⟨C, hC⟩ : ∃ C, C = upd (upd (upd (upd (upd (xa 5) (5 * nf) (nI sc)) (5 * nf + 1) (nI k)) (5 * nf + 2) (nI a)) (5 * nf + 3) (nI b)) (5 * nf + 4) (nI c) := ⟨_, rfl⟩
          obtain ⟨K, hK⟩ : ∃ K, K = upd (upd (upd (upd (upd (upd (ma 0) (290 + 5 * nf) (nI sc)) (290 + 5 * nf + 1) (nI k)) (290 + 5 * nf + 2) (nI a)) (290 + 5 * nf + 3) (nI b)) (290 + 5 * nf + 4) (nI c)) 4 (nI (nf + 1)) := ⟨_, rfl⟩
          have hC5 : ∀ j, j < 5 → C (5 * nf + j) = [nI sc, nI k, nI a, nI b, nI c].getD j (nI 0) := by
            intro j hj
            subst hC
            have cs : j = 0 ∨ j = 1 ∨ j = 2 ∨ j = 3 ∨ j = 4 := by omega
            rcases cs with rfl | rfl | rfl | rfl | rfl
            all_goals simp (disch := omega) only [upd_n, upd_s, Nat.add_zero]
            all_goals rfl
          have hK5 : ∀ j, j < 5 → K (290 + 5 * nf + j) = [nI sc, nI k, nI a, nI b, nI c].getD j (nI 0) := by
            intro j hj
            subst hK
            have cs : j = 0 ∨ j = 1 ∨ j = 2 ∨ j = 3 ∨ j = 4 := by omega
            rcases cs with rfl | rfl | rfl | rfl | rfl
            all_goals simp (disch := omega) only [upd_n, upd_s, Nat.add_zero]
            all_goals rfl
          have hCl : ∀ j, j < 5 * nf → C j = xa 5 j := by
            intro j hj
            subst hC
            simp (disch := omega) only [upd_n]
          have hK4 : K 4 = nI (nf + 1) := by rw [hK, upd_s]
          have hKl : ∀ j, j ≠ 4 → (j < 290 + 5 * nf ∨ 295 + 5 * nf ≤ j) → K j = ma 0 j := by
            intro j hj hj2
            subst hK
            simp (disch := omega) only [upd_n]
          refine ⟨nI nf, nI (nf + 1), C, K, ?_, ?_, ?_⟩
          · simp (disch := omega) only [↓lm1, ln0, ln1, ln2, ln3, ln4, ln5, ln6, ln7, ln8, ln9, ln10, ln11, ln12, ln13, ln14, ln15, ln16, ln17, ln18, ln19, ln20, ln21, ln22, ln26, ln30, ln31, ln32, ln36, ln39, ln40, ln48, ln50, ln59, ln60, ln61, ln63, ln64, ln80, ln97, ln99, ln100, ln103, ln122, ln192, ln220, ln240, ln255, ln260, ln290, ln300, ln370, ln410, ln430, ln460, ln920, ln960, ln999, ln1000, ln2000, ln26880, ln1000000, ofNat_nI, nI_add, pk_mul, pk_sub, nI_leP, nI_ltP, nI_eqP, nI_clamp, gin_n, chk_t, nm_s, bd1_s, bd2_s, bd3_s, bd4_s, bI_n0, bI_1, chk_gz_bI, if_pos, if_neg, if_true, if_false, ite_some, nI_m1, m1_nI, m1_le, le_m1, m1_lt, lt_m1, m1_1, n_m1, n0_m1, m1_m1, not_true_eq_false, not_false_eq_true, in_0_1, in_0_2, in_0_5, in_0_6, in_0_7, in_0_15, in_0_19, in_0_20, in_0_39, in_0_60, in_0_63, in_0_99, in_0_999, in_1_8, in_1_9, in_1_20, in_1_300, in_1_999, in_50, in_0y, in_1y, in_x99, in_x999, within_eq, X_isStage, X_isPlace, M_isStage, M_isPlace, s4, s5, l4, hX, t1, hcc, hx, hC]
          · simp (disch := omega) only [↓lm1, ln0, ln1, ln2, ln3, ln4, ln5, ln6, ln7, ln8, ln9, ln10, ln11, ln12, ln13, ln14, ln15, ln16, ln17, ln18, ln19, ln20, ln21, ln22, ln26, ln30, ln31, ln32, ln36, ln39, ln40, ln48, ln50, ln59, ln60, ln61, ln63, ln64, ln80, ln97, ln99, ln100, ln103, ln122, ln192, ln220, ln240, ln255, ln260, ln290, ln300, ln370, ln410, ln430, ln460, ln920, ln960, ln999, ln1000, ln2000, ln26880, ln1000000, ofNat_nI, nI_add, pk_mul, pk_sub, nI_leP, nI_ltP, nI_eqP, nI_clamp, gin_n, chk_t, nm_s, bd1_s, bd2_s, bd3_s, bd4_s, bI_n0, bI_1, chk_gz_bI, if_pos, if_neg, if_true, if_false, ite_some, nI_m1, m1_nI, m1_le, le_m1, m1_lt, lt_m1, m1_1, n_m1, n0_m1, m1_m1, not_true_eq_false, not_false_eq_true, in_0_1, in_0_2, in_0_5, in_0_6, in_0_7, in_0_15, in_0_19, in_0_20, in_0_39, in_0_60, in_0_63, in_0_99, in_0_999, in_1_8, in_1_9, in_1_20, in_1_300, in_1_999, in_50, in_0y, in_1y, in_x99, in_x999, within_eq, X_isStage, X_isPlace, M_isStage, M_isPlace, k4, t2, hcc, upd_s, upd_n, Nat.add_sub_cancel, hK]
          · exact INV_now hI ⟨nc, nb, nd, nr, nf + 1, ng, ⟨l1, l2, l3, l4, l5⟩, ⟨⟨n1, n2, n3, n4, by omega, n6⟩, (hKl 0 (by omega) (by omega)).trans k0, (hKl 1 (by omega) (by omega)).trans k1, (hKl 2 (by omega) (by omega)).trans k2, (hKl 3 (by omega) (by omega)).trans k3, hK4, (hKl 5 (by omega) (by omega)).trans k5⟩, ⟨s1, s2, s3, s4, rfl, s6⟩, B_su_c h4 (fun i hi => hKl _ (by omega) (by omega)), B_two_c h5 (fun k a b => hKl _ (by omega) (by omega)), B_two_c h6 (fun k a b => hKl _ (by omega) (by omega)), B_two_c h7 (fun k a b => hKl _ (by omega) (by omega)), B_nu_c h8 (fun k a b => hKl _ (by omega) (by omega)), B_fa_add h9 (fun j hj => (hC5 j hj).trans (hK5 j hj).symm) (OKf_c hOK (fun j hj => hK5 j hj)) (fun k hk => hCl k hk) (fun k h1 h2 => hKl _ (by omega) (by omega)), B_si_c h10 (fun k h1 h2 => hKl _ (by omega) (by omega)), B_ar_c h11 (fun i hi => hKl _ (by omega) (by omega)), B_he_c h12 (fun i hi => hKl _ (by omega) (by omega))⟩ (fun k hk => va_up_ne _ _ (by omega)) (fun k hk => va_up_ne _ _ (by omega)) (fun k hk => va_up_ne _ _ (by omega))
        · have e : nf = 16 := by omega
          subst e
          have hx := X_addF (L := 16) (n := 80) (cells := xa 5) (nI sc) (nI k) (nI a) (nI b) (nI c) (by decide)
          simp (disch := omega) only [↓lm1, ln0, ln1, ln2, ln3, ln4, ln5, ln6, ln7, ln8, ln9, ln10, ln11, ln12, ln13, ln14, ln15, ln16, ln17, ln18, ln19, ln20, ln21, ln22, ln26, ln30, ln31, ln32, ln36, ln39, ln40, ln48, ln50, ln59, ln60, ln61, ln63, ln64, ln80, ln97, ln99, ln100, ln103, ln122, ln192, ln220, ln240, ln255, ln260, ln290, ln300, ln370, ln410, ln430, ln460, ln920, ln960, ln999, ln1000, ln2000, ln26880, ln1000000, ofNat_nI, nI_add, pk_mul, pk_sub, nI_leP, nI_ltP, nI_eqP, nI_clamp, gin_n, chk_t, nm_s, bd1_s, bd2_s, bd3_s, bd4_s, bI_n0, bI_1, chk_gz_bI, if_pos, if_neg, if_true, if_false, ite_some, nI_m1, m1_nI, m1_le, le_m1, m1_lt, lt_m1, m1_1, n_m1, n0_m1, m1_m1, not_true_eq_false, not_false_eq_true, in_0_1, in_0_2, in_0_5, in_0_6, in_0_7, in_0_15, in_0_19, in_0_20, in_0_39, in_0_60, in_0_63, in_0_99, in_0_999, in_1_8, in_1_9, in_1_20, in_1_300, in_1_999, in_50, in_0y, in_1y, in_x99, in_x999, within_eq, X_isStage, X_isPlace, M_isStage, M_isPlace, s4, s5, l4, k4, hX, t1, t2, hcc, hx]
          refine ⟨_, _, _, _, rfl, rfl, ?_⟩
          rw [← s5, va_id, va_id, va_id]; exact hI
    · have hX := isRid_f c2
      have hM : ∀ p2 p4 p5, f_X10_isFact (ma 0) p2 p3 p4 p5 = some (nI 0) := by
        intro p2 p4 p5
        unfold f_X10_isFact
        rw [show f_X10_is (ma 0) (3 : Int32) p3 = some (nI 0) from M_is_f (by decide) k3 c2, bd1_s, if_pos (by decide)]
        rfl
      simp (disch := omega) only [↓lm1, ln0, ln1, ln2, ln3, ln4, ln5, ln6, ln7, ln8, ln9, ln10, ln11, ln12, ln13, ln14, ln15, ln16, ln17, ln18, ln19, ln20, ln21, ln22, ln26, ln30, ln31, ln32, ln36, ln39, ln40, ln48, ln50, ln59, ln60, ln61, ln63, ln64, ln80, ln97, ln99, ln100, ln103, ln122, ln192, ln220, ln240, ln255, ln260, ln290, ln300, ln370, ln410, ln430, ln460, ln920, ln960, ln999, ln1000, ln2000, ln26880, ln1000000, ofNat_nI, nI_add, pk_mul, pk_sub, nI_leP, nI_ltP, nI_eqP, nI_clamp, gin_n, chk_t, nm_s, bd1_s, bd2_s, bd3_s, bd4_s, bI_n0, bI_1, chk_gz_bI, if_pos, if_neg, if_true, if_false, ite_some, nI_m1, m1_nI, m1_le, le_m1, m1_lt, lt_m1, m1_1, n_m1, n0_m1, m1_m1, not_true_eq_false, not_false_eq_true, in_0_1, in_0_2, in_0_5, in_0_6, in_0_7, in_0_15, in_0_19, in_0_20, in_0_39, in_0_60, in_0_63, in_0_99, in_0_999, in_1_8, in_1_9, in_1_20, in_1_300, in_1_999, in_50, in_0y, in_1y, in_x99, in_x999, within_eq, X_isStage, X_isPlace, M_isStage, M_isPlace, s4, hX, hM]
      exact bad
  · simp (disch := omega) only [↓lm1, ln0, ln1, ln2, ln3, ln4, ln5, ln6, ln7, ln8, ln9, ln10, ln11, ln12, ln13, ln14, ln15, ln16, ln17, ln18, ln19, ln20, ln21, ln22, ln26, ln30, ln31, ln32, ln36, ln39, ln40, ln48, ln50, ln59, ln60, ln61, ln63, ln64, ln80, ln97, ln99, ln100, ln103, ln122, ln192, ln220, ln240, ln255, ln260, ln290, ln300, ln370, ln410, ln430, ln460, ln920, ln960, ln999, ln1000, ln2000, ln26880, ln1000000, ofNat_nI, nI_add, pk_mul, pk_sub, nI_leP, nI_ltP, nI_eqP, nI_clamp, gin_n, chk_t, nm_s, bd1_s, bd2_s, bd3_s, bd4_s, bI_n0, bI_1, chk_gz_bI, if_pos, if_neg, if_true, if_false, ite_some, nI_m1, m1_nI, m1_le, le_m1, m1_lt, lt_m1, m1_1, n_m1, n0_m1, m1_m1, not_true_eq_false, not_false_eq_true, in_0_1, in_0_2, in_0_5, in_0_6, in_0_7, in_0_15, in_0_19, in_0_20, in_0_39, in_0_60, in_0_63, in_0_99, in_0_999, in_1_8, in_1_9, in_1_20, in_1_300, in_1_999, in_50, in_0y, in_1y, in_x99, in_x999, within_eq, X_isStage, X_isPlace, M_isStage, M_isPlace, c1]
    exact bad
/-! sign -/
theorem X_cell {n0 n i c : Nat} {cells : Nat → Int32} (hi : i < n) (hn : n ≤ 400) (hc : c < 5) (hw : 5 * n ≤ n0) (h0 : n0 < 2 ^ 30) : f_X4_cell (nI n) n0 cells (nI i) (nI c) = some (cells (5 * i + c)) := by
  unfold f_X4_cell f_X4_has
  simp (disch := omega) only [↓lm1, ln0, ln1, ln2, ln3, ln4, ln5, ln6, ln7, ln8, ln9, ln10, ln11, ln12, ln13, ln14, ln15, ln16, ln17, ln18, ln19, ln20, ln21, ln22, ln26, ln30, ln31, ln32, ln36, ln39, ln40, ln48, ln50, ln59, ln60, ln61, ln63, ln64, ln80, ln97, ln99, ln100, ln103, ln122, ln192, ln220, ln240, ln255, ln260, ln290, ln300, ln370, ln410, ln430, ln460, ln920, ln960, ln999, ln1000, ln2000, ln26880, ln1000000, ofNat_nI, nI_add, pk_mul, pk_sub, nI_leP, nI_ltP, nI_eqP, nI_clamp, gin_n, chk_t, nm_s, bd1_s, bd2_s, bd3_s, bd4_s, bI_n0, bI_1, chk_gz_bI, if_pos, if_neg, if_true, if_false, ite_some, nI_m1, m1_nI, m1_le, le_m1, m1_lt, lt_m1, m1_1, n_m1, n0_m1, m1_m1, not_true_eq_false, not_false_eq_true]
theorem ats_at {ng : Nat} {cells bk : Nat → Int32} (h : ∀ i, i < ng → ∀ j, j < 4 → cells (5 * i + j) = bk (370 + 4 * i + j)) (ho : ∀ i, i < ng → OKs (fun j => bk (370 + 4 * i + j))) : ∀ i, i ≤ ng → ats bk i = atN cells i
  | 0, _ => rfl
  | i + 1, hi => by
    show ats bk i + _ = atN cells i + _
    rw [ats_at h ho i (by omega)]
    have e := h i (by omega) 0 (by omega)
    simp only [Nat.add_zero] at e
    obtain ⟨k, hk, hk2⟩ := (ho i (by omega)).1
    have hk2 : bk (370 + 4 * i) = nI k := hk2
    rw [e, hk2, vN_n (by omega)]
    by_cases c : k = 0
    · subst c; rfl
    · rw [if_neg c, if_neg (show ¬ nI k = 0 from nI_ne0 (by omega) (by omega))]
theorem X_countAtL {ng n0 : Nat} {cells : Nat → Int32} (hg : ng ≤ 10) (hn0 : n0 = 50) (hk : ∀ i, i < ng → isN (cells (5 * i)) 2) : ∀ n i, i + n = ng → ∀ fu, n < fu → f_X2_countAt_L1 (nI ng) n0 cells fu (nI (atN cells i)) (nI i) = some (nI (atN cells ng)) := by
  intro n
  induction n with
  | zero =>
    intro i hi fu hfu
    obtain ⟨fu, rfl⟩ : ∃ n, fu = n + 1 := ⟨fu - 1, by omega⟩
    obtain rfl : i = ng := by omega
    unfold f_X2_countAt_L1 f_X4_size
    simp (disch := omega) only [↓lm1, ln0, ln1, ln2, ln3, ln4, ln5, ln6, ln7, ln8, ln9, ln10, ln11, ln12, ln13, ln14, ln15, ln16, ln17, ln18, ln19, ln20, ln21, ln22, ln26, ln30, ln31, ln32, ln36, ln39, ln40, ln48, ln50, ln59, ln60, ln61, ln63, ln64, ln80, ln97, ln99, ln100, ln103, ln122, ln192, ln220, ln240, ln255, ln260, ln290, ln300, ln370, ln410, ln430, ln460, ln920, ln960, ln999, ln1000, ln2000, ln26880, ln1000000, ofNat_nI, nI_add, pk_mul, pk_sub, nI_leP, nI_ltP, nI_eqP, nI_clamp, gin_n, chk_t, nm_s, bd1_s, bd2_s, bd3_s, bd4_s, bI_n0, bI_1, chk_gz_bI, if_pos, if_neg, if_true, if_false, ite_some, nI_m1, m1_nI, m1_le, le_m1, m1_lt, lt_m1, m1_1, n_m1, n0_m1, m1_m1, not_true_eq_false, not_false_eq_true]
  | succ n ih =>
    intro i hi fu hfu
    obtain ⟨fu, rfl⟩ : ∃ n, fu = n + 1 := ⟨fu - 1, by omega⟩
    have hX := X_cell (n0 := n0) (cells := cells) (n := ng) (i := i) (c := 0) (by omega) (by omega) (by omega) (by omega) (by omega)
    rw [Nat.add_zero] at hX
    have h1 := ih (i + 1) (by omega) fu (by omega)
    obtain ⟨k, hk1, hk2⟩ := hk i (by omega)
    unfold f_X2_countAt_L1 f_X4_size
    rw [show atN cells (i + 1) = atN cells i + (if vN (cells (5 * i)) = 0 then 1 else 0) from rfl] at h1
    rw [hk2, vN_n (by omega)] at h1
    rw [hk2] at hX
    by_cases c : k = 0
    · subst c
      rw [if_pos rfl] at h1
      simp (disch := omega) only [↓lm1, ln0, ln1, ln2, ln3, ln4, ln5, ln6, ln7, ln8, ln9, ln10, ln11, ln12, ln13, ln14, ln15, ln16, ln17, ln18, ln19, ln20, ln21, ln22, ln26, ln30, ln31, ln32, ln36, ln39, ln40, ln48, ln50, ln59, ln60, ln61, ln63, ln64, ln80, ln97, ln99, ln100, ln103, ln122, ln192, ln220, ln240, ln255, ln260, ln290, ln300, ln370, ln410, ln430, ln460, ln920, ln960, ln999, ln1000, ln2000, ln26880, ln1000000, ofNat_nI, nI_add, pk_mul, pk_sub, nI_leP, nI_ltP, nI_eqP, nI_clamp, gin_n, chk_t, nm_s, bd1_s, bd2_s, bd3_s, bd4_s, bI_n0, bI_1, chk_gz_bI, if_pos, if_neg, if_true, if_false, ite_some, nI_m1, m1_nI, m1_le, le_m1, m1_lt, lt_m1, m1_1, n_m1, n0_m1, m1_m1, not_true_eq_false, not_false_eq_true, hX]
      exact h1
    · rw [if_neg c] at h1
      simp (disch := omega) only [↓lm1, ln0, ln1, ln2, ln3, ln4, ln5, ln6, ln7, ln8, ln9, ln10, ln11, ln12, ln13, ln14, ln15, ln16, ln17, ln18, ln19, ln20, ln21, ln22, ln26, ln30, ln31, ln32, ln36, ln39, ln40, ln48, ln50, ln59, ln60, ln61, ln63, ln64, ln80, ln97, ln99, ln100, ln103, ln122, ln192, ln220, ln240, ln255, ln260, ln290, ln300, ln370, ln410, ln430, ln460, ln920, ln960, ln999, ln1000, ln2000, ln26880, ln1000000, ofNat_nI, nI_add, pk_mul, pk_sub, nI_leP, nI_ltP, nI_eqP, nI_clamp, gin_n, chk_t, nm_s, bd1_s, bd2_s, bd3_s, bd4_s, bI_n0, bI_1, chk_gz_bI, if_pos, if_neg, if_true, if_false, ite_some, nI_m1, m1_nI, m1_le, le_m1, m1_lt, lt_m1, m1_1, n_m1, n0_m1, m1_m1, not_true_eq_false, not_false_eq_true, hX]
      exact h1
theorem X_countAt {ng n0 : Nat} {cells : Nat → Int32} (hg : ng ≤ 10) (hn0 : n0 = 50) (hk : ∀ i, i < ng → isN (cells (5 * i)) 2) : f_X2_countAt (nI ng) n0 cells = some (nI (atN cells ng)) := by
  unfold f_X2_countAt
  rw [show (0 : Int32) = nI 0 from rfl, show f_X2_countAt_L1 (nI ng) n0 cells FU (nI 0) (nI 0) = _ from X_countAtL hg hn0 hk ng 0 (by omega) FU (FU_big (by omega)), bd1_s]
theorem M_placesL {ng : Nat} {bk : Nat → Int32} (hg : ng ≤ 10) (h5 : bk 5 = nI ng) (hk : ∀ i, i < ng → isN (bk (370 + 4 * i)) 2) : ∀ n i, i + n = ng → ∀ fu, n < fu → f_X10_places_L1 bk fu (nI (ats bk i)) (nI i) = some (nI (ats bk ng)) := by
  intro n
  induction n with
  | zero =>
    intro i hi fu hfu
    obtain ⟨fu, rfl⟩ : ∃ n, fu = n + 1 := ⟨fu - 1, by omega⟩
    obtain rfl : i = ng := by omega
    unfold f_X10_places_L1
    simp (disch := omega) only [↓lm1, ln0, ln1, ln2, ln3, ln4, ln5, ln6, ln7, ln8, ln9, ln10, ln11, ln12, ln13, ln14, ln15, ln16, ln17, ln18, ln19, ln20, ln21, ln22, ln26, ln30, ln31, ln32, ln36, ln39, ln40, ln48, ln50, ln59, ln60, ln61, ln63, ln64, ln80, ln97, ln99, ln100, ln103, ln122, ln192, ln220, ln240, ln255, ln260, ln290, ln300, ln370, ln410, ln430, ln460, ln920, ln960, ln999, ln1000, ln2000, ln26880, ln1000000, ofNat_nI, nI_add, pk_mul, pk_sub, nI_leP, nI_ltP, nI_eqP, nI_clamp, gin_n, chk_t, nm_s, bd1_s, bd2_s, bd3_s, bd4_s, bI_n0, bI_1, chk_gz_bI, if_pos, if_neg, if_true, if_false, ite_some, nI_m1, m1_nI, m1_le, le_m1, m1_lt, lt_m1, m1_1, n_m1, n0_m1, m1_m1, not_true_eq_false, not_false_eq_true, h5]
  | succ n ih =>
    intro i hi fu hfu
    obtain ⟨fu, rfl⟩ : ∃ n, fu = n + 1 := ⟨fu - 1, by omega⟩
    have h1 := ih (i + 1) (by omega) fu (by omega)
    obtain ⟨k, hk1, hk2⟩ := hk i (by omega)
    unfold f_X10_places_L1
    rw [show ats bk (i + 1) = ats bk i + (if bk (370 + 4 * i) = 0 then 1 else 0) from rfl] at h1
    rw [hk2] at h1
    by_cases c : k = 0
    · subst c
      rw [if_pos (by rfl)] at h1
      simp (disch := omega) only [↓lm1, ln0, ln1, ln2, ln3, ln4, ln5, ln6, ln7, ln8, ln9, ln10, ln11, ln12, ln13, ln14, ln15, ln16, ln17, ln18, ln19, ln20, ln21, ln22, ln26, ln30, ln31, ln32, ln36, ln39, ln40, ln48, ln50, ln59, ln60, ln61, ln63, ln64, ln80, ln97, ln99, ln100, ln103, ln122, ln192, ln220, ln240, ln255, ln260, ln290, ln300, ln370, ln410, ln430, ln460, ln920, ln960, ln999, ln1000, ln2000, ln26880, ln1000000, ofNat_nI, nI_add, pk_mul, pk_sub, nI_leP, nI_ltP, nI_eqP, nI_clamp, gin_n, chk_t, nm_s, bd1_s, bd2_s, bd3_s, bd4_s, bI_n0, bI_1, chk_gz_bI, if_pos, if_neg, if_true, if_false, ite_some, nI_m1, m1_nI, m1_le, le_m1, m1_lt, lt_m1, m1_1, n_m1, n0_m1, m1_m1, not_true_eq_false, not_false_eq_true, h5, hk2]
      exact h1
    · rw [if_neg (show ¬ nI k = 0 from nI_ne0 (by omega) (by omega))] at h1
      simp (disch := omega) only [↓lm1, ln0, ln1, ln2, ln3, ln4, ln5, ln6, ln7, ln8, ln9, ln10, ln11, ln12, ln13, ln14, ln15, ln16, ln17, ln18, ln19, ln20, ln21, ln22, ln26, ln30, ln31, ln32, ln36, ln39, ln40, ln48, ln50, ln59, ln60, ln61, ln63, ln64, ln80, ln97, ln99, ln100, ln103, ln122, ln192, ln220, ln240, ln255, ln260, ln290, ln300, ln370, ln410, ln430, ln460, ln920, ln960, ln999, ln1000, ln2000, ln26880, ln1000000, ofNat_nI, nI_add, pk_mul, pk_sub, nI_leP, nI_ltP, nI_eqP, nI_clamp, gin_n, chk_t, nm_s, bd1_s, bd2_s, bd3_s, bd4_s, bI_n0, bI_1, chk_gz_bI, if_pos, if_neg, if_true, if_false, ite_some, nI_m1, m1_nI, m1_le, le_m1, m1_lt, lt_m1, m1_1, n_m1, n0_m1, m1_m1, not_true_eq_false, not_false_eq_true, h5, hk2]
      exact h1
theorem M_places {ng : Nat} {bk : Nat → Int32} (hg : ng ≤ 10) (h5 : bk 5 = nI ng) (hk : ∀ i, i < ng → isN (bk (370 + 4 * i)) 2) : f_X10_places bk = some (nI (ats bk ng)) := by
  unfold f_X10_places
  rw [show (0 : Int32) = nI 0 from rfl, show f_X10_places_L1 bk FU (nI 0) (nI 0) = _ from M_placesL hg h5 hk ng 0 (by omega) FU (FU_big (by omega)), bd1_s]
theorem atN_le (g : Nat → Int32) : ∀ n, atN g n ≤ n
  | 0 => Nat.le_refl _
  | n + 1 => by
    unfold atN
    have := atN_le g n
    by_cases c : vN (g (5 * n)) = 0
    · rw [if_pos c]; omega
    · rw [if_neg c]; omega
theorem q_sign : PP_sign INV := by
  intro xi xa mi ma hI p1 p2 p3 p4
  have bad : ∃ (r o0 : Int32) (o1 q0 : Nat → Int32), some ((-2 : Int32), xi 12, xa 6) = some (r, o0, o1) ∧ some ((-2 : Int32), ma 0) = some (r, q0) ∧ INV (va_up xi 12 o0) (va_up xa 6 o1) mi (va_up ma 0 q0) := ⟨_, _, _, _, rfl, rfl, by rw [va_id, va_id, va_id]; exact hI⟩
  have full : ∃ (r o0 : Int32) (o1 q0 : Nat → Int32), some ((-4 : Int32), xi 12, xa 6) = some (r, o0, o1) ∧ some ((-4 : Int32), ma 0) = some (r, q0) ∧ INV (va_up xi 12 o0) (va_up xa 6 o1) mi (va_up ma 0 q0) := ⟨_, _, _, _, rfl, rfl, by rw [va_id, va_id, va_id]; exact hI⟩
  obtain ⟨nc, nb, nd, nr, nf, ng, h1, h2, h3, h4, h5, h6, h7, h8, h9, h10, h11, h12⟩ := FB_now hI
  obtain ⟨⟨n1, n2, n3, n4, n5, n6⟩, k0, k1, k2, k3, k4, k5⟩ := h2
  obtain ⟨s1, s2, s3, s4, s5, s6⟩ := h3
  obtain ⟨l1, l2, l3, l4, l5⟩ := h1
  have hcell : ∀ i, i < ng → ∀ j, j < 4 → xa 6 (5 * i + j) = ma 0 (370 + 4 * i + j) := fun i hi => (h10.1 i hi).1
  have hok : ∀ i, i < ng → OKs (fun j => ma 0 (370 + 4 * i + j)) := fun i hi => (h10.1 i hi).2
  have hk6 : ∀ i, i < ng → isN (xa 6 (5 * i)) 2 := fun i hi => by
    have := hcell i hi 0 (by omega)
    simp only [Nat.add_zero] at this
    rw [this]; exact (hok i hi).1
  have hX := X_countAt (n0 := 50) n6 rfl hk6
  have hM := M_places (bk := ma 0) n6 k5 (fun i hi => (hok i hi).1)
  have hat := ats_at hcell hok ng (Nat.le_refl _)
  rw [hat] at hM
  have ha5 : atN (xa 6) ng ≤ 5 := by rw [← hat]; exact h10.2
  rw [s6] at bad full
  unfold f_X9_sign f_X10_sign
  rcases rc p1 2 (by decide) with ⟨k, hk, rfl⟩ | c1
  · rcases rc p2 20 (by decide) with ⟨x, hx, rfl⟩ | c2
    · rcases rc p4 39 (by decide) with ⟨q, hq, rfl⟩ | c4
      · rcases rc p3 q (by omega) with ⟨p, hp, rfl⟩ | c3
        · -- the numbers are right
          have add : ng < 10 → (k = 0 → atN (xa 6) ng < 5) → ∃ (r o0 : Int32) (o1 q0 : Nat → Int32), some (nI ng, nI (ng + 1), upd (upd (upd (upd (upd (xa 6) (5 * ng) (nI k)) (5 * ng + 1) (nI x)) (5 * ng + 2) (nI p)) (5 * ng + 3) (nI q)) (5 * ng + 4) (nI 0)) = some (r, o0, o1) ∧ some (nI ng, upd (upd (upd (upd (upd (ma 0) (370 + 4 * ng) (nI k)) (370 + 4 * ng + 1) (nI x)) (370 + 4 * ng + 2) (nI p)) (370 + 4 * ng + 3) (nI q)) 5 (nI (ng + 1))) = some (r, q0) ∧ INV (va_up xi 12 o0) (va_up xa 6 o1) mi (va_up ma 0 q0) := by
            intro d d2
            obtain ⟨C, hC⟩ : ∃ C, C = upd (upd (upd (upd (upd (xa 6) (5 * ng) (nI k)) (5 * ng + 1) (nI x)) (5 * ng + 2) (nI p)) (5 * ng + 3) (nI q)) (5 * ng + 4) (nI 0) := ⟨_, rfl⟩
            obtain ⟨K, hK⟩ : ∃ K, K = upd (upd (upd (upd (upd (ma 0) (370 + 4 * ng) (nI k)) (370 + 4 * ng + 1) (nI x)) (370 + 4 * ng + 2) (nI p)) (370 + 4 * ng + 3) (nI q)) 5 (nI (ng + 1)) := ⟨_, rfl⟩
            rw [← hC, ← hK]
            have hC5 : ∀ j, j < 4 → C (5 * ng + j) = [nI k, nI x, nI p, nI q].getD j (nI 0) := by
              intro j hj
              subst hC
              have cs : j = 0 ∨ j = 1 ∨ j = 2 ∨ j = 3 := by omega
              rcases cs with rfl | rfl | rfl | rfl
              all_goals simp (disch := omega) only [upd_n, upd_s, Nat.add_zero]
              all_goals rfl
            have hK5 : ∀ j, j < 4 → K (370 + 4 * ng + j) = [nI k, nI x, nI p, nI q].getD j (nI 0) := by
              intro j hj
              subst hK
              have cs : j = 0 ∨ j = 1 ∨ j = 2 ∨ j = 3 := by omega
              rcases cs with rfl | rfl | rfl | rfl
              all_goals simp (disch := omega) only [upd_n, upd_s, Nat.add_zero]
              all_goals rfl
            have hCl : ∀ j, j < 5 * ng → C j = xa 6 j := by
              intro j hj
              subst hC
              simp (disch := omega) only [upd_n]
            have hK4 : K 5 = nI (ng + 1) := by rw [hK, upd_s]
            have hKl : ∀ j, j ≠ 5 → (j < 370 + 4 * ng ∨ 374 + 4 * ng ≤ j) → K j = ma 0 j := by
              intro j hj hj2
              subst hK
              simp (disch := omega) only [upd_n]
            have hOK : OKs (fun j => [nI k, nI x, nI p, nI q].getD j (nI 0)) := by
              refine ⟨isN.of hk, isN.of hx, isN.of (by omega), isN.of hq, ?_⟩
              show vN (nI p) ≤ vN (nI q)
              rw [vN_n (by omega), vN_n (by omega)]; exact hp
            have hSI : B_si (ng + 1) C K := by
              refine ⟨fun i hi => ?_, ?_⟩
              · by_cases z : i = ng
                · subst z
                  exact ⟨fun j hj => (hC5 j hj).trans (hK5 j hj).symm, OKs_c hOK (fun j hj => hK5 j hj)⟩
                · exact ⟨fun j hj => by rw [hCl _ (by omega), hKl _ (by omega) (by omega)]; exact hcell i (by omega) j hj, OKs_c (hok i (by omega)) (fun j hj => hKl _ (by omega) (by omega))⟩
              · unfold ats
                rw [ats_c ng (fun k h1 h2 => hKl k (by omega) (by omega)), hat, show K (370 + 4 * ng) = nI k from hK5 0 (by omega)]
                by_cases z : k = 0
                · have := d2 z
                  by_cases z2 : nI k = 0
                  · rw [if_pos z2]; omega
                  · rw [if_neg z2]; omega
                · rw [if_neg (show ¬ nI k = 0 from nI_ne0 (by omega) (by omega))]; omega
            exact ⟨nI ng, nI (ng + 1), C, K, rfl, rfl, INV_now hI ⟨nc, nb, nd, nr, nf, ng + 1, ⟨l1, l2, l3, l4, l5⟩, ⟨⟨n1, n2, n3, n4, n5, by omega⟩, (hKl 0 (by omega) (by omega)).trans k0, (hKl 1 (by omega) (by omega)).trans k1, (hKl 2 (by omega) (by omega)).trans k2, (hKl 3 (by omega) (by omega)).trans k3, (hKl 4 (by omega) (by omega)).trans k4, hK4⟩, ⟨s1, s2, s3, s4, s5, rfl⟩, B_su_c h4 (fun i hi => hKl _ (by omega) (by omega)), B_two_c h5 (fun k a b => hKl _ (by omega) (by omega)), B_two_c h6 (fun k a b => hKl _ (by omega) (by omega)), B_two_c h7 (fun k a b => hKl _ (by omega) (by omega)), B_nu_c h8 (fun k a b => hKl _ (by omega) (by omega)), B_fa_c h9 (fun k h1 h2 => hKl _ (by omega) (by omega)), hSI, B_ar_c h11 (fun i hi => hKl _ (by omega) (by omega)), B_he_c h12 (fun i hi => hKl _ (by omega) (by omega))⟩ (fun k hk => va_up_ne _ _ (by omega)) (fun k hk => va_up_ne _ _ (by omega)) (fun k hk => va_up_ne _ _ (by omega))⟩
          by_cases d : ng < 10
          · have hx := X_add (c := ng) (L := 10) (n := 50) (cells := xa 6) (nI k) (nI x) (nI p) (nI q) (nI 0) d (by decide) rfl
            by_cases kz : k = 0
            · subst kz
              by_cases a5 : atN (xa 6) ng = 5
              · rw [a5] at hX hM
                simp (disch := omega) only [↓lm1, ln0, ln1, ln2, ln3, ln4, ln5, ln6, ln7, ln8, ln9, ln10, ln11, ln12, ln13, ln14, ln15, ln16, ln17, ln18, ln19, ln20, ln21, ln22, ln26, ln30, ln31, ln32, ln36, ln39, ln40, ln48, ln50, ln59, ln60, ln61, ln63, ln64, ln80, ln97, ln99, ln100, ln103, ln122, ln192, ln220, ln240, ln255, ln260, ln290, ln300, ln370, ln410, ln430, ln460, ln920, ln960, ln999, ln1000, ln2000, ln26880, ln1000000, ofNat_nI, nI_add, pk_mul, pk_sub, nI_leP, nI_ltP, nI_eqP, nI_clamp, gin_n, chk_t, nm_s, bd1_s, bd2_s, bd3_s, bd4_s, bI_n0, bI_1, chk_gz_bI, if_pos, if_neg, if_true, if_false, ite_some, nI_m1, m1_nI, m1_le, le_m1, m1_lt, lt_m1, m1_1, n_m1, n0_m1, m1_m1, not_true_eq_false, not_false_eq_true, in_0_1, in_0_2, in_0_5, in_0_6, in_0_7, in_0_15, in_0_19, in_0_20, in_0_39, in_0_60, in_0_63, in_0_99, in_0_999, in_1_8, in_1_9, in_1_20, in_1_300, in_1_999, in_50, in_0y, in_1y, in_x99, in_x999, within_eq, X_isStage, X_isPlace, M_isStage, M_isPlace, s6, l5, k5, hX, hM]
                exact full
              · have a6 : atN (xa 6) ng < 5 := by omega
                simp (disch := omega) only [↓lm1, ln0, ln1, ln2, ln3, ln4, ln5, ln6, ln7, ln8, ln9, ln10, ln11, ln12, ln13, ln14, ln15, ln16, ln17, ln18, ln19, ln20, ln21, ln22, ln26, ln30, ln31, ln32, ln36, ln39, ln40, ln48, ln50, ln59, ln60, ln61, ln63, ln64, ln80, ln97, ln99, ln100, ln103, ln122, ln192, ln220, ln240, ln255, ln260, ln290, ln300, ln370, ln410, ln430, ln460, ln920, ln960, ln999, ln1000, ln2000, ln26880, ln1000000, ofNat_nI, nI_add, pk_mul, pk_sub, nI_leP, nI_ltP, nI_eqP, nI_clamp, gin_n, chk_t, nm_s, bd1_s, bd2_s, bd3_s, bd4_s, bI_n0, bI_1, chk_gz_bI, if_pos, if_neg, if_true, if_false, ite_some, nI_m1, m1_nI, m1_le, le_m1, m1_lt, lt_m1, m1_1, n_m1, n0_m1, m1_m1, not_true_eq_false, not_false_eq_true, in_0_1, in_0_2, in_0_5, in_0_6, in_0_7, in_0_15, in_0_19, in_0_20, in_0_39, in_0_60, in_0_63, in_0_99, in_0_999, in_1_8, in_1_9, in_1_20, in_1_300, in_1_999, in_50, in_0y, in_1y, in_x99, in_x999, within_eq, X_isStage, X_isPlace, M_isStage, M_isPlace, s6, l5, k5, hX, hM, hx, upd_s, upd_n, Nat.add_sub_cancel]
                exact add d (fun _ => a6)
            · simp (disch := omega) only [↓lm1, ln0, ln1, ln2, ln3, ln4, ln5, ln6, ln7, ln8, ln9, ln10, ln11, ln12, ln13, ln14, ln15, ln16, ln17, ln18, ln19, ln20, ln21, ln22, ln26, ln30, ln31, ln32, ln36, ln39, ln40, ln48, ln50, ln59, ln60, ln61, ln63, ln64, ln80, ln97, ln99, ln100, ln103, ln122, ln192, ln220, ln240, ln255, ln260, ln290, ln300, ln370, ln410, ln430, ln460, ln920, ln960, ln999, ln1000, ln2000, ln26880, ln1000000, ofNat_nI, nI_add, pk_mul, pk_sub, nI_leP, nI_ltP, nI_eqP, nI_clamp, gin_n, chk_t, nm_s, bd1_s, bd2_s, bd3_s, bd4_s, bI_n0, bI_1, chk_gz_bI, if_pos, if_neg, if_true, if_false, ite_some, nI_m1, m1_nI, m1_le, le_m1, m1_lt, lt_m1, m1_1, n_m1, n0_m1, m1_m1, not_true_eq_false, not_false_eq_true, in_0_1, in_0_2, in_0_5, in_0_6, in_0_7, in_0_15, in_0_19, in_0_20, in_0_39, in_0_60, in_0_63, in_0_99, in_0_999, in_1_8, in_1_9, in_1_20, in_1_300, in_1_999, in_50, in_0y, in_1y, in_x99, in_x999, within_eq, X_isStage, X_isPlace, M_isStage, M_isPlace, s6, l5, k5, hx, upd_s, upd_n, Nat.add_sub_cancel]
              exact add d (fun z => absurd z kz)
          · have e : ng = 10 := by omega
            subst e
            have hx := X_addF (L := 10) (n := 50) (cells := xa 6) (nI k) (nI x) (nI p) (nI q) (nI 0) (by decide)
            by_cases kz : k = 0
            · subst kz
              by_cases a5 : atN (xa 6) 10 = 5
              · rw [a5] at hX hM
                simp (disch := omega) only [↓lm1, ln0, ln1, ln2, ln3, ln4, ln5, ln6, ln7, ln8, ln9, ln10, ln11, ln12, ln13, ln14, ln15, ln16, ln17, ln18, ln19, ln20, ln21, ln22, ln26, ln30, ln31, ln32, ln36, ln39, ln40, ln48, ln50, ln59, ln60, ln61, ln63, ln64, ln80, ln97, ln99, ln100, ln103, ln122, ln192, ln220, ln240, ln255, ln260, ln290, ln300, ln370, ln410, ln430, ln460, ln920, ln960, ln999, ln1000, ln2000, ln26880, ln1000000, ofNat_nI, nI_add, pk_mul, pk_sub, nI_leP, nI_ltP, nI_eqP, nI_clamp, gin_n, chk_t, nm_s, bd1_s, bd2_s, bd3_s, bd4_s, bI_n0, bI_1, chk_gz_bI, if_pos, if_neg, if_true, if_false, ite_some, nI_m1, m1_nI, m1_le, le_m1, m1_lt, lt_m1, m1_1, n_m1, n0_m1, m1_m1, not_true_eq_false, not_false_eq_true, in_0_1, in_0_2, in_0_5, in_0_6, in_0_7, in_0_15, in_0_19, in_0_20, in_0_39, in_0_60, in_0_63, in_0_99, in_0_999, in_1_8, in_1_9, in_1_20, in_1_300, in_1_999, in_50, in_0y, in_1y, in_x99, in_x999, within_eq, X_isStage, X_isPlace, M_isStage, M_isPlace, s6, l5, k5, hX, hM]
                exact full
              · have a6 : atN (xa 6) 10 < 5 := by omega
                simp (disch := omega) only [↓lm1, ln0, ln1, ln2, ln3, ln4, ln5, ln6, ln7, ln8, ln9, ln10, ln11, ln12, ln13, ln14, ln15, ln16, ln17, ln18, ln19, ln20, ln21, ln22, ln26, ln30, ln31, ln32, ln36, ln39, ln40, ln48, ln50, ln59, ln60, ln61, ln63, ln64, ln80, ln97, ln99, ln100, ln103, ln122, ln192, ln220, ln240, ln255, ln260, ln290, ln300, ln370, ln410, ln430, ln460, ln920, ln960, ln999, ln1000, ln2000, ln26880, ln1000000, ofNat_nI, nI_add, pk_mul, pk_sub, nI_leP, nI_ltP, nI_eqP, nI_clamp, gin_n, chk_t, nm_s, bd1_s, bd2_s, bd3_s, bd4_s, bI_n0, bI_1, chk_gz_bI, if_pos, if_neg, if_true, if_false, ite_some, nI_m1, m1_nI, m1_le, le_m1, m1_lt, lt_m1, m1_1, n_m1, n0_m1, m1_m1, not_true_eq_false, not_false_eq_true, in_0_1, in_0_2, in_0_5, in_0_6, in_0_7, in_0_15, in_0_19, in_0_20, in_0_39, in_0_60, in_0_63, in_0_99, in_0_999, in_1_8, in_1_9, in_1_20, in_1_300, in_1_999, in_50, in_0y, in_1y, in_x99, in_x999, within_eq, X_isStage, X_isPlace, M_isStage, M_isPlace, s6, l5, k5, hX, hM, hx]
                exact full
            · simp (disch := omega) only [↓lm1, ln0, ln1, ln2, ln3, ln4, ln5, ln6, ln7, ln8, ln9, ln10, ln11, ln12, ln13, ln14, ln15, ln16, ln17, ln18, ln19, ln20, ln21, ln22, ln26, ln30, ln31, ln32, ln36, ln39, ln40, ln48, ln50, ln59, ln60, ln61, ln63, ln64, ln80, ln97, ln99, ln100, ln103, ln122, ln192, ln220, ln240, ln255, ln260, ln290, ln300, ln370, ln410, ln430, ln460, ln920, ln960, ln999, ln1000, ln2000, ln26880, ln1000000, ofNat_nI, nI_add, pk_mul, pk_sub, nI_leP, nI_ltP, nI_eqP, nI_clamp, gin_n, chk_t, nm_s, bd1_s, bd2_s, bd3_s, bd4_s, bI_n0, bI_1, chk_gz_bI, if_pos, if_neg, if_true, if_false, ite_some, nI_m1, m1_nI, m1_le, le_m1, m1_lt, lt_m1, m1_1, n_m1, n0_m1, m1_m1, not_true_eq_false, not_false_eq_true, in_0_1, in_0_2, in_0_5, in_0_6, in_0_7, in_0_15, in_0_19, in_0_20, in_0_39, in_0_60, in_0_63, in_0_99, in_0_999, in_1_8, in_1_9, in_1_20, in_1_300, in_1_999, in_50, in_0y, in_1y, in_x99, in_x999, within_eq, X_isStage, X_isPlace, M_isStage, M_isPlace, s6, l5, k5, hx]
              exact full
        · -- p is not as told
          have c3' : ¬ (nI 0 ≤ p3 ∧ p3 ≤ nI 39) ∨ (∃ p, p ≤ 39 ∧ p3 = nI p ∧ q < p) := by
            rcases rc p3 39 (by decide) with ⟨p, hp, rfl⟩ | c5
            · exact Or.inr ⟨p, hp, rfl, Nat.lt_of_not_le (fun z => c3 ⟨nI_pos' (by omega), nI_le z (by omega)⟩)⟩
            · exact Or.inl c5
          rcases c3' with c5 | ⟨p, hp, rfl, hpq⟩
          · simp (disch := omega) only [↓lm1, ln0, ln1, ln2, ln3, ln4, ln5, ln6, ln7, ln8, ln9, ln10, ln11, ln12, ln13, ln14, ln15, ln16, ln17, ln18, ln19, ln20, ln21, ln22, ln26, ln30, ln31, ln32, ln36, ln39, ln40, ln48, ln50, ln59, ln60, ln61, ln63, ln64, ln80, ln97, ln99, ln100, ln103, ln122, ln192, ln220, ln240, ln255, ln260, ln290, ln300, ln370, ln410, ln430, ln460, ln920, ln960, ln999, ln1000, ln2000, ln26880, ln1000000, ofNat_nI, nI_add, pk_mul, pk_sub, nI_leP, nI_ltP, nI_eqP, nI_clamp, gin_n, chk_t, nm_s, bd1_s, bd2_s, bd3_s, bd4_s, bI_n0, bI_1, chk_gz_bI, if_pos, if_neg, if_true, if_false, ite_some, nI_m1, m1_nI, m1_le, le_m1, m1_lt, lt_m1, m1_1, n_m1, n0_m1, m1_m1, not_true_eq_false, not_false_eq_true, in_0_1, in_0_2, in_0_5, in_0_6, in_0_7, in_0_15, in_0_19, in_0_20, in_0_39, in_0_60, in_0_63, in_0_99, in_0_999, in_1_8, in_1_9, in_1_20, in_1_300, in_1_999, in_50, in_0y, in_1y, in_x99, in_x999, within_eq, X_isStage, X_isPlace, M_isStage, M_isPlace, c3, c5]
            rw [s6]
            exact bad
          · simp (disch := omega) only [↓lm1, ln0, ln1, ln2, ln3, ln4, ln5, ln6, ln7, ln8, ln9, ln10, ln11, ln12, ln13, ln14, ln15, ln16, ln17, ln18, ln19, ln20, ln21, ln22, ln26, ln30, ln31, ln32, ln36, ln39, ln40, ln48, ln50, ln59, ln60, ln61, ln63, ln64, ln80, ln97, ln99, ln100, ln103, ln122, ln192, ln220, ln240, ln255, ln260, ln290, ln300, ln370, ln410, ln430, ln460, ln920, ln960, ln999, ln1000, ln2000, ln26880, ln1000000, ofNat_nI, nI_add, pk_mul, pk_sub, nI_leP, nI_ltP, nI_eqP, nI_clamp, gin_n, chk_t, nm_s, bd1_s, bd2_s, bd3_s, bd4_s, bI_n0, bI_1, chk_gz_bI, if_pos, if_neg, if_true, if_false, ite_some, nI_m1, m1_nI, m1_le, le_m1, m1_lt, lt_m1, m1_1, n_m1, n0_m1, m1_m1, not_true_eq_false, not_false_eq_true, in_0_1, in_0_2, in_0_5, in_0_6, in_0_7, in_0_15, in_0_19, in_0_20, in_0_39, in_0_60, in_0_63, in_0_99, in_0_999, in_1_8, in_1_9, in_1_20, in_1_300, in_1_999, in_50, in_0y, in_1y, in_x99, in_x999, within_eq, X_isStage, X_isPlace, M_isStage, M_isPlace]
            rw [s6]
            exact bad
      · have c4' : ∀ a : Int32, nI 0 ≤ a → ¬ (a ≤ p4 ∧ p4 ≤ nI 39) := fun a ha z => c4 ⟨Int32.le_trans ha z.1, z.2⟩
        rcases rc p3 39 (by decide) with ⟨p, hp, rfl⟩ | c5
        · have c6 := c4' (nI p) (nI_pos' (by omega))
          simp (disch := omega) only [↓lm1, ln0, ln1, ln2, ln3, ln4, ln5, ln6, ln7, ln8, ln9, ln10, ln11, ln12, ln13, ln14, ln15, ln16, ln17, ln18, ln19, ln20, ln21, ln22, ln26, ln30, ln31, ln32, ln36, ln39, ln40, ln48, ln50, ln59, ln60, ln61, ln63, ln64, ln80, ln97, ln99, ln100, ln103, ln122, ln192, ln220, ln240, ln255, ln260, ln290, ln300, ln370, ln410, ln430, ln460, ln920, ln960, ln999, ln1000, ln2000, ln26880, ln1000000, ofNat_nI, nI_add, pk_mul, pk_sub, nI_leP, nI_ltP, nI_eqP, nI_clamp, gin_n, chk_t, nm_s, bd1_s, bd2_s, bd3_s, bd4_s, bI_n0, bI_1, chk_gz_bI, if_pos, if_neg, if_true, if_false, ite_some, nI_m1, m1_nI, m1_le, le_m1, m1_lt, lt_m1, m1_1, n_m1, n0_m1, m1_m1, not_true_eq_false, not_false_eq_true, in_0_1, in_0_2, in_0_5, in_0_6, in_0_7, in_0_15, in_0_19, in_0_20, in_0_39, in_0_60, in_0_63, in_0_99, in_0_999, in_1_8, in_1_9, in_1_20, in_1_300, in_1_999, in_50, in_0y, in_1y, in_x99, in_x999, within_eq, X_isStage, X_isPlace, M_isStage, M_isPlace, c4, c6]
          rw [s6]
          exact bad
        · simp (disch := omega) only [↓lm1, ln0, ln1, ln2, ln3, ln4, ln5, ln6, ln7, ln8, ln9, ln10, ln11, ln12, ln13, ln14, ln15, ln16, ln17, ln18, ln19, ln20, ln21, ln22, ln26, ln30, ln31, ln32, ln36, ln39, ln40, ln48, ln50, ln59, ln60, ln61, ln63, ln64, ln80, ln97, ln99, ln100, ln103, ln122, ln192, ln220, ln240, ln255, ln260, ln290, ln300, ln370, ln410, ln430, ln460, ln920, ln960, ln999, ln1000, ln2000, ln26880, ln1000000, ofNat_nI, nI_add, pk_mul, pk_sub, nI_leP, nI_ltP, nI_eqP, nI_clamp, gin_n, chk_t, nm_s, bd1_s, bd2_s, bd3_s, bd4_s, bI_n0, bI_1, chk_gz_bI, if_pos, if_neg, if_true, if_false, ite_some, nI_m1, m1_nI, m1_le, le_m1, m1_lt, lt_m1, m1_1, n_m1, n0_m1, m1_m1, not_true_eq_false, not_false_eq_true, in_0_1, in_0_2, in_0_5, in_0_6, in_0_7, in_0_15, in_0_19, in_0_20, in_0_39, in_0_60, in_0_63, in_0_99, in_0_999, in_1_8, in_1_9, in_1_20, in_1_300, in_1_999, in_50, in_0y, in_1y, in_x99, in_x999, within_eq, X_isStage, X_isPlace, M_isStage, M_isPlace, c4, c5]
          rw [s6]
          exact bad
    · simp (disch := omega) only [↓lm1, ln0, ln1, ln2, ln3, ln4, ln5, ln6, ln7, ln8, ln9, ln10, ln11, ln12, ln13, ln14, ln15, ln16, ln17, ln18, ln19, ln20, ln21, ln22, ln26, ln30, ln31, ln32, ln36, ln39, ln40, ln48, ln50, ln59, ln60, ln61, ln63, ln64, ln80, ln97, ln99, ln100, ln103, ln122, ln192, ln220, ln240, ln255, ln260, ln290, ln300, ln370, ln410, ln430, ln460, ln920, ln960, ln999, ln1000, ln2000, ln26880, ln1000000, ofNat_nI, nI_add, pk_mul, pk_sub, nI_leP, nI_ltP, nI_eqP, nI_clamp, gin_n, chk_t, nm_s, bd1_s, bd2_s, bd3_s, bd4_s, bI_n0, bI_1, chk_gz_bI, if_pos, if_neg, if_true, if_false, ite_some, nI_m1, m1_nI, m1_le, le_m1, m1_lt, lt_m1, m1_1, n_m1, n0_m1, m1_m1, not_true_eq_false, not_false_eq_true, in_0_1, in_0_2, in_0_5, in_0_6, in_0_7, in_0_15, in_0_19, in_0_20, in_0_39, in_0_60, in_0_63, in_0_99, in_0_999, in_1_8, in_1_9, in_1_20, in_1_300, in_1_999, in_50, in_0y, in_1y, in_x99, in_x999, within_eq, X_isStage, X_isPlace, M_isStage, M_isPlace, c2]
      rw [s6]
      exact bad
  · simp (disch := omega) only [↓lm1, ln0, ln1, ln2, ln3, ln4, ln5, ln6, ln7, ln8, ln9, ln10, ln11, ln12, ln13, ln14, ln15, ln16, ln17, ln18, ln19, ln20, ln21, ln22, ln26, ln30, ln31, ln32, ln36, ln39, ln40, ln48, ln50, ln59, ln60, ln61, ln63, ln64, ln80, ln97, ln99, ln100, ln103, ln122, ln192, ln220, ln240, ln255, ln260, ln290, ln300, ln370, ln410, ln430, ln460, ln920, ln960, ln999, ln1000, ln2000, ln26880, ln1000000, ofNat_nI, nI_add, pk_mul, pk_sub, nI_leP, nI_ltP, nI_eqP, nI_clamp, gin_n, chk_t, nm_s, bd1_s, bd2_s, bd3_s, bd4_s, bI_n0, bI_1, chk_gz_bI, if_pos, if_neg, if_true, if_false, ite_some, nI_m1, m1_nI, m1_le, le_m1, m1_lt, lt_m1, m1_1, n_m1, n0_m1, m1_m1, not_true_eq_false, not_false_eq_true, in_0_1, in_0_2, in_0_5, in_0_6, in_0_7, in_0_15, in_0_19, in_0_20, in_0_39, in_0_60, in_0_63, in_0_99, in_0_999, in_1_8, in_1_9, in_1_20, in_1_300, in_1_999, in_50, in_0y, in_1y, in_x99, in_x999, within_eq, X_isStage, X_isPlace, M_isStage, M_isPlace, c1]
    rw [s6]
    exact bad
