/-! ===== surface, slope, flow, put, area, zone, ridge, count, type, clear ===== -/
theorem va_id {α : Type} (f : Nat → α) (k : Nat) : va_up f k (f k) = f := by
  funext j
  by_cases c : j = k
  · subst c; rw [va_up_self]
  · rw [va_up_ne _ _ c]
theorem q_surface : PP_surface INV := by
  intro xi xa mi ma hI p1 p2 p3
  obtain ⟨r, y, z, h1, h2, h3⟩ := p_surface (FB_now hI) p1 p2 p3
  exact ⟨r, y, z, h1, h2, INV_now hI h3 (fun k hk => rfl) (fun k hk => va_up_ne _ _ (by omega)) (fun k hk => va_up_ne _ _ (by omega))⟩
def clM (v : Int32) : Int32 := if nI 0 ≤ v then (if v ≤ nI 99 then v else nI 99) else nI 0
theorem clM_X (v : Int32) : (if nI 0 < (if v < nI 99 then v else nI 99) then (if v < nI 99 then v else nI 99) else nI 0) = clM v := by
  unfold clM
  by_cases c : v < nI 99
  · rw [if_pos c, if_pos (Int32.le_of_lt c)]
    by_cases d : nI 0 < v
    · rw [if_pos d, if_pos (Int32.le_of_lt d)]
    · rw [if_neg d]
      by_cases e : nI 0 ≤ v
      · rw [if_pos e]
        exact Int32.le_antisymm e (Int32.not_lt.mp d)
      · rw [if_neg e]
  · rw [if_neg c]
    have c2 := Int32.not_lt.mp c
    have c3 : nI 0 ≤ v := Int32.le_trans (by decide) c2
    rw [if_pos (by decide), if_pos c3]
    by_cases d : v ≤ nI 99
    · rw [if_pos d]; exact Int32.le_antisymm c2 d
    · rw [if_neg d]
theorem clM_N (v : Int32) : isN (clM v) 99 := by
  unfold clM
  by_cases c : nI 0 ≤ v
  · rw [if_pos c]
    by_cases d : v ≤ nI 99
    · rw [if_pos d]; exact rng 99 (by decide) ⟨c, d⟩
    · rw [if_neg d]; exact isN.of (Nat.le_refl _)
  · rw [if_neg c]; exact isN.of (by omega)
theorem clM_X0 (v : Int32) : (if (0 : Int32) < (if v < 99 then v else 99) then (if v < 99 then v else 99) else 0) = clM v := clM_X v
theorem clM_M0 (v : Int32) : (if (0 : Int32) ≤ v then (if v ≤ 99 then some v else some 99) else some 0) = some (clM v) := by
  unfold clM
  by_cases c : (0 : Int32) ≤ v
  · rw [if_pos c, if_pos (show nI 0 ≤ v from c)]
    by_cases d : v ≤ 99
    · rw [if_pos d, if_pos (show v ≤ nI 99 from d)]
    · rw [if_neg d, if_neg (show ¬ v ≤ nI 99 from d)]; rfl
  · rw [if_neg c, if_neg (show ¬ nI 0 ≤ v from c)]; rfl
theorem slopeL {a b : Nat} (ha : a ≤ 2) (hb : b ≤ 7) (p3 p4 : Int32) : ∀ n i, i + n = 8 → ∀ fu fv, n < fu → n < fv → ∀ su bk, B_su su bk → ∃ su' bk', f_X9_slope_L1 p3 p4 (nI (64 * a + 8 * b)) fu su (nI i) = some su' ∧ f_X10_slope_L1 p3 p4 (nI a) (nI b) fv bk (nI i) = some bk' ∧ B_su su' bk' ∧ ∀ k, (k < 20 ∨ 212 ≤ k) → bk' k = bk k := by
  intro n
  induction n with
  | zero =>
    intro i hi fu fv hfu hfv su bk hB
    obtain ⟨fu, rfl⟩ : ∃ n, fu = n + 1 := ⟨fu - 1, by omega⟩
    obtain ⟨fv, rfl⟩ : ∃ n, fv = n + 1 := ⟨fv - 1, by omega⟩
    refine ⟨su, bk, ?_, ?_, hB, fun _ _ => rfl⟩
    · unfold f_X9_slope_L1
      simp (disch := omega) only [↓lm1, ln0, ln1, ln2, ln3, ln4, ln5, ln6, ln7, ln8, ln9, ln10, ln11, ln12, ln13, ln14, ln15, ln16, ln17, ln18, ln19, ln20, ln21, ln22, ln26, ln30, ln31, ln32, ln36, ln39, ln40, ln48, ln50, ln59, ln60, ln61, ln63, ln64, ln80, ln97, ln99, ln100, ln103, ln122, ln192, ln220, ln240, ln255, ln260, ln290, ln300, ln370, ln410, ln430, ln460, ln920, ln960, ln999, ln1000, ln2000, ln26880, ln1000000, ofNat_nI, nI_add, pk_mul, pk_sub, nI_leP, nI_ltP, nI_eqP, nI_clamp, gin_n, chk_t, nm_s, bd1_s, bd2_s, bd3_s, bd4_s, bI_n0, bI_1, chk_gz_bI, if_pos, if_neg, if_true, if_false, ite_some, nI_m1, m1_nI, m1_le, le_m1, m1_lt, lt_m1, m1_1, n_m1, n0_m1, m1_m1, not_true_eq_false, not_false_eq_true]
    · unfold f_X10_slope_L1
      simp (disch := omega) only [↓lm1, ln0, ln1, ln2, ln3, ln4, ln5, ln6, ln7, ln8, ln9, ln10, ln11, ln12, ln13, ln14, ln15, ln16, ln17, ln18, ln19, ln20, ln21, ln22, ln26, ln30, ln31, ln32, ln36, ln39, ln40, ln48, ln50, ln59, ln60, ln61, ln63, ln64, ln80, ln97, ln99, ln100, ln103, ln122, ln192, ln220, ln240, ln255, ln260, ln290, ln300, ln370, ln410, ln430, ln460, ln920, ln960, ln999, ln1000, ln2000, ln26880, ln1000000, ofNat_nI, nI_add, pk_mul, pk_sub, nI_leP, nI_ltP, nI_eqP, nI_clamp, gin_n, chk_t, nm_s, bd1_s, bd2_s, bd3_s, bd4_s, bI_n0, bI_1, chk_gz_bI, if_pos, if_neg, if_true, if_false, ite_some, nI_m1, m1_nI, m1_le, le_m1, m1_lt, lt_m1, m1_1, n_m1, n0_m1, m1_m1, not_true_eq_false, not_false_eq_true]
  | succ n ih =>
    intro i hi fu fv hfu hfv su bk hB
    obtain ⟨fu, rfl⟩ : ∃ n, fu = n + 1 := ⟨fu - 1, by omega⟩
    obtain ⟨fv, rfl⟩ : ∃ n, fv = n + 1 := ⟨fv - 1, by omega⟩
    have hB' : B_su (upd su (64 * a + 8 * b + i) (clM (p3 - p4 * nI i))) (upd bk (20 + 64 * a + 8 * b + i) (clM (p3 - p4 * nI i))) := by
      intro j hj
      by_cases c : j = 64 * a + 8 * b + i
      · subst c
        rw [upd_s, show 20 + (64 * a + 8 * b + i) = 20 + 64 * a + 8 * b + i by omega, upd_s]
        exact ⟨rfl, clM_N _⟩
      · rw [upd_n _ _ c, upd_n _ _ (by omega)]
        exact hB j hj
    obtain ⟨su', bk', h1, h2, h3, h4⟩ := ih (i + 1) (by omega) fu fv (by omega) (by omega) _ _ hB'
    refine ⟨su', bk', ?_, ?_, h3, fun k hk => by rw [h4 k hk, upd_n _ _ (by omega)]⟩
    · unfold f_X9_slope_L1
      rw [clM_X0]
      simp (disch := omega) only [↓lm1, ln0, ln1, ln2, ln3, ln4, ln5, ln6, ln7, ln8, ln9, ln10, ln11, ln12, ln13, ln14, ln15, ln16, ln17, ln18, ln19, ln20, ln21, ln22, ln26, ln30, ln31, ln32, ln36, ln39, ln40, ln48, ln50, ln59, ln60, ln61, ln63, ln64, ln80, ln97, ln99, ln100, ln103, ln122, ln192, ln220, ln240, ln255, ln260, ln290, ln300, ln370, ln410, ln430, ln460, ln920, ln960, ln999, ln1000, ln2000, ln26880, ln1000000, ofNat_nI, nI_add, pk_mul, pk_sub, nI_leP, nI_ltP, nI_eqP, nI_clamp, gin_n, chk_t, nm_s, bd1_s, bd2_s, bd3_s, bd4_s, bI_n0, bI_1, chk_gz_bI, if_pos, if_neg, if_true, if_false, ite_some, nI_m1, m1_nI, m1_le, le_m1, m1_lt, lt_m1, m1_1, n_m1, n0_m1, m1_m1, not_true_eq_false, not_false_eq_true]
      exact h1
    · unfold f_X10_slope_L1
      simp only [nm_s]
      rw [clM_M0]
      simp (disch := omega) only [↓lm1, ln0, ln1, ln2, ln3, ln4, ln5, ln6, ln7, ln8, ln9, ln10, ln11, ln12, ln13, ln14, ln15, ln16, ln17, ln18, ln19, ln20, ln21, ln22, ln26, ln30, ln31, ln32, ln36, ln39, ln40, ln48, ln50, ln59, ln60, ln61, ln63, ln64, ln80, ln97, ln99, ln100, ln103, ln122, ln192, ln220, ln240, ln255, ln260, ln290, ln300, ln370, ln410, ln430, ln460, ln920, ln960, ln999, ln1000, ln2000, ln26880, ln1000000, ofNat_nI, nI_add, pk_mul, pk_sub, nI_leP, nI_ltP, nI_eqP, nI_clamp, gin_n, chk_t, nm_s, bd1_s, bd2_s, bd3_s, bd4_s, bI_n0, bI_1, chk_gz_bI, if_pos, if_neg, if_true, if_false, ite_some, nI_m1, m1_nI, m1_le, le_m1, m1_lt, lt_m1, m1_1, n_m1, n0_m1, m1_m1, not_true_eq_false, not_false_eq_true]
      exact h2
theorem rc50 (p : Int32) : (-50 ≤ p ∧ p ≤ 50) ∨ ¬ (-50 ≤ p ∧ p ≤ 50) := Classical.em _
theorem q_slope : PP_slope INV := by
  intro xi xa mi ma hI p1 p2 p3 p4
  have bad : f_X9_slope (xa 0) p1 p2 p3 p4 = some (-2, xa 0) → f_X10_slope (ma 0) p1 p2 p3 p4 = some (-2, ma 0) → ∃ (r : Int32) (o0 q0 : Nat → Int32), f_X9_slope (xa 0) p1 p2 p3 p4 = some (r, o0) ∧ f_X10_slope (ma 0) p1 p2 p3 p4 = some (r, q0) ∧ INV xi (va_up xa 0 o0) mi (va_up ma 0 q0) := fun h1 h2 => ⟨_, _, _, h1, h2, by rw [va_id, va_id]; exact hI⟩
  unfold f_X9_slope f_X10_slope at bad ⊢
  simp only [in_0_1, in_0_2, in_0_5, in_0_6, in_0_7, in_0_15, in_0_19, in_0_20, in_0_39, in_0_60, in_0_63, in_0_99, in_0_999, in_1_8, in_1_9, in_1_20, in_1_300, in_1_999, in_50, in_0y, in_1y, in_x99, in_x999, within_eq, X_isStage, X_isPlace, M_isStage, M_isPlace, bd1_s, bI_0] at bad ⊢
  by_cases c1 : (0 : Int32) ≤ p1 ∧ p1 ≤ 2
  · by_cases c2 : (0 : Int32) ≤ p2 ∧ p2 ≤ 7
    · by_cases c3 : (0 : Int32) ≤ p3 ∧ p3 ≤ 99
      · by_cases c4 : (-50 : Int32) ≤ p4 ∧ p4 ≤ 50
        · simp only [if_neg (not_not_intro c1), if_neg (not_not_intro c2), if_neg (not_not_intro c3), if_neg (not_not_intro c4), nm_s]
          obtain ⟨a, ha, rfl⟩ := rng 2 (by decide) c1
          obtain ⟨b, hb, rfl⟩ := rng 7 (by decide) c2
          obtain ⟨nc, nb, nd, nr, nf, ng, h1, h2, h3, h4, h5, h6, h7, h8, h9, h10, h11, h12⟩ := FB_now hI
          have q := h2.1
          obtain ⟨su', bk', e1, e2, e3, e4⟩ := slopeL ha hb p3 p4 8 0 rfl FU FU (FU_big (by decide)) (FU_big (by decide)) _ _ h4
          have e5 : (64 : Int32) * nI a + 8 * nI b = nI (64 * a + 8 * b) := by simp (disch := omega) only [↓lm1, ln0, ln1, ln2, ln3, ln4, ln5, ln6, ln7, ln8, ln9, ln10, ln11, ln12, ln13, ln14, ln15, ln16, ln17, ln18, ln19, ln20, ln21, ln22, ln26, ln30, ln31, ln32, ln36, ln39, ln40, ln48, ln50, ln59, ln60, ln61, ln63, ln64, ln80, ln97, ln99, ln100, ln103, ln122, ln192, ln220, ln240, ln255, ln260, ln290, ln300, ln370, ln410, ln430, ln460, ln920, ln960, ln999, ln1000, ln2000, ln26880, ln1000000, ofNat_nI, nI_add, pk_mul, pk_sub, nI_leP, nI_ltP, nI_eqP, nI_clamp, gin_n, chk_t, nm_s, bd1_s, bd2_s, bd3_s, bd4_s, bI_n0, bI_1, chk_gz_bI, if_pos, if_neg, if_true, if_false, ite_some, nI_m1, m1_nI, m1_le, le_m1, m1_lt, lt_m1, m1_1, n_m1, n0_m1, m1_m1, not_true_eq_false, not_false_eq_true]
          rw [e5, show (0 : Int32) = nI 0 from rfl, e1, e2, bd1_s, bd1_s]
          refine ⟨1, su', bk', rfl, rfl, INV_now hI ⟨nc, nb, nd, nr, nf, ng, h1, ?_, h3, e3, ?_, ?_, ?_, ?_, ?_, ?_, ?_, ?_⟩ (fun k hk => rfl) (fun k hk => va_up_ne _ _ (by omega)) (fun k hk => va_up_ne _ _ (by omega))⟩
          · exact CNT_c h2 (fun k hk => e4 k (by omega))
          · exact B_two_c h5 (fun k a b => e4 k (by omega))
          · exact B_two_c h6 (fun k a b => e4 k (by omega))
          · exact B_two_c h7 (fun k a b => e4 k (by omega))
          · exact B_nu_c h8 (fun k a b => e4 k (by omega))
          · exact B_fa_c h9 (fun k a b => e4 k (by omega))
          · exact B_si_c h10 (fun k a b => e4 k (by omega))
          · exact B_ar_c h11 (fun k a => e4 _ (by omega))
          · exact B_he_c h12 (fun k a => e4 _ (by omega))
        · simp only [if_neg (not_not_intro c1), if_neg (not_not_intro c2), if_neg (not_not_intro c3), if_pos c4] at bad ⊢
          exact bad trivial trivial
      · simp only [if_neg (not_not_intro c1), if_neg (not_not_intro c2), if_pos c3] at bad ⊢
        exact bad trivial trivial
    · simp only [if_neg (not_not_intro c1), if_pos c2] at bad ⊢
      exact bad trivial trivial
  · simp only [if_pos c1] at bad ⊢
    exact bad trivial trivial
theorem q_flow : PP_flow INV := by
  intro xi xa mi ma hI p1 p2
  unfold f_X9_flow f_X10_flow
  simp only [in_0_1, in_0_2, in_0_5, in_0_6, in_0_7, in_0_15, in_0_19, in_0_20, in_0_39, in_0_60, in_0_63, in_0_99, in_0_999, in_1_8, in_1_9, in_1_20, in_1_300, in_1_999, in_50, in_0y, in_1y, in_x99, in_x999, within_eq, X_isStage, X_isPlace, M_isStage, M_isPlace, bd1_s, bI_0]
  by_cases c1 : (0 : Int32) ≤ p1 ∧ p1 ≤ 2
  · by_cases c2 : (0 : Int32) ≤ p2 ∧ p2 ≤ 63
    · simp only [if_neg (not_not_intro c1), if_neg (not_not_intro c2)]
      obtain ⟨a, ha, rfl⟩ := rng 2 (by decide) c1
      obtain ⟨b, hb, rfl⟩ := rng 63 (by decide) c2
      obtain ⟨nc, nb, nd, nr, nf, ng, h1, h2, h3, h4, -⟩ := FB_now hI
      rw [X_flow rfl (by omega) (by omega), M_flow (by omega) (by omega), bd1_s, bd1_s]
      exact ⟨_, rfl, by rw [flowI_c (h := fun q => ma 0 (20 + (64 * a + q))) (h' := fun q => xa 0 (64 * a + q)) (by omega) (fun q hq => (h4 (64 * a + q) (by omega)).1.symm)], hI⟩
    · simp only [if_neg (not_not_intro c1), if_pos c2]
      exact ⟨_, rfl, rfl, hI⟩
  · simp only [if_pos c1]
    exact ⟨_, rfl, rfl, hI⟩
