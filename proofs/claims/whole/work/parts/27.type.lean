/-! ===== type, clear, ice, warm, lake, shore ===== -/
theorem q_clear : PP_clear INV := by
  intro xi xa mi ma hI _
  obtain ⟨h1, h2, h3, h4, ⟨t, t1, t2, t3, t4⟩, h6, h7⟩ := hI
  refine ⟨nI t, 0, 0, ?_, ?_, ?_⟩
  · unfold f_X9_clear f_X6_size f_X6_empty
    rw [bd1_s, bd1_s, t2]
  · unfold f_X10_clear
    rw [t3]
  · unfold INV
    refine ⟨h1, h2, h3, h4, ⟨0, by omega, rfl, rfl, fun i hi => by omega⟩, h6, h7⟩
theorem byteN (z : Int64) : isN ((z &&& 255).toInt32) 255 := by
  refine ⟨(z.toBitVec &&& 255#64).toNat, ?_, ?_⟩
  · rw [BitVec.toNat_and]
    exact Nat.and_le_right
  · apply Int32.toBitVec_inj.mp
    rw [Int64.toBitVec_toInt32, BitVec.signExtend_eq_setWidth_of_le _ (by decide)]
    apply BitVec.eq_of_toNat_eq
    show (BitVec.setWidth 32 (z.toBitVec &&& 255#64)).toNat = (BitVec.ofNat 32 _).toNat
    rw [BitVec.toNat_setWidth, BitVec.toNat_ofNat]
theorem typeL (v : Int64) : ∀ (k t : Nat), t + k ≤ 240 → ∀ fu fv, k < fu → k < fv → ∀ x m : Nat → Int32, (∀ i, i < t → x i = m i ∧ isN (m i) 255) → ∃ x' m', f_X6_append_L1 v fu x (nI t) (if k = 0 then -8 else nI (8 * (k - 1))) = some (x', nI (t + k)) ∧ f_X10_type_L1 v fv m (nI t) (if k = 0 then -1 else nI (k - 1)) = some (m', nI (t + k)) ∧ (∀ i, i < t + k → x' i = m' i ∧ isN (m' i) 255) := by
  intro k
  induction k with
  | zero =>
    intro t ht fu fv hfu hfv x m hx
    obtain ⟨fu, rfl⟩ : ∃ n, fu = n + 1 := ⟨fu - 1, by omega⟩
    obtain ⟨fv, rfl⟩ : ∃ n, fv = n + 1 := ⟨fv - 1, by omega⟩
    refine ⟨x, m, ?_, ?_, hx⟩
    · unfold f_X6_append_L1
      rw [if_pos rfl, if_pos (by decide)]
      rfl
    · unfold f_X10_type_L1
      rw [if_pos rfl, if_pos (by decide)]
      rfl
  | succ k ih =>
    intro t ht fu fv hfu hfv x m hx
    obtain ⟨fu, rfl⟩ : ∃ n, fu = n + 1 := ⟨fu - 1, by omega⟩
    obtain ⟨fv, rfl⟩ : ∃ n, fv = n + 1 := ⟨fv - 1, by omega⟩
    have e0 : (if k + 1 = 0 then (-8 : Int32) else nI (8 * (k + 1 - 1))) = nI (8 * k) := by rw [if_neg (Nat.succ_ne_zero k)]; rfl
    have e1 : (if k + 1 = 0 then (-1 : Int32) else nI (k + 1 - 1)) = nI k := by rw [if_neg (Nat.succ_ne_zero k)]; rfl
    rw [e0, e1]
    have e2 : nI (8 * k) + -8 = (if k = 0 then (-8 : Int32) else nI (8 * (k - 1))) := by
      by_cases c : k = 0
      · subst c; rfl
      · obtain ⟨j, rfl⟩ : ∃ j, k = j + 1 := ⟨k - 1, by omega⟩
        rw [if_neg c, show 8 * (j + 1) = 8 * j + 8 by omega, ← nI_add, Int32.add_assoc, show nI 8 + -8 = 0 from by decide, Int32.add_zero]
        rfl
    have e3 : nI k + -1 = (if k = 0 then (-1 : Int32) else nI (k - 1)) := by
      by_cases c : k = 0
      · subst c; rfl
      · obtain ⟨j, rfl⟩ : ∃ j, k = j + 1 := ⟨k - 1, by omega⟩
        rw [if_neg c, pk_m1]
        rfl
    have e4 : (8 : Int32) * nI k = nI (8 * k) := pk_mul 8 k
    have hx' : ∀ i, i < t + 1 → upd x t (((v >>> ((nI (8 * k)).toInt64 &&& 63)) &&& (255 : Int64)).toInt32) i = upd m t (((v >>> ((nI (8 * k)).toInt64 &&& 63)) &&& (255 : Int64)).toInt32) i ∧ isN (upd m t (((v >>> ((nI (8 * k)).toInt64 &&& 63)) &&& (255 : Int64)).toInt32) i) 255 := by
      intro i hi
      by_cases c : i = t
      · subst c; rw [upd_s, upd_s]; exact ⟨rfl, byteN _⟩
      · rw [upd_n _ _ c, upd_n _ _ c]; exact hx i (by omega)
    obtain ⟨x', m', b1, b2, b3⟩ := ih (t + 1) (by omega) fu fv (by omega) (by omega) _ _ hx'
    rw [show t + 1 + k = t + (k + 1) by omega] at b1 b2 b3
    refine ⟨x', m', ?_, ?_, b3⟩
    · unfold f_X6_append_L1
      rw [if_neg (nI_pos (by omega)), nm_s, gin_n (by omega) (by decide), chk_t, nm_s, nm_s, cl_n (by omega), e2, nI_1]
      exact b1
    · unfold f_X10_type_L1
      rw [if_neg (nI_pos (by omega)), nm_s, gin_n (by omega) (by decide), chk_t, nm_s, nm_s, cl_n (by omega), e3, nI_1, e4]
      exact b2
theorem q_type : PP_type INV := by
  intro xi xa mi ma hI p1 p2
  have hI0 := hI
  obtain ⟨h1, h2, h3, h4, ⟨t, t1, t2, t3, t4⟩, h6, h7⟩ := hI0
  unfold f_X9_type f_X10_type f_X6_append
  by_cases c : (1 : Int32) ≤ p2 ∧ p2 ≤ 8
  · obtain ⟨n, hn, rfl⟩ := rng (x := p2) 8 (by decide) ⟨Int32.le_trans (by decide) c.1, c.2⟩
    have hn1 : 1 ≤ n := (nI_leI (a := 1) (by omega) (by omega)).mp c.1
    simp only [in_0_1, in_0_2, in_0_5, in_0_6, in_0_7, in_0_15, in_0_19, in_0_20, in_0_39, in_0_60, in_0_63, in_0_99, in_0_999, in_1_8, in_1_9, in_1_20, in_1_300, in_1_999, in_50, in_0y, in_1y, in_x99, in_x999, within_eq, X_isStage, X_isPlace, M_isStage, M_isPlace, bd1_s, bI_0]
    rw [if_neg (not_not_intro c), if_neg (not_not_intro c), t2, t3, nI_add, show (240 : Int32) - nI t = nI (240 - t) from pk_sub (a := 240) (by omega)]
    by_cases d : t + n ≤ 240
    · obtain ⟨x', m', b1, b2, b3⟩ := typeL p1 n t d FU FU (FU_big (by omega)) (FU_big (by omega)) (xa 56) (ma 15) t4
      rw [if_neg (by omega)] at b1 b2
      have e1 : (8 : Int32) * (nI n - 1) = nI (8 * (n - 1)) := by rw [show nI n - 1 = nI (n - 1) from pk_sub (b := 1) hn1]; exact pk_mul 8 _
      rw [if_pos (nI_le (by omega) (by omega)), if_pos (show nI (t + n) ≤ (240 : Int32) from nI_le (b := 240) (by omega) (by omega)), nm_s, nm_s, e1, b1, show nI n - 1 = nI (n - 1) from pk_sub (b := 1) hn1, b2, bd2_s, bd3_s, bd2_s]
      refine ⟨_, _, _, _, _, rfl, rfl, ?_⟩
      unfold INV
      exact ⟨h1, h2, h3, h4, ⟨t + n, d, rfl, rfl, b3⟩, h6, h7⟩
    · rw [if_neg (nI_ge (by omega) (by omega)), if_neg (show ¬ nI (t + n) ≤ (240 : Int32) from nI_ge (a := 240) (by omega) (by omega)), bd3_s]
      refine ⟨_, _, _, _, _, rfl, rfl, ?_⟩
      rw [← t2, va_id, va_id, va_id, show va_up mi 8 (xi 60) = mi from by rw [t2, ← t3, va_id]]
      exact hI
  · simp only [in_0_1, in_0_2, in_0_5, in_0_6, in_0_7, in_0_15, in_0_19, in_0_20, in_0_39, in_0_60, in_0_63, in_0_99, in_0_999, in_1_8, in_1_9, in_1_20, in_1_300, in_1_999, in_50, in_0y, in_1y, in_x99, in_x999, within_eq, X_isStage, X_isPlace, M_isStage, M_isPlace, bd1_s, bI_0, if_pos c]
    refine ⟨_, _, _, _, _, rfl, rfl, ?_⟩
    rw [va_id, va_id, va_id, va_id]
    exact hI
