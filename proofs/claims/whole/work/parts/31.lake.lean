/-! ===== lake, shore ===== -/
theorem one0 : ¬ ((1 : Int32) = 0) := by decide
theorem n10 : ¬ (nI 1 = (0 : Int32)) := by decide
/-- the sum of n cells from g on -/
def smL (y : Nat → Int32) (g : Nat) : Nat → Nat
  | 0 => 0
  | n + 1 => smL y g n + vN (y (g + n))
theorem smL_c {y z : Nat → Int32} {g : Nat} : ∀ n, (∀ l, g ≤ l → l < g + n → y l = z l) → smL y g n = smL z g n
  | 0, _ => rfl
  | n + 1, e => by
    show smL y g n + _ = smL z g n + _
    rw [smL_c n (fun l h1 h2 => e l h1 (by omega)), e (g + n) (by omega) (by omega)]
theorem smL_le {y : Nat → Int32} {g : Nat} : ∀ n, (∀ l, g ≤ l → l < g + n → isN (y l) 999) → smL y g n ≤ 999 * n
  | 0, _ => Nat.le_refl _
  | n + 1, e => by
    have h1 := smL_le n (fun l h1 h2 => e l h1 (by omega))
    have h2 := (e (g + n) (by omega) (by omega)).le (by decide)
    show smL y g n + _ ≤ _
    omega
theorem volX {y : Nat → Int32} {g h : Nat} (hh : h ≤ 20) (hy : ∀ l, l < 20 → isN (y l) 999) : ∀ n i, i + n = h → g ≤ i → ∀ fu, n < fu → f_X3_volume_L1 (nI h) 20 y fu (nI (smL y g (i - g))) (nI i) = some (nI (smL y g (h - g))) := by
  intro n
  induction n with
  | zero =>
    intro i hi hg fu hfu
    obtain ⟨fu, rfl⟩ : ∃ n, fu = n + 1 := ⟨fu - 1, by omega⟩
    obtain rfl : i = h := by omega
    unfold f_X3_volume_L1
    rw [if_pos (Int32.le_refl _)]
  | succ n ih =>
    intro i hi hg fu hfu
    obtain ⟨fu, rfl⟩ : ∃ n, fu = n + 1 := ⟨fu - 1, by omega⟩
    have h1 := ih (i + 1) (by omega) (by omega) fu (by omega)
    have e1 : y i = nI (vN (y i)) := (hy i (by omega)).eq (by decide)
    rw [show i + 1 - g = (i - g) + 1 by omega, show smL y g (i - g + 1) = smL y g (i - g) + vN (y (g + (i - g))) from rfl, show g + (i - g) = i by omega] at h1
    unfold f_X3_volume_L1
    rw [if_neg (nI_ge (by omega) (by omega)), if_neg (show ¬ Int32.ofNat 20 ≤ nI i from nI_ge (b := 20) (by omega) (by decide)), gin_n (by omega) (by decide), chk_t, nm_s, cl_n (by omega), nI_1]
    rw [show nI (smL y g (i - g)) + y i = nI (smL y g (i - g) + vN (y i)) from by rw [← nI_add, ← e1]]
    exact h1
theorem X_vol {y : Nat → Int32} {g h : Nat} (hg : g ≤ h) (hh : h ≤ 20) (hy : ∀ l, l < 20 → isN (y l) 999) : f_X3_volume 20 y (nI h) (nI g) = some (nI (smL y g (h - g))) := by
  unfold f_X3_volume
  have e : (if (0 : Int32) < nI g then nI g else 0) = nI g := by
    by_cases c : g = 0
    · subst c; rfl
    · rw [if_pos (show (0 : Int32) < nI g from nI_lt (a := 0) (by omega) (by omega))]
  have h1 := volX (g := g) hh hy (h - g) g (by omega) (Nat.le_refl _) FU (FU_big (by omega))
  rw [Nat.sub_self] at h1
  rw [e, nm_s, show f_X3_volume_L1 (nI h) 20 y FU 0 (nI g) = _ from h1, bd1_s]
theorem volM {bk : Nat → Int32} {g h : Nat} (hh : h ≤ 20) (hy : ∀ l, l < 20 → isN (bk (410 + l)) 999) : ∀ n i, i + n = h → g ≤ i → ∀ fu, n < fu → f_X10_volume_L1 (nI h) bk fu (nI (smL (fun l => bk (410 + l)) g (i - g))) (nI i) = some (nI (smL (fun l => bk (410 + l)) g (h - g))) := by
  intro n
  induction n with
  | zero =>
    intro i hi hg fu hfu
    obtain ⟨fu, rfl⟩ : ∃ n, fu = n + 1 := ⟨fu - 1, by omega⟩
    obtain rfl : i = h := by omega
    unfold f_X10_volume_L1
    rw [if_pos (Int32.le_refl _)]
  | succ n ih =>
    intro i hi hg fu hfu
    obtain ⟨fu, rfl⟩ : ∃ n, fu = n + 1 := ⟨fu - 1, by omega⟩
    have h1 := ih (i + 1) (by omega) (by omega) fu (by omega)
    have e1 : bk (410 + i) = nI (vN (bk (410 + i))) := (hy i (by omega)).eq (by decide)
    rw [show i + 1 - g = (i - g) + 1 by omega, show smL (fun l => bk (410 + l)) g (i - g + 1) = smL (fun l => bk (410 + l)) g (i - g) + vN (bk (410 + (g + (i - g)))) from rfl, show g + (i - g) = i by omega] at h1
    unfold f_X10_volume_L1
    rw [if_neg (nI_ge (by omega) (by omega)), show (410 : Int32) + nI i = nI (410 + i) from nI_add 410 i, gin_n (by omega) (by decide), chk_t, nm_s, cl_n (by omega), nI_1]
    rw [show nI (smL (fun l => bk (410 + l)) g (i - g)) + bk (410 + i) = nI (smL (fun l => bk (410 + l)) g (i - g) + vN (bk (410 + i))) from by rw [← nI_add, ← e1]]
    exact h1
theorem M_vol {bk : Nat → Int32} {g h : Nat} (hg : g ≤ h) (hh : h ≤ 20) (hy : ∀ l, l < 20 → isN (bk (410 + l)) 999) : f_X10_volume bk (nI h) (nI g) = some (nI (smL (fun l => bk (410 + l)) g (h - g))) := by
  unfold f_X10_volume
  have h1 := volM (g := g) hh hy (h - g) g (by omega) (Nat.le_refl _) FU (FU_big (by omega))
  rw [Nat.sub_self] at h1
  rw [show f_X10_volume_L1 (nI h) bk FU 0 (nI g) = _ from h1, bd1_s]
theorem lakeT (p1 p2 : Int32) : (∃ h g, h ≤ 20 ∧ g < h ∧ p1 = nI h ∧ p2 = nI g ∧ f_X9_isHeightAndSill p1 p2 = some (nI 1) ∧ f_X10_isLake p1 p2 = some (nI 1)) ∨ (f_X9_isHeightAndSill p1 p2 = some (nI 0) ∧ f_X10_isLake p1 p2 = some (nI 0)) := by
  unfold f_X9_isHeightAndSill f_X10_isLake
  rcases rc p1 20 (by decide) with ⟨h, hh, rfl⟩ | c
  · rcases rcR p2 h (by omega) with ⟨g, hg, rfl⟩ | d
    · refine Or.inl ⟨h, g, hh, hg, rfl, rfl, ?_, ?_⟩
      · have := lt_R hg (by omega)
        simp (disch := omega) only [↓lm1, ln0, ln1, ln2, ln3, ln4, ln5, ln6, ln7, ln8, ln9, ln10, ln11, ln12, ln13, ln14, ln15, ln16, ln17, ln18, ln19, ln20, ln21, ln22, ln26, ln30, ln31, ln32, ln36, ln39, ln40, ln48, ln50, ln59, ln60, ln61, ln63, ln64, ln80, ln97, ln99, ln100, ln103, ln122, ln192, ln220, ln240, ln255, ln260, ln290, ln300, ln370, ln410, ln430, ln460, ln920, ln960, ln999, ln1000, ln2000, ln26880, ln1000000, ofNat_nI, nI_add, pk_mul, pk_sub, nI_leP, nI_ltP, nI_eqP, nI_clamp, gin_n, chk_t, nm_s, bd1_s, bd2_s, bd3_s, bd4_s, bI_n0, bI_1, chk_gz_bI, if_pos, if_neg, if_true, if_false, ite_some, nI_m1, m1_nI, m1_le, le_m1, m1_lt, lt_m1, m1_1, n_m1, n0_m1, m1_m1, not_true_eq_false, not_false_eq_true, in_0_1, in_0_2, in_0_5, in_0_6, in_0_7, in_0_15, in_0_19, in_0_20, in_0_39, in_0_60, in_0_63, in_0_99, in_0_999, in_1_8, in_1_9, in_1_20, in_1_300, in_1_999, in_50, in_0y, in_1y, in_x99, in_x999, within_eq, X_isStage, X_isPlace, M_isStage, M_isPlace]
      · simp (disch := omega) only [↓lm1, ln0, ln1, ln2, ln3, ln4, ln5, ln6, ln7, ln8, ln9, ln10, ln11, ln12, ln13, ln14, ln15, ln16, ln17, ln18, ln19, ln20, ln21, ln22, ln26, ln30, ln31, ln32, ln36, ln39, ln40, ln48, ln50, ln59, ln60, ln61, ln63, ln64, ln80, ln97, ln99, ln100, ln103, ln122, ln192, ln220, ln240, ln255, ln260, ln290, ln300, ln370, ln410, ln430, ln460, ln920, ln960, ln999, ln1000, ln2000, ln26880, ln1000000, ofNat_nI, nI_add, pk_mul, pk_sub, nI_leP, nI_ltP, nI_eqP, nI_clamp, gin_n, chk_t, nm_s, bd1_s, bd2_s, bd3_s, bd4_s, bI_n0, bI_1, chk_gz_bI, if_pos, if_neg, if_true, if_false, ite_some, nI_m1, m1_nI, m1_le, le_m1, m1_lt, lt_m1, m1_1, n_m1, n0_m1, m1_m1, not_true_eq_false, not_false_eq_true, in_0_1, in_0_2, in_0_5, in_0_6, in_0_7, in_0_15, in_0_19, in_0_20, in_0_39, in_0_60, in_0_63, in_0_99, in_0_999, in_1_8, in_1_9, in_1_20, in_1_300, in_1_999, in_50, in_0y, in_1y, in_x99, in_x999, within_eq, X_isStage, X_isPlace, M_isStage, M_isPlace]
    · refine Or.inr ⟨?_, ?_⟩
      · have d1 : ¬ ((0 : Int32) ≤ p2 ∧ p2 ≤ nI h - 1) := d
        rw [within_eq, bd1_s, bI_t (show (0 : Int32) ≤ nI h ∧ nI h ≤ 20 from rng_of hh (by decide)), if_neg one0, within_eq, bd1_s, bI_f d1, if_pos rfl]
        rfl
      · have d1 : ¬ ((0 : Int32) ≤ p2 ∧ p2 ≤ nI h - 1) := d
        rw [in_0_20, bd1_s, bI_t (show (0 : Int32) ≤ nI h ∧ nI h ≤ 20 from rng_of hh (by decide)), if_neg one0, in_0y, bd1_s, bI_f d1, if_pos rfl]
        rfl
  · refine Or.inr ⟨?_, ?_⟩
    · simp (disch := omega) only [↓lm1, ln0, ln1, ln2, ln3, ln4, ln5, ln6, ln7, ln8, ln9, ln10, ln11, ln12, ln13, ln14, ln15, ln16, ln17, ln18, ln19, ln20, ln21, ln22, ln26, ln30, ln31, ln32, ln36, ln39, ln40, ln48, ln50, ln59, ln60, ln61, ln63, ln64, ln80, ln97, ln99, ln100, ln103, ln122, ln192, ln220, ln240, ln255, ln260, ln290, ln300, ln370, ln410, ln430, ln460, ln920, ln960, ln999, ln1000, ln2000, ln26880, ln1000000, ofNat_nI, nI_add, pk_mul, pk_sub, nI_leP, nI_ltP, nI_eqP, nI_clamp, gin_n, chk_t, nm_s, bd1_s, bd2_s, bd3_s, bd4_s, bI_n0, bI_1, chk_gz_bI, if_pos, if_neg, if_true, if_false, ite_some, nI_m1, m1_nI, m1_le, le_m1, m1_lt, lt_m1, m1_1, n_m1, n0_m1, m1_m1, not_true_eq_false, not_false_eq_true, in_0_1, in_0_2, in_0_5, in_0_6, in_0_7, in_0_15, in_0_19, in_0_20, in_0_39, in_0_60, in_0_63, in_0_99, in_0_999, in_1_8, in_1_9, in_1_20, in_1_300, in_1_999, in_50, in_0y, in_1y, in_x99, in_x999, within_eq, X_isStage, X_isPlace, M_isStage, M_isPlace, c]
    · simp (disch := omega) only [↓lm1, ln0, ln1, ln2, ln3, ln4, ln5, ln6, ln7, ln8, ln9, ln10, ln11, ln12, ln13, ln14, ln15, ln16, ln17, ln18, ln19, ln20, ln21, ln22, ln26, ln30, ln31, ln32, ln36, ln39, ln40, ln48, ln50, ln59, ln60, ln61, ln63, ln64, ln80, ln97, ln99, ln100, ln103, ln122, ln192, ln220, ln240, ln255, ln260, ln290, ln300, ln370, ln410, ln430, ln460, ln920, ln960, ln999, ln1000, ln2000, ln26880, ln1000000, ofNat_nI, nI_add, pk_mul, pk_sub, nI_leP, nI_ltP, nI_eqP, nI_clamp, gin_n, chk_t, nm_s, bd1_s, bd2_s, bd3_s, bd4_s, bI_n0, bI_1, chk_gz_bI, if_pos, if_neg, if_true, if_false, ite_some, nI_m1, m1_nI, m1_le, le_m1, m1_lt, lt_m1, m1_1, n_m1, n0_m1, m1_m1, not_true_eq_false, not_false_eq_true, in_0_1, in_0_2, in_0_5, in_0_6, in_0_7, in_0_15, in_0_19, in_0_20, in_0_39, in_0_60, in_0_63, in_0_99, in_0_999, in_1_8, in_1_9, in_1_20, in_1_300, in_1_999, in_50, in_0y, in_1y, in_x99, in_x999, within_eq, X_isStage, X_isPlace, M_isStage, M_isPlace, c]
theorem q_shore : PP_shore INV := by
  intro xi xa mi ma hI p1 p2 p3 p4
  obtain ⟨nc, nb, nd, nr, nf, ng, h1, h2, h3, h4, h5, h6, h7, h8, h9, h10, h11, h12⟩ := FB_now hI
  have hyM : ∀ l, l < 20 → isN (ma 0 (410 + l)) 999 := fun l hl => (h11 l hl).2
  have hyX : ∀ l, l < 20 → isN (xa 7 l) 999 := fun l hl => by rw [(h11 l hl).1]; exact (h11 l hl).2
  have hv : ∀ h g, g ≤ h → h ≤ 20 → smL (fun l => ma 0 (410 + l)) g (h - g) = smL (xa 7) g (h - g) := fun h g a b => smL_c _ (fun l c d => (h11 l (by omega)).1.symm)
  unfold f_X9_shore f_X10_shore
  rcases lakeT p1 p2 with ⟨h, g, hh, hg, rfl, rfl, a, b⟩ | ⟨a, b⟩
  · rcases rc p3 20 (by decide) with ⟨e, he, rfl⟩ | c
    · rcases rc p4 1 (by decide) with ⟨k, hk, rfl⟩ | d
      · have e1 : (if nI h - nI e < nI g + nI 1 then nI g + nI 1 else nI h - nI e) = nI (if h ≤ e + g then g + 1 else h - e) ∧ (if nI h - nI e ≤ nI g then some (nI g + nI 1) else some (nI h - nI e)) = some (nI (if h ≤ e + g then g + 1 else h - e)) := by
          by_cases z : e ≤ h
          · rw [pk_sub z, nI_add]
            by_cases w : h ≤ e + g
            · rw [if_pos w, if_pos (nI_lt (by omega) (by omega)), if_pos (nI_le (by omega) (by omega))]; exact ⟨rfl, rfl⟩
            · rw [if_neg w, if_neg (nI_nlt (by omega) (by omega)), if_neg (nI_ge (by omega) (by omega))]; exact ⟨rfl, rfl⟩
          · have n0 : nI h - nI e < 0 := pk_sneg (by omega) (by omega)
            rw [nI_add, if_pos (show h ≤ e + g by omega), if_pos (Int32.lt_of_lt_of_le n0 (nI_pos' (by omega))), if_pos (Int32.le_trans (Int32.le_of_lt n0) (nI_pos' (by omega)))]
            exact ⟨rfl, rfl⟩
        have e2 : (if nI 20 < nI h + nI e then nI 20 else nI h + nI e) = nI (if h + e < 20 then h + e else 20) ∧ (if nI 20 ≤ nI h + nI e then some (nI 20) else some (nI h + nI e)) = some (nI (if h + e < 20 then h + e else 20)) := by
          rw [nI_add]
          by_cases w : h + e < 20
          · rw [if_pos w, if_neg (nI_nlt (by omega) (by omega)), if_neg (nI_ge (by omega) (by omega))]; exact ⟨rfl, rfl⟩
          · rw [if_neg w, if_pos (nI_le (by omega) (by omega))]
            refine ⟨?_, rfl⟩
            by_cases w2 : h + e = 20
            · rw [w2, if_neg (nI_nlt (by omega) (by omega))]
            · rw [if_pos (nI_lt (by omega) (by omega))]
        have q1 : g ≤ (if h ≤ e + g then g + 1 else h - e) ∧ (if h ≤ e + g then g + 1 else h - e) ≤ 20 := by
          by_cases w : h ≤ e + g
          · rw [if_pos w]; omega
          · rw [if_neg w]; omega
        have q2 : g ≤ (if h + e < 20 then h + e else 20) ∧ (if h + e < 20 then h + e else 20) ≤ 20 := by
          by_cases w : h + e < 20
          · rw [if_pos w]; omega
          · rw [if_neg w]; omega
        have v1 := X_vol q1.1 q1.2 hyX
        have v2 := X_vol q2.1 q2.2 hyX
        have w1 := M_vol (bk := ma 0) q1.1 q1.2 hyM
        have w2 := M_vol (bk := ma 0) q2.1 q2.2 hyM
        have r3 : (0 : Int32) ≤ nI e ∧ nI e ≤ 20 := rng_of he (by decide)
        have r4 : (0 : Int32) ≤ nI k ∧ nI k ≤ 1 := rng_of hk (by decide)
        rw [a, b, bd1_s, if_neg n10, bd1_s, if_neg n10, within_eq, bd1_s, bI_t r3, if_neg one0, in_0_20, bd1_s, bI_t r3, if_neg one0, within_eq, bd1_s, bI_t r4, if_neg one0, in_0_1, bd1_s, bI_t r4, if_neg one0]
        rw [show (if nI h - nI e ≤ nI g then some (nI g + 1) else some (nI h - nI e)) = _ from e1.2, bd1_s, show (if (20 : Int32) ≤ nI h + nI e then some (20 : Int32) else some (nI h + nI e)) = _ from e2.2, bd1_s, show (if nI h - nI e < nI g + 1 then nI g + 1 else nI h - nI e) = _ from e1.1, show (if (20 : Int32) < nI h + nI e then (20 : Int32) else nI h + nI e) = _ from e2.1]
        have cs : k = 0 ∨ k = 1 := by omega
        rcases cs with rfl | rfl
        · rw [if_pos (show nI 0 = (0 : Int32) from rfl), bd1_s, bd1_s, v1, w1, hv _ _ q1.1 q1.2]
          exact ⟨_, rfl, rfl, hI⟩
        · rw [if_neg n10, bd1_s, bd1_s, v2, w2, hv _ _ q2.1 q2.2]
          exact ⟨_, rfl, rfl, hI⟩
      · simp (disch := omega) only [↓lm1, ln0, ln1, ln2, ln3, ln4, ln5, ln6, ln7, ln8, ln9, ln10, ln11, ln12, ln13, ln14, ln15, ln16, ln17, ln18, ln19, ln20, ln21, ln22, ln26, ln30, ln31, ln32, ln36, ln39, ln40, ln48, ln50, ln59, ln60, ln61, ln63, ln64, ln80, ln97, ln99, ln100, ln103, ln122, ln192, ln220, ln240, ln255, ln260, ln290, ln300, ln370, ln410, ln430, ln460, ln920, ln960, ln999, ln1000, ln2000, ln26880, ln1000000, ofNat_nI, nI_add, pk_mul, pk_sub, nI_leP, nI_ltP, nI_eqP, nI_clamp, gin_n, chk_t, nm_s, bd1_s, bd2_s, bd3_s, bd4_s, bI_n0, bI_1, chk_gz_bI, if_pos, if_neg, if_true, if_false, ite_some, nI_m1, m1_nI, m1_le, le_m1, m1_lt, lt_m1, m1_1, n_m1, n0_m1, m1_m1, not_true_eq_false, not_false_eq_true, in_0_1, in_0_2, in_0_5, in_0_6, in_0_7, in_0_15, in_0_19, in_0_20, in_0_39, in_0_60, in_0_63, in_0_99, in_0_999, in_1_8, in_1_9, in_1_20, in_1_300, in_1_999, in_50, in_0y, in_1y, in_x99, in_x999, within_eq, X_isStage, X_isPlace, M_isStage, M_isPlace, a, b, d]
        exact ⟨_, rfl, rfl, hI⟩
    · simp (disch := omega) only [↓lm1, ln0, ln1, ln2, ln3, ln4, ln5, ln6, ln7, ln8, ln9, ln10, ln11, ln12, ln13, ln14, ln15, ln16, ln17, ln18, ln19, ln20, ln21, ln22, ln26, ln30, ln31, ln32, ln36, ln39, ln40, ln48, ln50, ln59, ln60, ln61, ln63, ln64, ln80, ln97, ln99, ln100, ln103, ln122, ln192, ln220, ln240, ln255, ln260, ln290, ln300, ln370, ln410, ln430, ln460, ln920, ln960, ln999, ln1000, ln2000, ln26880, ln1000000, ofNat_nI, nI_add, pk_mul, pk_sub, nI_leP, nI_ltP, nI_eqP, nI_clamp, gin_n, chk_t, nm_s, bd1_s, bd2_s, bd3_s, bd4_s, bI_n0, bI_1, chk_gz_bI, if_pos, if_neg, if_true, if_false, ite_some, nI_m1, m1_nI, m1_le, le_m1, m1_lt, lt_m1, m1_1, n_m1, n0_m1, m1_m1, not_true_eq_false, not_false_eq_true, in_0_1, in_0_2, in_0_5, in_0_6, in_0_7, in_0_15, in_0_19, in_0_20, in_0_39, in_0_60, in_0_63, in_0_99, in_0_999, in_1_8, in_1_9, in_1_20, in_1_300, in_1_999, in_50, in_0y, in_1y, in_x99, in_x999, within_eq, X_isStage, X_isPlace, M_isStage, M_isPlace, a, b, c]
      exact ⟨_, rfl, rfl, hI⟩
  · simp (disch := omega) only [↓lm1, ln0, ln1, ln2, ln3, ln4, ln5, ln6, ln7, ln8, ln9, ln10, ln11, ln12, ln13, ln14, ln15, ln16, ln17, ln18, ln19, ln20, ln21, ln22, ln26, ln30, ln31, ln32, ln36, ln39, ln40, ln48, ln50, ln59, ln60, ln61, ln63, ln64, ln80, ln97, ln99, ln100, ln103, ln122, ln192, ln220, ln240, ln255, ln260, ln290, ln300, ln370, ln410, ln430, ln460, ln920, ln960, ln999, ln1000, ln2000, ln26880, ln1000000, ofNat_nI, nI_add, pk_mul, pk_sub, nI_leP, nI_ltP, nI_eqP, nI_clamp, gin_n, chk_t, nm_s, bd1_s, bd2_s, bd3_s, bd4_s, bI_n0, bI_1, chk_gz_bI, if_pos, if_neg, if_true, if_false, ite_some, nI_m1, m1_nI, m1_le, le_m1, m1_lt, lt_m1, m1_1, n_m1, n0_m1, m1_m1, not_true_eq_false, not_false_eq_true, a, b]
    exact ⟨_, rfl, rfl, hI⟩
/-! lake: the hours -/
theorem hiL {x m : Nat → Int32} {g : Nat} : ∀ n, g + n < 20 → (∀ l, g ≤ l → l ≤ g + n → x l = m l ∧ isN (m l) 999) → 0 < smL m g (n + 1) → ∀ fu fv, n < fu → n < fv → ∃ t, t ≤ n ∧ f_X3_highestWithSomething_L1 (nI g) x fu (nI (g + n)) = some (nI (g + t)) ∧ f_X10_drains_L7 m fv (nI (g + n)) = some (nI (g + t)) ∧ (∀ l, g + t < l → l ≤ g + n → m l = 0) ∧ smL m g (t + 1) = smL m g (n + 1) := by
  intro n
  induction n with
  | zero =>
    intro hn hx hs fu fv hfu hfv
    obtain ⟨fu, rfl⟩ : ∃ n, fu = n + 1 := ⟨fu - 1, by omega⟩
    obtain ⟨fv, rfl⟩ : ∃ n, fv = n + 1 := ⟨fv - 1, by omega⟩
    have h0 : smL m g 1 = vN (m g) := by show 0 + vN (m (g + 0)) = _; rw [Nat.zero_add, Nat.add_zero]
    have hm : ¬ m g = 0 := by
      intro z
      rw [h0, z, show (0 : Int32) = nI 0 from rfl, vN_n (by decide)] at hs
      omega
    refine ⟨0, Nat.le_refl _, ?_, ?_, fun l a b => by omega, rfl⟩
    · unfold f_X3_highestWithSomething_L1
      rw [if_pos (show nI (g + 0) ≤ nI g from nI_le (a := g) (by omega) (by omega))]
    · unfold f_X10_drains_L7
      rw [gin_n hn (by decide), chk_t, cl_n (by omega), Nat.add_zero, if_neg hm]
  | succ n ih =>
    intro hn hx hs fu fv hfu hfv
    obtain ⟨fu, rfl⟩ : ∃ n, fu = n + 1 := ⟨fu - 1, by omega⟩
    obtain ⟨fv, rfl⟩ : ∃ n, fv = n + 1 := ⟨fv - 1, by omega⟩
    have h0 : smL m g (n + 1 + 1) = smL m g (n + 1) + vN (m (g + (n + 1))) := rfl
    have e := (hx (g + (n + 1)) (by omega) (by omega)).1
    by_cases z : m (g + (n + 1)) = 0
    · have z2 : vN (m (g + (n + 1))) = 0 := by rw [z, show (0 : Int32) = nI 0 from rfl, vN_n (by decide)]
      obtain ⟨t, t1, t2, t3, t4, t5⟩ := ih (by omega) (fun l a b => hx l a (by omega)) (by omega) fu fv (by omega) (by omega)
      refine ⟨t, by omega, ?_, ?_, fun l a b => ?_, by omega⟩
      · unfold f_X3_highestWithSomething_L1
        rw [if_neg (nI_ge (by omega) (by omega)), if_neg (nI_nle (by omega) (by omega)), gin_n hn (by decide), chk_t, cl_n (by omega), e, if_pos z, show g + (n + 1) = (g + n) + 1 by omega, pk_m1]
        exact t2
      · unfold f_X10_drains_L7
        rw [gin_n hn (by decide), chk_t, cl_n (by omega), if_pos z, show g + (n + 1) = (g + n) + 1 by omega, pk_m1]
        exact t3
      · by_cases w : l = g + (n + 1)
        · subst w; exact z
        · exact t4 l a (by omega)
    · refine ⟨n + 1, Nat.le_refl _, ?_, ?_, fun l a b => by omega, rfl⟩
      · unfold f_X3_highestWithSomething_L1
        rw [if_neg (nI_ge (by omega) (by omega)), if_neg (nI_nle (by omega) (by omega)), gin_n hn (by decide), chk_t, cl_n (by omega), e, if_neg z]
      · unfold f_X10_drains_L7
        rw [gin_n hn (by decide), chk_t, cl_n (by omega), if_neg z]
def AG (g h : Nat) (x m : Nat → Int32) : Prop := ∀ l, g ≤ l → l < h → x l = m l ∧ isN (m l) 999
theorem drL {g h : Nat} (hg : g < h) (hh : h ≤ 20) : ∀ n, g + n ≤ h → ∀ (s : Nat) (x m : Nat → Int32), AG g h x m → s ≤ smL m g n → ∀ fu fv, n < fu → n < fv → ∃ x' m', f_X3_drain_L1 (nI g) fu x (nI s) (if g + n = 0 then -1 else nI (g + n - 1)) = some x' ∧ f_X10_drains_L8 (nI g) fv m (nI s) (if g + n = 0 then -1 else nI (g + n - 1)) = some m' ∧ AG g h x' m' ∧ smL m' g n = smL m g n - s ∧ ∀ l, g + n ≤ l → m' l = m l := by
  intro n
  induction n with
  | zero =>
    intro hn s x m hA hs fu fv hfu hfv
    obtain ⟨fu, rfl⟩ : ∃ n, fu = n + 1 := ⟨fu - 1, by omega⟩
    obtain ⟨fv, rfl⟩ : ∃ n, fv = n + 1 := ⟨fv - 1, by omega⟩
    have hp : (if g + 0 = 0 then (-1 : Int32) else nI (g + 0 - 1)) < nI g := by
      by_cases c : g = 0
      · subst c; decide
      · rw [if_neg (by omega)]; exact nI_lt (by omega) (by omega)
    refine ⟨x, m, ?_, ?_, hA, by have : s ≤ 0 := hs; omega, fun l _ => rfl⟩
    · unfold f_X3_drain_L1
      rw [if_pos hp]
    · unfold f_X10_drains_L8
      rw [if_pos hp]
  | succ n ih =>
    intro hn s x m hA hs fu fv hfu hfv
    obtain ⟨fu, rfl⟩ : ∃ n, fu = n + 1 := ⟨fu - 1, by omega⟩
    obtain ⟨fv, rfl⟩ : ∃ n, fv = n + 1 := ⟨fv - 1, by omega⟩
    have e0 : (if g + (n + 1) = 0 then (-1 : Int32) else nI (g + (n + 1) - 1)) = nI (g + n) := by rw [if_neg (by omega)]; rfl
    have e3 : nI (g + n) + -1 = (if g + n = 0 then (-1 : Int32) else nI (g + n - 1)) := by
      by_cases c : g + n = 0
      · rw [if_pos c, c]; rfl
      · obtain ⟨j, hj⟩ : ∃ j, g + n = j + 1 := ⟨g + n - 1, by omega⟩
        rw [if_neg c, hj, pk_m1]
        rfl
    obtain ⟨a1, a2⟩ := hA (g + n) (by omega) (by omega)
    obtain ⟨v, v1, v2⟩ := a2
    have hsum : smL m g (n + 1) = smL m g n + v := by show smL m g n + vN (m (g + n)) = _; rw [v2, vN_n (by omega)]
    have hle : smL m g n ≤ 999 * n := smL_le n (fun l p q => (hA l p (by omega)).2)
    obtain ⟨go, hgo, hgo1, hgo2⟩ : ∃ go, go = (if v < s then v else s) ∧ go ≤ v ∧ go ≤ s := ⟨_, rfl, by by_cases c : v < s; (rw [if_pos c]; omega); (rw [if_neg c]; omega), by by_cases c : v < s; (rw [if_pos c]; omega); (rw [if_neg c]; omega)⟩
    have hgo3 : s - go ≤ smL m g n := by
      by_cases c : v < s
      · rw [if_pos c] at hgo; omega
      · rw [if_neg c] at hgo; omega
    have hA' : AG g h (upd x (g + n) (nI (v - go))) (upd m (g + n) (nI (v - go))) := by
      intro l p q
      by_cases c : l = g + n
      · subst c; rw [upd_s, upd_s]; exact ⟨rfl, isN.of (by omega)⟩
      · rw [upd_n _ _ c, upd_n _ _ c]; exact hA l p q
    have hsm : smL (upd m (g + n) (nI (v - go))) g n = smL m g n := smL_c n (fun l p q => upd_n _ _ (by omega))
    obtain ⟨x', m', b1, b2, b3, b4, b5⟩ := ih (by omega) (s - go) _ _ hA' (by rw [hsm]; exact hgo3) fu fv (by omega) (by omega)
    refine ⟨x', m', ?_, ?_, b3, ?_, fun l hl => by rw [b5 l (by omega), upd_n _ _ (by omega)]⟩
    · rw [e0]
      unfold f_X3_drain_L1
      have eg : (if nI v < nI s then nI v else nI s) = nI go := by
        rw [hgo]
        by_cases c : v < s
        · rw [if_pos c, if_pos (nI_lt c (by omega))]
        · rw [if_neg c, if_neg (nI_nlt (by omega) (by omega))]
      rw [if_neg (nI_nlt (by omega) (by omega)), if_neg (nI_pos (by omega)), gin_n (by omega) (by decide), chk_t, cl_n (by omega), a1, v2, eg, nm_s, chk_t, nm_s, chk_t, nm_s, nm_s, e3, pk_sub hgo1, pk_sub hgo2]
      exact b1
    · rw [e0]
      unfold f_X10_drains_L8
      have eg : (if nI s ≤ nI v then some (nI s) else chk true (some (nI v))) = some (nI go) := by
        rw [hgo]
        by_cases c : v < s
        · rw [if_pos c, if_neg (nI_ge c (by omega)), chk_t]
        · rw [if_neg c, if_pos (nI_le (by omega) (by omega))]
      rw [if_neg (nI_nlt (by omega) (by omega)), gin_n (by omega) (by decide), chk_t, cl_n (by omega), v2, eg, bd1_s, chk_t, nm_s, chk_t, nm_s, nm_s, e3, pk_sub hgo1, pk_sub hgo2]
      exact b2
    · show smL m' g n + vN (m' (g + n)) = _
      rw [b4, hsm, b5 (g + n) (by omega), upd_s, vN_n (by omega), hsum]
      omega
theorem runL {g h ru : Nat} {nu bk : Nat → Int32} (hg : g < h) (hh : h ≤ 20) (hru : 1 ≤ ru ∧ ru ≤ 999) (hnu : nu 2 = nI ru) (hbk : bk 8 = nI ru) : ∀ n i, i + n = 1000 → ∀ (t A gr : Nat) (x m : Nat → Int32), g + t < h → AG g h x m → smL m g (t + 1) = A → gr ≤ 20000 → ∀ fu fv, n < fu → n < fv → ∃ x' m' ho gr', f_X3_run_L1 (nI g) nu fu x (nI i) (nI gr) (nI A) (nI (g + t)) = some (x', ho, gr') ∧ f_X10_drains_L6 bk (nI g) fv m (nI i) (nI gr) (nI A) (nI (g + t)) = some (m', ho, gr') := by
  intro n
  induction n with
  | zero =>
    intro i hi t A gr x m ht hA hs hgr fu fv hfu hfv
    obtain ⟨fu, rfl⟩ : ∃ n, fu = n + 1 := ⟨fu - 1, by omega⟩
    obtain ⟨fv, rfl⟩ : ∃ n, fv = n + 1 := ⟨fv - 1, by omega⟩
    obtain rfl : i = 1000 := by omega
    refine ⟨x, m, nI 1000, nI gr, ?_, ?_⟩
    · unfold f_X3_run_L1
      by_cases c : nI A ≤ 0
      · rw [if_pos c]
      · rw [if_neg c, if_pos (by decide)]
    · unfold f_X10_drains_L6
      by_cases c : nI A ≤ 0
      · rw [if_pos c]
      · rw [if_neg c, if_pos (by decide)]
  | succ n ih =>
    intro i hi t A gr x m ht hA hs hgr fu fv hfu hfv
    obtain ⟨fu, rfl⟩ : ∃ n, fu = n + 1 := ⟨fu - 1, by omega⟩
    obtain ⟨fv, rfl⟩ : ∃ n, fv = n + 1 := ⟨fv - 1, by omega⟩
    by_cases c : A = 0
    · subst c
      refine ⟨x, m, nI i, nI gr, ?_, ?_⟩
      · unfold f_X3_run_L1
        rw [if_pos (by decide)]
      · unfold f_X10_drains_L6
        rw [if_pos (by decide)]
    · have hAle : A ≤ 19980 := by
        have := smL_le (y := m) (g := g) (t + 1) (fun l p q => (hA l p (by omega)).2)
        omega
      obtain ⟨u, u1, u2, u3, u4, u5⟩ := hiL (x := x) (m := m) (g := g) t (by omega) (fun l p q => hA l p (by omega)) (by omega) FU FU (FU_big (by omega)) (FU_big (by omega))
      have hmul : ru * (u + 1) ≤ 999 * 20 := Nat.mul_le_mul hru.2 (by omega)
      obtain ⟨o, ho, ho1, ho2⟩ : ∃ o, o = (if ru * (u + 1) < A then ru * (u + 1) else A) ∧ o ≤ A ∧ o ≤ 19980 := ⟨_, rfl, by by_cases c : ru * (u + 1) < A; (rw [if_pos c]; omega); (rw [if_neg c]; omega), by by_cases c : ru * (u + 1) < A; (rw [if_pos c]; omega); (rw [if_neg c]; omega)⟩
      obtain ⟨x', m', b1, b2, b3, b4, b5⟩ := drL hg hh (u + 1) (by omega) o x m hA (by omega) FU FU (FU_big (by omega)) (FU_big (by omega))
      rw [if_neg (by omega), show g + (u + 1) - 1 = g + u by omega] at b1 b2
      obtain ⟨x2, m2, h2, g2, c1, c2⟩ := ih (i + 1) (by omega) u (A - o) (if gr < o then o else gr) x' m' (by omega) b3 (by rw [b4, u5, hs]) (by by_cases c : gr < o; (rw [if_pos c]; omega); (rw [if_neg c]; omega)) fu fv (by omega) (by omega)
      refine ⟨x2, m2, h2, g2, ?_, ?_⟩
      · unfold f_X3_run_L1
        have hw : f_X3_highestWithSomething x (nI (g + t)) (nI g) = some (nI (g + u)) := by
          unfold f_X3_highestWithSomething
          rw [u2, bd1_s]
        have hd : f_X3_drain x (nI (g + u)) (nI g) (nI o) = some x' := by
          unfold f_X3_drain
          rw [b1, bd1_s]
        have eo : (if nI (ru * (u + 1)) < nI A then nI (ru * (u + 1)) else nI A) = nI o := by
          rw [ho]
          by_cases c : ru * (u + 1) < A
          · rw [if_pos c, if_pos (nI_lt c (by omega))]
          · rw [if_neg c, if_neg (nI_nlt (by omega) (by omega))]
        have eg : (if nI gr < nI o then nI o else nI gr) = nI (if gr < o then o else gr) := by
          by_cases c : gr < o
          · rw [if_pos c, if_pos (nI_lt c (by omega))]
          · rw [if_neg c, if_neg (nI_nlt (by omega) (by omega))]
        rw [if_neg (nI_nle (by omega) (by omega)), if_neg (show ¬ (1000 : Int32) ≤ nI i from nI_ge (b := 1000) (by omega) (by decide)), hw, bd1_s, show gin (2 : Int32) 6 = true from by decide, chk_t, show (2 : Int32).toNatClampNeg = 2 from by decide, hnu, pk_sub (by omega), show g + u - g = u by omega, nI_1, pk_mul, eo, nm_s, hd, bd1_s, nm_s, pk_sub ho1, eg, nm_s, nm_s, nI_1]
        exact c1
      · unfold f_X10_drains_L6
        have eo : (if nI A ≤ nI (ru * (u + 1)) then some (nI A) else some (nI (ru * (u + 1)))) = some (nI o) := by
          rw [ho]
          by_cases c : ru * (u + 1) < A
          · rw [if_pos c, if_neg (nI_ge c (by omega))]
          · rw [if_neg c, if_pos (nI_le (by omega) (by omega))]
        have eg : (if nI o ≤ nI gr then some (nI gr) else some (nI o)) = some (nI (if gr < o then o else gr)) := by
          by_cases c : gr < o
          · rw [if_pos c, if_neg (nI_ge c (by omega))]
          · rw [if_neg c, if_pos (nI_le (by omega) (by omega))]
        rw [if_neg (nI_nle (by omega) (by omega)), if_neg (show ¬ (1000 : Int32) ≤ nI i from nI_ge (b := 1000) (by omega) (by decide)), u3, bd1_s, show gin (8 : Int32) 460 = true from by decide, chk_t, show (8 : Int32).toNatClampNeg = 8 from by decide, hbk, pk_sub (by omega), show g + u - g = u by omega, nI_1, pk_mul, nm_s, eo, bd1_s, eg, bd1_s, nm_s, pk_sub ho1, b2, bd1_s, nm_s, nI_1]
        exact c2
theorem cpL {bk : Nat → Int32} {g h : Nat} (hh : h ≤ 20) : ∀ n i, i + n = h → ∀ fu, n < fu → ∀ m : Nat → Int32, ∃ m', f_X10_drains_L1 (nI h) bk fu m (nI i) = some m' ∧ (∀ l, i ≤ l → l < h → m' l = bk (410 + l)) ∧ ∀ l, l < i → m' l = m l := by
  intro n
  induction n with
  | zero =>
    intro i hi fu hfu m
    obtain ⟨fu, rfl⟩ : ∃ n, fu = n + 1 := ⟨fu - 1, by omega⟩
    obtain rfl : i = h := by omega
    refine ⟨m, ?_, fun l a b => by omega, fun l a => rfl⟩
    unfold f_X10_drains_L1
    rw [if_pos (Int32.le_refl _)]
  | succ n ih =>
    intro i hi fu hfu m
    obtain ⟨fu, rfl⟩ : ∃ n, fu = n + 1 := ⟨fu - 1, by omega⟩
    obtain ⟨m', b1, b2, b3⟩ := ih (i + 1) (by omega) fu (by omega) (upd m i (bk (410 + i)))
    refine ⟨m', ?_, fun l a b => ?_, fun l a => by rw [b3 l (by omega), upd_n _ _ (by omega)]⟩
    · unfold f_X10_drains_L1
      rw [if_neg (nI_ge (by omega) (by omega)), show (410 : Int32) + nI i = nI (410 + i) from nI_add 410 i, gin_n (by omega) (by decide), chk_t, nm_s, gin_n (by omega) (by decide), chk_t, nm_s, cl_n (by omega), cl_n (by omega), nI_1]
      exact b1
    · by_cases c : l = i
      · subst c; rw [b3 l (by omega), upd_s]
      · exact b2 l (by omega) b
theorem drains_run {g h ru : Nat} {nu bk ar lf ml : Nat → Int32} (hg : g < h) (hh : h ≤ 20) (hru : 1 ≤ ru ∧ ru ≤ 999) (hnu : nu 2 = nI ru) (hbk : bk 8 = nI ru) (hA : B_ar ar bk) : ∃ x' m' ho gr', f_X3_run ar lf nu (nI h) (nI g) = some (ho, gr', x') ∧ f_X10_drains bk ml (nI h) (nI g) = some (ho, gr', m') := by
  have hyM : ∀ l, l < 20 → isN (bk (410 + l)) 999 := fun l hl => (hA l hl).2
  have hyX : ∀ l, l < 20 → isN (ar l) 999 := fun l hl => by rw [(hA l hl).1]; exact (hA l hl).2
  have hv : smL (fun l => bk (410 + l)) g (h - g) = smL ar g (h - g) := smL_c _ (fun l c d => (hA l (by omega)).1.symm)
  obtain ⟨m, b1, b2, b3⟩ := cpL (bk := bk) (g := g) hh (h - g) g (by omega) FU (FU_big (by omega)) ml
  have hc : ∀ l, l < 20 → va_cpy ar lf (0 : Int32).toNatClampNeg (0 : Int32).toNatClampNeg (20 : Int32).toNatClampNeg l = ar l := by
    intro l hl
    rw [cl_0, show (20 : Int32).toNatClampNeg = 20 from by decide, pk_cpy_in (by omega) (by omega)]
    congr 1
    omega
  have hAG : AG g h (va_cpy ar lf (0 : Int32).toNatClampNeg (0 : Int32).toNatClampNeg (20 : Int32).toNatClampNeg) m := by
    intro l p q
    rw [hc l (by omega), b2 l p q]
    exact ⟨(hA l (by omega)).1, (hA l (by omega)).2⟩
  obtain ⟨t, ht⟩ : ∃ t, h = g + t + 1 := ⟨h - g - 1, by omega⟩
  have hsm : smL m g (t + 1) = smL ar g (h - g) := by
    rw [show h - g = t + 1 by omega]
    exact smL_c _ (fun l p q => by rw [b2 l p (by omega)]; exact (hA l (by omega)).1.symm)
  obtain ⟨x', m', ho, gr', c1, c2⟩ := runL hg hh hru hnu hbk 1000 0 rfl t (smL ar g (h - g)) 0 _ m (by omega) hAG hsm (by omega) FU FU (FU_big (by omega)) (FU_big (by omega))
  refine ⟨x', m', ho, gr', ?_, ?_⟩
  · unfold f_X3_run
    have e : (if (20 : Int32) < nI h then (20 : Int32) else nI h) = nI h := if_neg (nI_nlt (b := h) (a := 20) hh (by decide))
    rw [X_vol (by omega) hh hyX, bd1_s, show gcp 0 0 20 20 20 = true from by decide, chk_t, nm_s, e, nm_s, show nI h - 1 = nI (g + t) from by rw [show h = g + t + 1 from ht]; exact nI_pred _]
    rw [show (0 : Int32) = nI 0 from rfl] at c1 ⊢
    rw [c1, bd3_s]
  · unfold f_X10_drains
    rw [M_vol (by omega) hh hyM, hv, bd1_s, b1, bd1_s, nm_s, show nI h - 1 = nI (g + t) from by rw [show h = g + t + 1 from ht]; exact nI_pred _]
    rw [show (0 : Int32) = nI 0 from rfl]
    rw [c2, bd3_s]
theorem q_lake : PP_lake INV := by
  intro xi xa mi ma hI p1 p2 p3
  obtain ⟨nc, nb, nd, nr, nf, ng, h1, h2, h3, h4, h5, h6, h7, h8, h9, h10, h11, h12⟩ := FB_now hI
  have hyM : ∀ l, l < 20 → isN (ma 0 (410 + l)) 999 := fun l hl => (h11 l hl).2
  have hyX : ∀ l, l < 20 → isN (xa 7 l) 999 := fun l hl => by rw [(h11 l hl).1]; exact (h11 l hl).2
  have hW : ∀ (a b : Int32) (c : Nat → Int32) (d e : Int32) (f : Nat → Int32), INV (va_up (va_up xi 58 a) 59 b) (va_up xa 55 c) (va_up (va_up mi 6 d) 7 e) (va_up ma 14 f) := fun a b c d e f => INV_wk hI (fun k hk => by rw [va_up_ne _ _ (by omega), va_up_ne _ _ (by omega)]) (fun k hk => va_up_ne _ _ (by omega)) (by rw [va_up_ne _ _ (by omega), va_up_ne _ _ (by omega)]) (fun k hk => va_up_ne _ _ (by omega))
  obtain ⟨ru, r1, r2⟩ := h8.2.2.2.1.1
  have r3 := h8.2.2.2.1.2
  rw [r2, vN_n (by omega)] at r3
  have hnu : xa 4 2 = nI ru := by rw [h8.1 2 (by omega), r2]
  unfold f_X9_lake f_X10_lake
  rcases lakeT p1 p2 with ⟨h, g, hh, hg, rfl, rfl, a, b⟩ | ⟨a, b⟩
  · rcases rc p3 2 (by decide) with ⟨e, he, rfl⟩ | c
    · obtain ⟨x', m', ho, gr, d1, d2⟩ := drains_run (nu := xa 4) (bk := ma 0) (ar := xa 7) (lf := xa 55) (ml := ma 14) hg hh ⟨r3, r1⟩ hnu r2 h11
      have v1 := X_vol (g := g) (h := h) (by omega) hh hyX
      have w1 := M_vol (bk := ma 0) (g := g) (h := h) (by omega) hh hyM
      have hv : smL (fun l => ma 0 (410 + l)) g (h - g) = smL (xa 7) g (h - g) := smL_c _ (fun l c d => (h11 l (by omega)).1.symm)
      rw [hv] at w1
      have v1' : f_X3_volume (nI 20).toNatClampNeg (xa 7) (nI h) (nI g) = some (nI (smL (xa 7) g (h - g))) := v1
      unfold f_X3_hours f_X3_greatest
      have cs : e = 0 ∨ e = 1 ∨ e = 2 := by omega
      rcases cs with rfl | rfl | rfl
      · simp (disch := omega) only [↓lm1, ln0, ln1, ln2, ln3, ln4, ln5, ln6, ln7, ln8, ln9, ln10, ln11, ln12, ln13, ln14, ln15, ln16, ln17, ln18, ln19, ln20, ln21, ln22, ln26, ln30, ln31, ln32, ln36, ln39, ln40, ln48, ln50, ln59, ln60, ln61, ln63, ln64, ln80, ln97, ln99, ln100, ln103, ln122, ln192, ln220, ln240, ln255, ln260, ln290, ln300, ln370, ln410, ln430, ln460, ln920, ln960, ln999, ln1000, ln2000, ln26880, ln1000000, ofNat_nI, nI_add, pk_mul, pk_sub, nI_leP, nI_ltP, nI_eqP, nI_clamp, gin_n, chk_t, nm_s, bd1_s, bd2_s, bd3_s, bd4_s, bI_n0, bI_1, chk_gz_bI, if_pos, if_neg, if_true, if_false, ite_some, nI_m1, m1_nI, m1_le, le_m1, m1_lt, lt_m1, m1_1, n_m1, n0_m1, m1_m1, not_true_eq_false, not_false_eq_true, in_0_1, in_0_2, in_0_5, in_0_6, in_0_7, in_0_15, in_0_19, in_0_20, in_0_39, in_0_60, in_0_63, in_0_99, in_0_999, in_1_8, in_1_9, in_1_20, in_1_300, in_1_999, in_50, in_0y, in_1y, in_x99, in_x999, within_eq, X_isStage, X_isPlace, M_isStage, M_isPlace, a, b, d1, d2, v1, w1]
        exact ⟨_, _, _, _, _, _, _, rfl, rfl, hW _ _ _ _ _ _⟩
      · simp (disch := omega) only [↓lm1, ln0, ln1, ln2, ln3, ln4, ln5, ln6, ln7, ln8, ln9, ln10, ln11, ln12, ln13, ln14, ln15, ln16, ln17, ln18, ln19, ln20, ln21, ln22, ln26, ln30, ln31, ln32, ln36, ln39, ln40, ln48, ln50, ln59, ln60, ln61, ln63, ln64, ln80, ln97, ln99, ln100, ln103, ln122, ln192, ln220, ln240, ln255, ln260, ln290, ln300, ln370, ln410, ln430, ln460, ln920, ln960, ln999, ln1000, ln2000, ln26880, ln1000000, ofNat_nI, nI_add, pk_mul, pk_sub, nI_leP, nI_ltP, nI_eqP, nI_clamp, gin_n, chk_t, nm_s, bd1_s, bd2_s, bd3_s, bd4_s, bI_n0, bI_1, chk_gz_bI, if_pos, if_neg, if_true, if_false, ite_some, nI_m1, m1_nI, m1_le, le_m1, m1_lt, lt_m1, m1_1, n_m1, n0_m1, m1_m1, not_true_eq_false, not_false_eq_true, in_0_1, in_0_2, in_0_5, in_0_6, in_0_7, in_0_15, in_0_19, in_0_20, in_0_39, in_0_60, in_0_63, in_0_99, in_0_999, in_1_8, in_1_9, in_1_20, in_1_300, in_1_999, in_50, in_0y, in_1y, in_x99, in_x999, within_eq, X_isStage, X_isPlace, M_isStage, M_isPlace, a, b, d1, d2, v1, w1]
        exact ⟨_, _, _, _, _, _, _, rfl, rfl, hW _ _ _ _ _ _⟩
      · simp (disch := omega) only [↓lm1, ln0, ln1, ln2, ln3, ln4, ln5, ln6, ln7, ln8, ln9, ln10, ln11, ln12, ln13, ln14, ln15, ln16, ln17, ln18, ln19, ln20, ln21, ln22, ln26, ln30, ln31, ln32, ln36, ln39, ln40, ln48, ln50, ln59, ln60, ln61, ln63, ln64, ln80, ln97, ln99, ln100, ln103, ln122, ln192, ln220, ln240, ln255, ln260, ln290, ln300, ln370, ln410, ln430, ln460, ln920, ln960, ln999, ln1000, ln2000, ln26880, ln1000000, ofNat_nI, nI_add, pk_mul, pk_sub, nI_leP, nI_ltP, nI_eqP, nI_clamp, gin_n, chk_t, nm_s, bd1_s, bd2_s, bd3_s, bd4_s, bI_n0, bI_1, chk_gz_bI, if_pos, if_neg, if_true, if_false, ite_some, nI_m1, m1_nI, m1_le, le_m1, m1_lt, lt_m1, m1_1, n_m1, n0_m1, m1_m1, not_true_eq_false, not_false_eq_true, in_0_1, in_0_2, in_0_5, in_0_6, in_0_7, in_0_15, in_0_19, in_0_20, in_0_39, in_0_60, in_0_63, in_0_99, in_0_999, in_1_8, in_1_9, in_1_20, in_1_300, in_1_999, in_50, in_0y, in_1y, in_x99, in_x999, within_eq, X_isStage, X_isPlace, M_isStage, M_isPlace, a, b, d1, d2, v1, w1]
        exact ⟨_, _, _, _, _, _, _, rfl, rfl, hW _ _ _ _ _ _⟩
    · simp (disch := omega) only [↓lm1, ln0, ln1, ln2, ln3, ln4, ln5, ln6, ln7, ln8, ln9, ln10, ln11, ln12, ln13, ln14, ln15, ln16, ln17, ln18, ln19, ln20, ln21, ln22, ln26, ln30, ln31, ln32, ln36, ln39, ln40, ln48, ln50, ln59, ln60, ln61, ln63, ln64, ln80, ln97, ln99, ln100, ln103, ln122, ln192, ln220, ln240, ln255, ln260, ln290, ln300, ln370, ln410, ln430, ln460, ln920, ln960, ln999, ln1000, ln2000, ln26880, ln1000000, ofNat_nI, nI_add, pk_mul, pk_sub, nI_leP, nI_ltP, nI_eqP, nI_clamp, gin_n, chk_t, nm_s, bd1_s, bd2_s, bd3_s, bd4_s, bI_n0, bI_1, chk_gz_bI, if_pos, if_neg, if_true, if_false, ite_some, nI_m1, m1_nI, m1_le, le_m1, m1_lt, lt_m1, m1_1, n_m1, n0_m1, m1_m1, not_true_eq_false, not_false_eq_true, in_0_1, in_0_2, in_0_5, in_0_6, in_0_7, in_0_15, in_0_19, in_0_20, in_0_39, in_0_60, in_0_63, in_0_99, in_0_999, in_1_8, in_1_9, in_1_20, in_1_300, in_1_999, in_50, in_0y, in_1y, in_x99, in_x999, within_eq, X_isStage, X_isPlace, M_isStage, M_isPlace, a, b, c]
      exact ⟨_, _, _, _, _, _, _, rfl, rfl, hW _ _ _ _ _ _⟩
  · simp (disch := omega) only [↓lm1, ln0, ln1, ln2, ln3, ln4, ln5, ln6, ln7, ln8, ln9, ln10, ln11, ln12, ln13, ln14, ln15, ln16, ln17, ln18, ln19, ln20, ln21, ln22, ln26, ln30, ln31, ln32, ln36, ln39, ln40, ln48, ln50, ln59, ln60, ln61, ln63, ln64, ln80, ln97, ln99, ln100, ln103, ln122, ln192, ln220, ln240, ln255, ln260, ln290, ln300, ln370, ln410, ln430, ln460, ln920, ln960, ln999, ln1000, ln2000, ln26880, ln1000000, ofNat_nI, nI_add, pk_mul, pk_sub, nI_leP, nI_ltP, nI_eqP, nI_clamp, gin_n, chk_t, nm_s, bd1_s, bd2_s, bd3_s, bd4_s, bI_n0, bI_1, chk_gz_bI, if_pos, if_neg, if_true, if_false, ite_some, nI_m1, m1_nI, m1_le, le_m1, m1_lt, lt_m1, m1_1, n_m1, n0_m1, m1_m1, not_true_eq_false, not_false_eq_true, a, b]
    exact ⟨_, _, _, _, _, _, _, rfl, rfl, hW _ _ _ _ _ _⟩
