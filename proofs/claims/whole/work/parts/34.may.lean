/-! ===== may ===== -/
def trnX (d r : Nat) : Int32 := match f_X5_turnBetween (2 * nI d) (nI r) with
  | some x => x
  | none => 0
theorem trn_X : ∀ d, d < 8 → ∀ r, r < 16 → f_X5_turnBetween (2 * nI d) (nI r) = some (trnX d r) := by decide +kernel
def trnM (d r : Nat) : Int32 := if (if 0 ≤ 2 * nI d - nI r then 2 * nI d - nI r else 2 * nI d - nI r + 16) ≤ 8 then (if 0 ≤ 2 * nI d - nI r then 2 * nI d - nI r else 2 * nI d - nI r + 16) else 16 - (if 0 ≤ 2 * nI d - nI r then 2 * nI d - nI r else 2 * nI d - nI r + 16)
theorem trn_eq : ∀ d, d < 8 → ∀ r, r < 16 → trnX d r = trnM d r := by decide +kernel
theorem bit_or : ∀ i, i < 3 → ∀ k, k < 2 ^ i → nI k ||| ((1 : Int32) <<< (nI i &&& 31)) = nI (k + 2 ^ i) := by decide +kernel
theorem mayL {su nu bk : Nat → Int32} {s p r : Nat} (hs : s < 10) (hB : B_su su bk) (h0 : nu 0 = bk 6) (ht : isN (bk 6) 7) (h1 : bk (260 + 2 * s) = nI p) (hp : p < 64) (h2 : bk (260 + 2 * s + 1) = nI r) (hr : r < 16) : ∀ n i, i + n = 3 → ∀ fu fv, n < fu → n < fv → ∀ k, k < 2 ^ i → ∃ q, q < 8 ∧ f_X5_stagesOf_L1 su (nI p) (nI r) nu fu (nI k) (nI i) = some (nI q) ∧ f_X10_mayOf_L1 (nI s) bk fv (nI k) (nI i) = some (nI q) := by
  intro n
  induction n with
  | zero =>
    intro i hi fu fv hfu hfv k hk
    obtain ⟨fu, rfl⟩ : ∃ n, fu = n + 1 := ⟨fu - 1, by omega⟩
    obtain ⟨fv, rfl⟩ : ∃ n, fv = n + 1 := ⟨fv - 1, by omega⟩
    obtain rfl : i = 3 := by omega
    refine ⟨k, hk, ?_, ?_⟩
    · unfold f_X5_stagesOf_L1
      rw [if_pos (by decide)]
    · unfold f_X10_mayOf_L1
      rw [if_pos (by decide)]
  | succ n ih =>
    intro i hi fu fv hfu hfv k hk
    obtain ⟨fu, rfl⟩ : ∃ n, fu = n + 1 := ⟨fu - 1, by omega⟩
    obtain ⟨fv, rfl⟩ : ∃ n, fv = n + 1 := ⟨fv - 1, by omega⟩
    have hpow : (2 : Nat) ^ (i + 1) = 2 ^ i + 2 ^ i := by rw [Nat.pow_succ]; omega
    have e1 : (260 : Int32) + 2 * nI s = nI (260 + 2 * s) := by simp (disch := omega) only [↓lm1, ln0, ln1, ln2, ln3, ln4, ln5, ln6, ln7, ln8, ln9, ln10, ln11, ln12, ln13, ln14, ln15, ln16, ln17, ln18, ln19, ln20, ln21, ln22, ln26, ln30, ln31, ln32, ln36, ln39, ln40, ln48, ln50, ln59, ln60, ln61, ln63, ln64, ln80, ln97, ln99, ln100, ln103, ln122, ln192, ln220, ln240, ln255, ln260, ln290, ln300, ln370, ln410, ln430, ln460, ln920, ln960, ln999, ln1000, ln2000, ln26880, ln1000000, ofNat_nI, nI_add, pk_mul, pk_sub, nI_leP, nI_ltP, nI_eqP, nI_clamp, gin_n, chk_t, nm_s, bd1_s, bd2_s, bd3_s, bd4_s, bI_n0, bI_1, chk_gz_bI, if_pos, if_neg, if_true, if_false, ite_some, nI_m1, m1_nI, m1_le, le_m1, m1_lt, lt_m1, m1_1, n_m1, n0_m1, m1_m1, not_true_eq_false, not_false_eq_true]
    have hfl : flowI (fun q => su (64 * i + q)) p = flowI (fun q => bk (20 + (64 * i + q))) p := flowI_c hp (fun q hq => (hB (64 * i + q) (by omega)).1)
    have hor := bit_or i (by omega) k hk
    unfold f_X5_stagesOf_L1 f_X10_mayOf_L1
    rw [if_neg (show ¬ (3 : Int32) ≤ nI i from nI_ge (b := 3) (by omega) (by decide)), X_flow rfl (by omega) hp, bd1_s, hfl, if_neg (show ¬ (3 : Int32) ≤ nI i from nI_ge (b := 3) (by omega) (by decide)), e1, gin_n (by omega) (by decide), chk_t, cl_n (by omega), h1, M_flow (by omega) hp, bd1_s, nI_1]
    obtain ⟨t, ht1, ht2⟩ := ht
    rcases flowI_to (h := fun q => bk (20 + (64 * i + q))) hp with z | ⟨d, z1, z2, -, -⟩
    · rw [if_pos z, if_pos z, bd1_s, if_pos (by decide), bd1_s, if_pos z, bd1_s, show gin (6 : Int32) 460 = true from by decide, chk_t, show (6 : Int32).toNatClampNeg = 6 from by decide, ht2, if_pos (show nI t < (100 : Int32) from nI_lt (b := 100) (by omega) (by decide)), nm_s, or_0]
      exact ih (i + 1) (by omega) fu fv (by omega) (by omega) k (by omega)
    · have nz : ¬ nI d = -1 := nI_nm1 (by omega)
      have e2 : nI (260 + 2 * s) + 1 = nI (260 + 2 * s + 1) := nI_1 _
      have key : (if (if 0 ≤ 2 * nI d - nI r then 2 * nI d - nI r else 2 * nI d - nI r + 16) ≤ 8 then some (if 0 ≤ 2 * nI d - nI r then 2 * nI d - nI r else 2 * nI d - nI r + 16) else some (16 - (if 0 ≤ 2 * nI d - nI r then 2 * nI d - nI r else 2 * nI d - nI r + 16))) = some (trnM d r) := by
        unfold trnM
        rw [ite_some]
      have key1 : (if 0 ≤ 2 * nI d - nI r then some (2 * nI d - nI r) else some (2 * nI d - nI r + 16)) = some (if 0 ≤ 2 * nI d - nI r then 2 * nI d - nI r else 2 * nI d - nI r + 16) := ite_some _ _
      rw [z2, if_neg nz, trn_X d z1 r hr, bd1_s, show gin (0 : Int32) 6 = true from by decide, chk_t, cl_0, h0, if_neg nz, e2, gin_n (by omega) (by decide), chk_t, cl_n (by omega), h2, bd1_s, key1, bd1_s, if_neg nz, key, bd1_s, show gin (6 : Int32) 460 = true from by decide, chk_t, show (6 : Int32).toNatClampNeg = 6 from by decide, trn_eq d z1 r hr]
      by_cases w : bk 6 < trnM d r
      · rw [if_pos w, if_pos w, nm_s, or_0]
        exact ih (i + 1) (by omega) fu fv (by omega) (by omega) k (by omega)
      · rw [if_neg w, if_neg w, nm_s, nm_s, hor]
        exact ih (i + 1) (by omega) fu fv (by omega) (by omega) (k + 2 ^ i) (by omega)
theorem may_ex {su nu sc bk : Nat → Int32} {nd s : Nat} (hnd : nd ≤ 10) (hB : B_su su bk) (hN : B_nu nu bk) (hS : B_two nd 63 15 260 sc bk) (hs : s < nd) : ∃ q, q < 8 ∧ f_X5_stagesOf (nI nd) 50 sc su nu (nI s) = some (nI q) ∧ f_X10_mayOf bk (nI s) = some (nI q) := by
  obtain ⟨a1, a2, a3, a4⟩ := hS s hs
  obtain ⟨p, p1, p2⟩ := a3
  obtain ⟨r, r1, r2⟩ := a4
  obtain ⟨q, q1, q2, q3⟩ := mayL (su := su) (nu := nu) (bk := bk) (s := s) (p := p) (r := r) (by omega) hB (hN.1 0 (by omega)) hN.2.1 p2 (by omega) r2 (by omega) 3 0 rfl FU FU (FU_big (by omega)) (FU_big (by omega)) 0 (by decide)
  refine ⟨q, q1, ?_, ?_⟩
  · unfold f_X5_stagesOf
    rw [show (0 : Int32) = nI 0 from rfl, show (1 : Int32) = nI 1 from rfl, X_cell (c := 0) hs (by omega) (by omega) (by omega) (by omega), X_cell (c := 1) hs (by omega) (by omega) (by omega) (by omega), bd1_s, bd1_s, Nat.add_zero (5 * s), a1, a2, p2, r2, q2, bd1_s]
  · unfold f_X10_mayOf
    rw [show f_X10_mayOf_L1 (nI s) bk FU 0 0 = some (nI q) from q3, bd1_s]
theorem q_may : PP_may INV := by
  intro xi xa mi ma hI p1
  obtain ⟨nc, nb, nd, nr, nf, ng, h1, h2, h3, h4, h5, h6, h7, h8, h9, h10, h11, h12⟩ := FB_now hI
  obtain ⟨⟨n1, n2, n3, n4, n5, n6⟩, k0, k1, k2, k3, k4, k5⟩ := h2
  obtain ⟨s1, s2, s3, s4, s5, s6⟩ := h3
  unfold f_X9_may f_X10_may
  rw [s3]
  rcases rcR p1 nd (by omega) with ⟨s, hs, rfl⟩ | c
  · obtain ⟨q, q1, q2, q3⟩ := may_ex n3 h4 h8 h7 hs
    rw [X_hasT hs (by omega), bd1_s, if_neg n10, q2, bd1_s, show f_X10_is (ma 0) (2 : Int32) (nI s) = some (nI 1) from M_is_t (k := 2) (by decide) k2 hs (by omega), bd1_s, if_neg n10, q3, bd1_s]
    exact ⟨_, rfl, rfl, hI⟩
  · rw [X_hasF (by omega) c, bd1_s, if_pos (by decide), show f_X10_is (ma 0) (2 : Int32) p1 = some (nI 0) from M_is_f (k := 2) (by decide) k2 c, bd1_s, if_pos (by decide)]
    exact ⟨_, rfl, rfl, hI⟩
