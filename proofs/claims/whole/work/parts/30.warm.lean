/-! ===== ice, warm ===== -/
theorem standL {nu he bk : Nat → Int32} (w s : Int32) (h3 : nu 3 = bk 9) (hh : ∀ i, i < 21 → he i = bk (430 + i)) : ∀ n i, i + n = 21 → ∀ fu fv, n < fu → n < fv → ∀ f t : Int32, ∃ r, f_X8_standsAt_L1 s nu w he fu f t (nI i) = some r ∧ f_X10_stands_L1 w bk s fv t f (nI i) = some r := by
  intro n
  induction n with
  | zero =>
    intro i hi fu fv hfu hfv f t
    obtain ⟨fu, rfl⟩ : ∃ n, fu = n + 1 := ⟨fu - 1, by omega⟩
    obtain ⟨fv, rfl⟩ : ∃ n, fv = n + 1 := ⟨fv - 1, by omega⟩
    obtain rfl : i = 21 := by omega
    refine ⟨f, ?_, ?_⟩
    · unfold f_X8_standsAt_L1
      rw [if_pos (by decide)]
    · unfold f_X10_stands_L1
      rw [if_pos (by decide)]
  | succ n ih =>
    intro i hi fu fv hfu hfv f t
    obtain ⟨fu, rfl⟩ : ∃ n, fu = n + 1 := ⟨fu - 1, by omega⟩
    obtain ⟨fv, rfl⟩ : ∃ n, fv = n + 1 := ⟨fv - 1, by omega⟩
    have e1 : (430 : Int32) + nI i = nI (430 + i) := nI_add 430 i
    unfold f_X8_standsAt_L1 f_X10_stands_L1
    rw [if_neg (show ¬ (21 : Int32) ≤ nI i from nI_ge (b := 21) (by omega) (by decide)), if_neg (show ¬ (21 : Int32) ≤ nI i from nI_ge (b := 21) (by omega) (by decide)), show gin (3 : Int32) 6 = true from by decide, chk_t, gin_n (by omega) (by decide), chk_t, e1, gin_n (by omega) (by decide), chk_t, cl_n (by omega), cl_n (by omega), show (3 : Int32).toNatClampNeg = 3 from by decide, h3, hh i (by omega), nm_s, nm_s, show gin (9 : Int32) 460 = true from by decide, show (9 : Int32).toNatClampNeg = 9 from by decide, nI_1]
    have key : ∀ d : Int32, (if d ≤ 0 then some (0 : Int32) else chk true (some (bk 9 * d))) = some (bk 9 * (if 0 < d then d else 0)) := by
      intro d
      by_cases c : d ≤ 0
      · rw [if_pos c, if_neg (Int32.not_lt.mpr c), Int32.mul_zero]
      · rw [if_neg c, if_pos (Int32.not_le.mp c), chk_t]
    rw [key, bd1_s, nm_s]
    by_cases c : t + (s - bk 9 * (if 0 < w - bk (430 + i) then w - bk (430 + i) else 0)) < 0
    · rw [if_pos c, if_pos c]
      exact ih (i + 1) (by omega) fu fv (by omega) (by omega) _ _
    · rw [if_neg c, if_neg c]
      exact ih (i + 1) (by omega) fu fv (by omega) (by omega) _ _
theorem standAll {nu he bk : Nat → Int32} (s : Int32) (h3 : nu 3 = bk 9) (hh : ∀ i, i < 21 → he i = bk (430 + i)) (w : Int32) : ∃ r, f_X8_standsAt nu he w s = some r ∧ f_X10_stands bk w s = some r := by
  obtain ⟨r, h1, h2⟩ := standL w s h3 hh 21 0 rfl FU FU (FU_big (by omega)) (FU_big (by omega)) (-1) 0
  refine ⟨r, ?_, ?_⟩
  · unfold f_X8_standsAt
    rw [show (0 : Int32) = nI 0 from rfl] at h1 ⊢
    rw [h1, bd1_s]
  · unfold f_X10_stands
    rw [show (0 : Int32) = nI 0 from rfl] at h2 ⊢
    rw [h2, bd1_s]
theorem q_ice : PP_ice INV := by
  intro xi xa mi ma hI p1 p2
  obtain ⟨nc, nb, nd, nr, nf, ng, h1, h2, h3, h4, h5, h6, h7, h8, h9, h10, h11, h12⟩ := FB_now hI
  obtain ⟨r, a, b⟩ := standAll (nu := xa 4) (he := xa 8) (bk := ma 0) p2 (h8.1 3 (by omega)) (fun i hi => (h12 i hi).1) p1
  unfold f_X9_ice f_X10_ice f_X9_isWarmth f_X10_isWarm
  simp only [in_0_1, in_0_2, in_0_5, in_0_6, in_0_7, in_0_15, in_0_19, in_0_20, in_0_39, in_0_60, in_0_63, in_0_99, in_0_999, in_1_8, in_1_9, in_1_20, in_1_300, in_1_999, in_50, in_0y, in_1y, in_x99, in_x999, within_eq, X_isStage, X_isPlace, M_isStage, M_isPlace, bd1_s, chk_gz_bI, bI_0, a, b]
  by_cases c1 : (0 : Int32) ≤ p1 ∧ p1 ≤ 60
  · by_cases c2 : (0 : Int32) ≤ p2 ∧ p2 ≤ 60
    · rw [if_neg (not_not_intro c1), if_neg (not_not_intro c2)]
      exact ⟨r, rfl, rfl, hI⟩
    · rw [if_neg (not_not_intro c1), if_pos c2]
      exact ⟨_, rfl, rfl, hI⟩
  · rw [if_pos c1]
    exact ⟨_, rfl, rfl, hI⟩
/-- the last w below k, -1 if none -/
def lstW (R : Nat → Int32) (x : Int32) : Nat → Int32
  | 0 => -1
  | k + 1 => if R k = x then nI k else lstW R x k
section WARM
variable {nu he bk : Nat → Int32} {s x : Int32} {R : Nat → Int32}
theorem greatL (hR : ∀ w, f_X8_standsAt nu he (nI w) s = some (R w)) : ∀ k, k ≤ 61 → ∀ fu, k < fu → ∃ q v, f_X8_greatestFor_L1 nu he s x fu (if k = 0 then -1 else nI (k - 1)) = some (q, v) ∧ (if q = 0 then some v else some (-1)) = some (lstW R x k) := by
  intro k
  induction k with
  | zero =>
    intro _ fu hfu
    obtain ⟨fu, rfl⟩ : ∃ n, fu = n + 1 := ⟨fu - 1, by omega⟩
    refine ⟨1, -1, ?_, rfl⟩
    unfold f_X8_greatestFor_L1
    rw [if_pos rfl, if_pos (by decide)]
  | succ k ih =>
    intro hk fu hfu
    obtain ⟨fu, rfl⟩ : ∃ n, fu = n + 1 := ⟨fu - 1, by omega⟩
    have e0 : (if k + 1 = 0 then (-1 : Int32) else nI (k + 1 - 1)) = nI k := by rw [if_neg (Nat.succ_ne_zero k)]; rfl
    have e3 : nI k + -1 = (if k = 0 then (-1 : Int32) else nI (k - 1)) := by
      by_cases c : k = 0
      · subst c; rfl
      · obtain ⟨j, rfl⟩ : ∃ j, k = j + 1 := ⟨k - 1, by omega⟩
        rw [if_neg c, pk_m1]
        rfl
    rw [e0]
    unfold f_X8_greatestFor_L1 lstW
    rw [if_neg (nI_pos (by omega)), hR, bd1_s]
    by_cases c : R k = x
    · rw [if_pos c, if_pos c]
      exact ⟨0, nI k, rfl, rfl⟩
    · rw [if_neg c, if_neg c, e3]
      exact ih (by omega) fu (by omega)
theorem greatM (hR : ∀ w, f_X10_stands bk (nI w) s = some (R w)) : ∀ n i, i + n = 61 → ∀ fu, n < fu → f_X10_warm_L1 bk s x 1 fu (lstW R x i) (nI i) = some (lstW R x 61) := by
  intro n
  induction n with
  | zero =>
    intro i hi fu hfu
    obtain ⟨fu, rfl⟩ : ∃ n, fu = n + 1 := ⟨fu - 1, by omega⟩
    obtain rfl : i = 61 := by omega
    unfold f_X10_warm_L1
    rw [if_pos (by decide)]
  | succ n ih =>
    intro i hi fu hfu
    obtain ⟨fu, rfl⟩ : ∃ n, fu = n + 1 := ⟨fu - 1, by omega⟩
    have h1 := ih (i + 1) (by omega) fu (by omega)
    rw [show lstW R x (i + 1) = if R i = x then nI i else lstW R x i from rfl] at h1
    unfold f_X10_warm_L1
    rw [if_neg (show ¬ (61 : Int32) ≤ nI i from nI_ge (b := 61) (by omega) (by decide)), hR, bd1_s, nI_1]
    by_cases c : R i = x
    · rw [if_pos c] at h1
      rw [if_pos c, if_pos rfl]
      exact h1
    · rw [if_neg c] at h1
      rw [if_neg c]
      exact h1
theorem leastM1 (hR : ∀ w, f_X10_stands bk (nI w) s = some (R w)) {j : Nat} (hj : j < 61) : ∀ n i, i + n = 61 → ∀ fu, n < fu → f_X10_warm_L1 bk s x 0 fu (nI j) (nI i) = some (nI j) := by
  intro n
  induction n with
  | zero =>
    intro i hi fu hfu
    obtain ⟨fu, rfl⟩ : ∃ n, fu = n + 1 := ⟨fu - 1, by omega⟩
    obtain rfl : i = 61 := by omega
    unfold f_X10_warm_L1
    rw [if_pos (by decide)]
  | succ n ih =>
    intro i hi fu hfu
    obtain ⟨fu, rfl⟩ : ∃ n, fu = n + 1 := ⟨fu - 1, by omega⟩
    have h1 := ih (i + 1) (by omega) fu (by omega)
    unfold f_X10_warm_L1
    rw [if_neg (show ¬ (61 : Int32) ≤ nI i from nI_ge (b := 61) (by omega) (by decide)), hR, bd1_s, nI_1, if_neg (show ¬ (0 : Int32) = 1 from by decide), if_neg (nI_nm1 (by omega))]
    by_cases c : R i = x
    · rw [if_pos c]
      exact h1
    · rw [if_neg c]
      exact h1
theorem leastB (hX : ∀ w, f_X8_standsAt nu he (nI w) s = some (R w)) (hM : ∀ w, f_X10_stands bk (nI w) s = some (R w)) : ∀ n i, i + n = 61 → ∀ fu fv, n < fu → n < fv → ∃ q v r, f_X8_leastFor_L1 nu he s x fu (nI i) = some (q, v) ∧ (if q = 0 then some v else some (-1)) = some r ∧ f_X10_warm_L1 bk s x 0 fv (-1) (nI i) = some r := by
  intro n
  induction n with
  | zero =>
    intro i hi fu fv hfu hfv
    obtain ⟨fu, rfl⟩ : ∃ n, fu = n + 1 := ⟨fu - 1, by omega⟩
    obtain ⟨fv, rfl⟩ : ∃ n, fv = n + 1 := ⟨fv - 1, by omega⟩
    obtain rfl : i = 61 := by omega
    refine ⟨1, nI 61, -1, ?_, rfl, ?_⟩
    · unfold f_X8_leastFor_L1
      rw [if_pos (by decide)]
    · unfold f_X10_warm_L1
      rw [if_pos (by decide)]
  | succ n ih =>
    intro i hi fu fv hfu hfv
    obtain ⟨fu, rfl⟩ : ∃ n, fu = n + 1 := ⟨fu - 1, by omega⟩
    obtain ⟨fv, rfl⟩ : ∃ n, fv = n + 1 := ⟨fv - 1, by omega⟩
    unfold f_X8_leastFor_L1 f_X10_warm_L1
    rw [if_neg (show ¬ (60 : Int32) < nI i from nI_nlt (a := 60) (by omega) (by decide)), hX, bd1_s, if_neg (show ¬ (61 : Int32) ≤ nI i from nI_ge (b := 61) (by omega) (by decide)), hM, bd1_s, nI_1]
    by_cases c : R i = x
    · rw [if_pos c, if_pos c, if_neg (show ¬ (0 : Int32) = 1 from by decide), if_pos rfl]
      exact ⟨0, nI i, nI i, rfl, rfl, leastM1 hM (by omega) n (i + 1) (by omega) fv (by omega)⟩
    · rw [if_neg c, if_neg c]
      exact ih (i + 1) (by omega) fu fv (by omega) (by omega)
end WARM
theorem q_warm : PP_warm INV := by
  intro xi xa mi ma hI p1 p2 p3
  obtain ⟨nc, nb, nd, nr, nf, ng, h1, h2, h3, h4, h5, h6, h7, h8, h9, h10, h11, h12⟩ := FB_now hI
  have key : ∀ w : Nat, ∃ r, f_X8_standsAt (xa 4) (xa 8) (nI w) p2 = some r ∧ f_X10_stands (ma 0) (nI w) p2 = some r := fun w => standAll (nu := xa 4) (he := xa 8) (bk := ma 0) p2 (h8.1 3 (by omega)) (fun i hi => (h12 i hi).1) (nI w)
  obtain ⟨R, hR⟩ := Classical.axiomOfChoice key
  have hX := fun w => (hR w).1
  have hM := fun w => (hR w).2
  unfold f_X9_warm f_X10_warm f_X9_isZone f_X9_isWarmth f_X10_isWarm
  simp only [in_0_1, in_0_2, in_0_5, in_0_6, in_0_7, in_0_15, in_0_19, in_0_20, in_0_39, in_0_60, in_0_63, in_0_99, in_0_999, in_1_8, in_1_9, in_1_20, in_1_300, in_1_999, in_50, in_0y, in_1y, in_x99, in_x999, within_eq, X_isStage, X_isPlace, M_isStage, M_isPlace, bd1_s, chk_gz_bI, bI_0]
  by_cases c1 : (0 : Int32) ≤ p1 ∧ p1 ≤ 20
  · by_cases c2 : (0 : Int32) ≤ p2 ∧ p2 ≤ 60
    · by_cases c3 : (0 : Int32) ≤ p3 ∧ p3 ≤ 1
      · rw [if_neg (not_not_intro c1), if_neg (not_not_intro c2), if_neg (not_not_intro c3), if_neg (not_not_intro c1), if_neg (not_not_intro c2), if_neg (not_not_intro c3)]
        obtain ⟨k, hk, rfl⟩ := rng 1 (by decide) c3
        have cs : k = 0 ∨ k = 1 := by omega
        rcases cs with rfl | rfl
        · obtain ⟨q, v, r, b1, b2, b3⟩ := leastB (x := p1) hX hM 61 0 rfl FU FU (FU_big (by omega)) (FU_big (by omega))
          unfold f_X8_leastFor
          rw [if_pos (show nI 0 = (0 : Int32) from rfl), show f_X8_leastFor_L1 (xa 4) (xa 8) p2 p1 FU 0 = some (q, v) from b1, bd2_s, b2, bd1_s, show f_X10_warm_L1 (ma 0) p2 p1 (nI 0) FU (-1) 0 = some r from b3, bd1_s]
          exact ⟨r, rfl, rfl, hI⟩
        · obtain ⟨q, v, b1, b2⟩ := greatL (x := p1) hX 61 (Nat.le_refl _) FU (FU_big (by omega))
          have b3 := greatM (x := p1) hM 61 0 rfl FU (FU_big (by omega))
          unfold f_X8_greatestFor
          rw [if_neg (by decide), show f_X8_greatestFor_L1 (xa 4) (xa 8) p2 p1 FU 60 = some (q, v) from b1, bd2_s, b2, bd1_s, show f_X10_warm_L1 (ma 0) p2 p1 (nI 1) FU (-1) 0 = some (lstW R p1 61) from b3, bd1_s]
          exact ⟨_, rfl, rfl, hI⟩
      · rw [if_neg (not_not_intro c1), if_neg (not_not_intro c2), if_pos c3, if_neg (not_not_intro c1), if_neg (not_not_intro c2), if_pos c3]
        exact ⟨_, rfl, rfl, hI⟩
    · rw [if_neg (not_not_intro c1), if_pos c2, if_neg (not_not_intro c1), if_pos c2]
      exact ⟨_, rfl, rfl, hI⟩
  · rw [if_pos c1, if_pos c1]
    exact ⟨_, rfl, rfl, hI⟩
