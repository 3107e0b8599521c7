/-! ===== fits, steps, home, upstream ===== -/
theorem gin_0 : gin (0 : Int32) 460 = true := by decide
theorem cl_0 : (0 : Int32).toNatClampNeg = 0 := by decide
theorem itn_c {h h' : Nat → Int32} (e : ∀ q, q < 64 → h q = h' q) : ∀ k p, itn h k p = itn h' k p
  | 0, _ => rfl
  | k + 1, p => by
    show itn h k (nxt h p) = itn h' k (nxt h' p)
    rw [nxt_c e, itn_c e k]
theorem US_c {sv sv' : Nat → Nat → Int32} {g : Nat} (e : ∀ s, s < 3 → ∀ q, q < 64 → sv s q = sv' s q) : ∀ n, n ≤ 3 → ∀ p u, US sv g n p u ↔ US sv' g n p u := by
  intro n
  induction n with
  | zero => intro _ p u; exact Iff.rfl
  | succ n ih =>
    intro hn p u
    have e1 : ∀ k, itn (sv (2 - n)) k p = itn (sv' (2 - n)) k p := fun k => itn_c (e (2 - n) (by omega)) k p
    constructor
    · rintro ⟨k, t, a1, a2, a3⟩
      exact ⟨k, t, by rw [← e1]; exact a1, by rw [← e1]; exact (ih (by omega) _ _).mp a2, a3⟩
    · rintro ⟨k, t, a1, a2, a3⟩
      exact ⟨k, t, by rw [e1]; exact a1, by rw [e1]; exact (ih (by omega) _ _).mpr a2, a3⟩
theorem X_lead {su bk nx fe tg : Nat → Int32} {g : Nat} (hB : B_su su bk) (hg : g < 64) : ∃ tg' nx' fe', f_X7_leadTo tg 192 su nx fe (nI g) = some (tg', nx', fe') ∧ ∀ c, c < 64 → best (tg' c) (TS bk c 3 g) := by
  obtain ⟨a, b, c, h1, h2⟩ := X_leadTo (n0 := 192) (su := su) (nx := nx) (fe := fe) (tg := tg) (g := g) rfl hg
  refine ⟨a, b, c, h1, fun q hq => best_c (h2 q hq) (fun u => ?_)⟩
  rw [TS_US hq hg]
  exact US_c (fun s hs q hq => (hB (64 * s + q) (by omega)).1) 3 (Nat.le_refl 3) q u
theorem ex_best (bk : Nat → Int32) (c g : Nat) : ∃ v : Int32, (c < 64 → g < 64 → best v (TS bk c 3 g)) := by
  by_cases hc : c < 64
  · obtain ⟨f, t, -, h2⟩ := M_carries (bk := bk) (far := fun _ => 0) (th := fun _ => 0) hc
    by_cases hg : g < 64
    · exact ⟨f g, fun _ _ => h2 g hg⟩
    · exact ⟨0, fun _ h => absurd h hg⟩
  · exact ⟨0, fun h _ => absurd h hc⟩
noncomputable def vS (bk : Nat → Int32) (c g : Nat) : Int32 := Classical.choose (ex_best bk c g)
theorem vS_b {bk : Nat → Int32} {c g : Nat} (hc : c < 64) (hg : g < 64) : best (vS bk c g) (TS bk c 3 g) := Classical.choose_spec (ex_best bk c g) hc hg
noncomputable def sR (bk : Nat → Int32) (c g : Nat) : Int32 := if (1000000 : Int32) ≤ vS bk c g then -1 else vS bk c g
theorem X_stepsFrom {bk tg : Nat → Int32} {c g : Nat} (hc : c < 64) (hg : g < 64) (h : best (tg c) (TS bk c 3 g)) : f_X7_stepsFrom tg (nI c) = some (sR bk c g) := by
  have e := best_u h (vS_b hc hg)
  unfold f_X7_stepsFrom sR
  rw [if_neg (nI_pos (by omega)), if_neg (show ¬ (64 : Int32) ≤ nI c from nI_ge (b := 64) hc (by decide)), gin_n hc (by decide), chk_t, cl_n (by omega), e]
  by_cases z : (1000000 : Int32) ≤ vS bk c g
  · rw [if_pos z, if_neg (Int32.not_lt.mpr z)]
  · rw [if_neg z, if_pos (Int32.not_le.mp z), chk_t]
theorem pl_eq {x : Int32} (h : isN x 63) : x = nI (vN x) ∧ vN x < 64 := ⟨h.eq (by decide), by have := h.le (by decide); omega⟩
theorem M_stepsOf {bk far th : Nat → Int32} {b c : Nat} (hb : b < 10) (hc : c < 8) (h1 : isN (bk (220 + 2 * c)) 63) (h2 : isN (bk (240 + 2 * b)) 63) : ∃ far' th', f_X10_stepsOf bk far th (nI b) (nI c) = some (sR bk (vN (bk (220 + 2 * c))) (vN (bk (240 + 2 * b))), far', th') := by
  obtain ⟨e1, e2⟩ := pl_eq h1
  obtain ⟨e3, e4⟩ := pl_eq h2
  obtain ⟨f, t, a1, a2⟩ := M_carries (bk := bk) (far := far) (th := th) e2
  have e := best_u (a2 _ e4) (vS_b e2 e4)
  refine ⟨f, t, ?_⟩
  unfold f_X10_stepsOf f_X10_cliffAt f_X10_boulderAt sR
  rw [show (220 : Int32) + 2 * nI c + 0 = nI (220 + 2 * c) from by simp (disch := omega) only [↓lm1, ln0, ln1, ln2, ln3, ln4, ln5, ln6, ln7, ln8, ln9, ln10, ln11, ln12, ln13, ln14, ln15, ln16, ln17, ln18, ln19, ln20, ln21, ln22, ln26, ln30, ln31, ln32, ln36, ln39, ln40, ln48, ln50, ln59, ln60, ln61, ln63, ln64, ln80, ln97, ln99, ln100, ln103, ln122, ln192, ln220, ln240, ln255, ln260, ln290, ln300, ln370, ln410, ln430, ln460, ln920, ln960, ln999, ln1000, ln2000, ln26880, ln1000000, ofNat_nI, nI_add, pk_mul, pk_sub, nI_leP, nI_ltP, nI_eqP, nI_clamp, gin_n, chk_t, nm_s, bd1_s, bd2_s, bd3_s, bd4_s, bI_n0, bI_1, chk_gz_bI, if_pos, if_neg, if_true, if_false, ite_some, nI_m1, m1_nI, m1_le, le_m1, m1_lt, lt_m1, m1_1, n_m1, n0_m1, m1_m1, not_true_eq_false, not_false_eq_true, Nat.add_zero], show (240 : Int32) + 2 * nI b + 0 = nI (240 + 2 * b) from by simp (disch := omega) only [↓lm1, ln0, ln1, ln2, ln3, ln4, ln5, ln6, ln7, ln8, ln9, ln10, ln11, ln12, ln13, ln14, ln15, ln16, ln17, ln18, ln19, ln20, ln21, ln22, ln26, ln30, ln31, ln32, ln36, ln39, ln40, ln48, ln50, ln59, ln60, ln61, ln63, ln64, ln80, ln97, ln99, ln100, ln103, ln122, ln192, ln220, ln240, ln255, ln260, ln290, ln300, ln370, ln410, ln430, ln460, ln920, ln960, ln999, ln1000, ln2000, ln26880, ln1000000, ofNat_nI, nI_add, pk_mul, pk_sub, nI_leP, nI_ltP, nI_eqP, nI_clamp, gin_n, chk_t, nm_s, bd1_s, bd2_s, bd3_s, bd4_s, bI_n0, bI_1, chk_gz_bI, if_pos, if_neg, if_true, if_false, ite_some, nI_m1, m1_nI, m1_le, le_m1, m1_lt, lt_m1, m1_1, n_m1, n0_m1, m1_m1, not_true_eq_false, not_false_eq_true, Nat.add_zero], gin_n (by omega) (by decide), gin_n (by omega) (by decide), chk_t, chk_t, cl_n (by omega), cl_n (by omega), bd1_s]
  rw [show bk (220 + 2 * c) = nI (vN (bk (220 + 2 * c))) from e1, a1, bd2_s, bd1_s, vN_n (by omega)]
  rw [show gin (bk (240 + 2 * b)) 64 = true from by rw [e3]; exact gin_n e4 (by decide), chk_t, nm_s, show (bk (240 + 2 * b)).toNatClampNeg = vN (bk (240 + 2 * b)) from rfl, e]
  by_cases z : (1000000 : Int32) ≤ vS bk (vN (bk (220 + 2 * c))) (vN (bk (240 + 2 * b)))
  · rw [if_pos z, if_pos z]
  · rw [if_neg z, if_neg z]
theorem X_hasT {n i : Nat} (h : i < n) (hn : n ≤ 400) : f_X4_has (nI n) (nI i) = some (nI 1) := by
  unfold f_X4_has
  simp (disch := omega) only [↓lm1, ln0, ln1, ln2, ln3, ln4, ln5, ln6, ln7, ln8, ln9, ln10, ln11, ln12, ln13, ln14, ln15, ln16, ln17, ln18, ln19, ln20, ln21, ln22, ln26, ln30, ln31, ln32, ln36, ln39, ln40, ln48, ln50, ln59, ln60, ln61, ln63, ln64, ln80, ln97, ln99, ln100, ln103, ln122, ln192, ln220, ln240, ln255, ln260, ln290, ln300, ln370, ln410, ln430, ln460, ln920, ln960, ln999, ln1000, ln2000, ln26880, ln1000000, ofNat_nI, nI_add, pk_mul, pk_sub, nI_leP, nI_ltP, nI_eqP, nI_clamp, gin_n, chk_t, nm_s, bd1_s, bd2_s, bd3_s, bd4_s, bI_n0, bI_1, chk_gz_bI, if_pos, if_neg, if_true, if_false, ite_some, nI_m1, m1_nI, m1_le, le_m1, m1_lt, lt_m1, m1_1, n_m1, n0_m1, m1_m1, not_true_eq_false, not_false_eq_true]
theorem X_hasF {n : Nat} {p : Int32} (hn : n ≤ 400) (h : ¬ (nI 0 ≤ p ∧ p ≤ nI n - nI 1)) : f_X4_has (nI n) p = some (nI 0) := by
  unfold f_X4_has
  by_cases c : p < 0
  · rw [if_pos c]; rfl
  · rw [if_neg c]
    by_cases d : nI n ≤ p
    · rw [if_pos d]; rfl
    · exfalso
      obtain ⟨j, h1, rfl⟩ := nI_of c
      have h2 := Int32.not_le.mp d
      rw [nI_ltP h1 (by omega)] at h2
      exact h (lt_R h2 hn)
section CAR
variable {nc nb nd nr nf ng : Nat} {rid cll cls bol bos scl scs fal fas sil sis : Int32} {su cl bo sc nu fa si ar he bk : Nat → Int32}
theorem X_sos {tg : Nat → Int32} {b i : Nat} (n1 : nc ≤ 8) (n2 : nb ≤ 10) (g2 : B_two nc 63 5 220 cl bk) (g3 : B_two nb 63 5 240 bo bk) (hi : i < nc) (hb : b < nb) (ht : ∀ c, c < 64 → best (tg c) (TS bk c 3 (vN (bk (240 + 2 * b))))) : f_X7_stepsOfSort (nI nc) 40 cl (nI nb) 50 bo tg (nI b) (nI i) = some (if bk (220 + 2 * i + 1) = bk (240 + 2 * b + 1) then sR bk (vN (bk (220 + 2 * i))) (vN (bk (240 + 2 * b))) else -1) := by
  obtain ⟨a1, a2, a3, a4⟩ := g2 i hi
  obtain ⟨b1, b2, b3, b4⟩ := g3 b hb
  obtain ⟨e1, e2⟩ := pl_eq a3
  obtain ⟨e3, e4⟩ := pl_eq b3
  unfold f_X7_stepsOfSort
  rw [show (1 : Int32) = nI 1 from rfl, show (0 : Int32) = nI 0 from rfl, X_cell (c := 1) hi (by omega) (by omega) (by omega) (by omega), X_cell (c := 1) hb (by omega) (by omega) (by omega) (by omega), X_cell (c := 0) hi (by omega) (by omega) (by omega) (by omega), Nat.add_zero (5 * i), a1, a2, b2, bd1_s, bd1_s, bd1_s]
  by_cases z : bk (220 + 2 * i + 1) = bk (240 + 2 * b + 1)
  · rw [if_pos z, if_pos z, show bk (220 + 2 * i) = nI (vN (bk (220 + 2 * i))) from e1, X_stepsFrom e2 e4 (ht _ e2), bd1_s, vN_n (by omega)]
  · rw [if_neg z, if_neg z]
theorem M_sorts {i b : Nat} (hi : i < 8) (hb : b < 10) : f_X10_cliffAt bk (nI i) (1 : Int32) = some (bk (220 + 2 * i + 1)) ∧ f_X10_boulderAt bk (nI b) (1 : Int32) = some (bk (240 + 2 * b + 1)) := by
  constructor
  · unfold f_X10_cliffAt
    simp (disch := omega) only [↓lm1, ln0, ln1, ln2, ln3, ln4, ln5, ln6, ln7, ln8, ln9, ln10, ln11, ln12, ln13, ln14, ln15, ln16, ln17, ln18, ln19, ln20, ln21, ln22, ln26, ln30, ln31, ln32, ln36, ln39, ln40, ln48, ln50, ln59, ln60, ln61, ln63, ln64, ln80, ln97, ln99, ln100, ln103, ln122, ln192, ln220, ln240, ln255, ln260, ln290, ln300, ln370, ln410, ln430, ln460, ln920, ln960, ln999, ln1000, ln2000, ln26880, ln1000000, ofNat_nI, nI_add, pk_mul, pk_sub, nI_leP, nI_ltP, nI_eqP, nI_clamp, gin_n, chk_t, nm_s, bd1_s, bd2_s, bd3_s, bd4_s, bI_n0, bI_1, chk_gz_bI, if_pos, if_neg, if_true, if_false, ite_some, nI_m1, m1_nI, m1_le, le_m1, m1_lt, lt_m1, m1_1, n_m1, n0_m1, m1_m1, not_true_eq_false, not_false_eq_true]
  · unfold f_X10_boulderAt
    simp (disch := omega) only [↓lm1, ln0, ln1, ln2, ln3, ln4, ln5, ln6, ln7, ln8, ln9, ln10, ln11, ln12, ln13, ln14, ln15, ln16, ln17, ln18, ln19, ln20, ln21, ln22, ln26, ln30, ln31, ln32, ln36, ln39, ln40, ln48, ln50, ln59, ln60, ln61, ln63, ln64, ln80, ln97, ln99, ln100, ln103, ln122, ln192, ln220, ln240, ln255, ln260, ln290, ln300, ln370, ln410, ln430, ln460, ln920, ln960, ln999, ln1000, ln2000, ln26880, ln1000000, ofNat_nI, nI_add, pk_mul, pk_sub, nI_leP, nI_ltP, nI_eqP, nI_clamp, gin_n, chk_t, nm_s, bd1_s, bd2_s, bd3_s, bd4_s, bI_n0, bI_1, chk_gz_bI, if_pos, if_neg, if_true, if_false, ite_some, nI_m1, m1_nI, m1_le, le_m1, m1_lt, lt_m1, m1_1, n_m1, n0_m1, m1_m1, not_true_eq_false, not_false_eq_true]
theorem or_0 (x : Int32) : x ||| 0 = x := Int32.or_zero
theorem fitsL {tg : Nat → Int32} {b : Nat} (n1 : nc ≤ 8) (n2 : nb ≤ 10) (k0 : bk 0 = nI nc) (g2 : B_two nc 63 5 220 cl bk) (g3 : B_two nb 63 5 240 bo bk) (hb : b < nb) (ht : ∀ c, c < 64 → best (tg c) (TS bk c 3 (vN (bk (240 + 2 * b))))) : ∀ n i, i + n = nc → ∀ fu fv, n < fu → n < fv → ∀ (x : Int32) (far th : Nat → Int32), ∃ r far' th', f_X7_fittingCliffs_L1 (nI nc) 40 cl (nI nb) 50 bo tg (nI b) fu x (nI i) = some r ∧ f_X10_fits_L1 bk (nI b) fv far th x (nI i) = some (far', th', r) := by
  intro n
  induction n with
  | zero =>
    intro i hi fu fv hfu hfv x far th
    obtain ⟨fu, rfl⟩ : ∃ n, fu = n + 1 := ⟨fu - 1, by omega⟩
    obtain ⟨fv, rfl⟩ : ∃ n, fv = n + 1 := ⟨fv - 1, by omega⟩
    obtain rfl : i = nc := by omega
    refine ⟨x, far, th, ?_, ?_⟩
    · unfold f_X7_fittingCliffs_L1 f_X4_size
      rw [bd1_s, if_pos (Int32.le_refl _)]
    · unfold f_X10_fits_L1
      rw [gin_0, chk_t, cl_0, k0, if_pos (Int32.le_refl _)]
  | succ n ih =>
    intro i hi fu fv hfu hfv x far th
    obtain ⟨fu, rfl⟩ : ∃ n, fu = n + 1 := ⟨fu - 1, by omega⟩
    obtain ⟨fv, rfl⟩ : ∃ n, fv = n + 1 := ⟨fv - 1, by omega⟩
    have hs := X_sos (tg := tg) n1 n2 g2 g3 (i := i) (by omega) hb ht
    obtain ⟨m1, m2⟩ := M_sorts (bk := bk) (i := i) (b := b) (by omega) (by omega)
    have a := g2 i (by omega)
    have c := g3 b hb
    unfold f_X7_fittingCliffs_L1 f_X10_fits_L1 f_X4_size
    rw [bd1_s, if_neg (nI_ge (by omega) (by omega)), hs, bd1_s, gin_0, chk_t, cl_0, k0, if_neg (nI_ge (by omega) (by omega)), m1, m2, bd1_s, bd1_s]
    by_cases z : bk (220 + 2 * i + 1) = bk (240 + 2 * b + 1)
    · rw [if_pos z, if_pos z]
      obtain ⟨f', t', m3⟩ := M_stepsOf (bk := bk) (far := far) (th := th) (b := b) (c := i) (by omega) (by omega) a.2.2.1 c.2.2.1
      rw [m3, bd3_s]
      by_cases w : sR bk (vN (bk (220 + 2 * i))) (vN (bk (240 + 2 * b))) = -1
      · rw [if_pos w, if_pos w, nm_s, or_0, nI_1]
        exact ih (i + 1) (by omega) fu fv (by omega) (by omega) x f' t'
      · rw [if_neg w, if_neg w, nm_s, nm_s, nI_1]
        exact ih (i + 1) (by omega) fu fv (by omega) (by omega) _ f' t'
    · rw [if_neg z, if_neg z, if_pos rfl, nm_s, or_0, nI_1]
      exact ih (i + 1) (by omega) fu fv (by omega) (by omega) x far th
theorem homeL {tg : Nat → Int32} {b : Nat} (n1 : nc ≤ 8) (n2 : nb ≤ 10) (k0 : bk 0 = nI nc) (g2 : B_two nc 63 5 220 cl bk) (g3 : B_two nb 63 5 240 bo bk) (hb : b < nb) (ht : ∀ c, c < 64 → best (tg c) (TS bk c 3 (vN (bk (240 + 2 * b))))) : ∀ n i, i + n = nc → ∀ fu fv, n < fu → n < fv → ∀ (x y : Int32) (far th : Nat → Int32), ∃ r far' th', f_X7_nearestCliff_L1 (nI nc) 40 cl (nI nb) 50 bo tg (nI b) fu x y (nI i) = some r ∧ f_X10_home_L1 bk (nI b) fv far th x y (nI i) = some (far', th', r) := by
  intro n
  induction n with
  | zero =>
    intro i hi fu fv hfu hfv x y far th
    obtain ⟨fu, rfl⟩ : ∃ n, fu = n + 1 := ⟨fu - 1, by omega⟩
    obtain ⟨fv, rfl⟩ : ∃ n, fv = n + 1 := ⟨fv - 1, by omega⟩
    obtain rfl : i = nc := by omega
    refine ⟨x, far, th, ?_, ?_⟩
    · unfold f_X7_nearestCliff_L1 f_X4_size
      rw [bd1_s, if_pos (Int32.le_refl _)]
    · unfold f_X10_home_L1
      rw [gin_0, chk_t, cl_0, k0, if_pos (Int32.le_refl _)]
  | succ n ih =>
    intro i hi fu fv hfu hfv x y far th
    obtain ⟨fu, rfl⟩ : ∃ n, fu = n + 1 := ⟨fu - 1, by omega⟩
    obtain ⟨fv, rfl⟩ : ∃ n, fv = n + 1 := ⟨fv - 1, by omega⟩
    have hs := X_sos (tg := tg) n1 n2 g2 g3 (i := i) (by omega) hb ht
    obtain ⟨m1, m2⟩ := M_sorts (bk := bk) (i := i) (b := b) (by omega) (by omega)
    have a := g2 i (by omega)
    have c := g3 b hb
    unfold f_X7_nearestCliff_L1 f_X10_home_L1 f_X4_size
    rw [bd1_s, if_neg (nI_ge (by omega) (by omega)), hs, bd1_s, gin_0, chk_t, cl_0, k0, if_neg (nI_ge (by omega) (by omega)), m1, m2, bd1_s, bd1_s]
    by_cases z : bk (220 + 2 * i + 1) = bk (240 + 2 * b + 1)
    · rw [if_pos z, if_pos z]
      obtain ⟨f', t', m3⟩ := M_stepsOf (bk := bk) (far := far) (th := th) (b := b) (c := i) (by omega) (by omega) a.2.2.1 c.2.2.1
      rw [m3, bd3_s, bd3_s]
      by_cases w : sR bk (vN (bk (220 + 2 * i))) (vN (bk (240 + 2 * b))) = -1
      · rw [if_pos w, if_pos w, nI_1]
        exact ih (i + 1) (by omega) fu fv (by omega) (by omega) x y f' t'
      · rw [if_neg w, if_neg w, nI_1]
        by_cases v : y ≤ sR bk (vN (bk (220 + 2 * i))) (vN (bk (240 + 2 * b)))
        · rw [if_pos v, if_pos v]
          exact ih (i + 1) (by omega) fu fv (by omega) (by omega) x y f' t'
        · rw [if_neg v, if_neg v]
          exact ih (i + 1) (by omega) fu fv (by omega) (by omega) _ _ f' t'
    · rw [if_neg z, if_neg z, if_pos rfl, bd3_s, if_pos rfl, nI_1]
      exact ih (i + 1) (by omega) fu fv (by omega) (by omega) x y far th
theorem upL {tg : Nat → Int32} {g : Nat} (hg : g < 64) (ht : ∀ c, c < 64 → best (tg c) (TS bk c 3 g)) : ∀ n i, i + n = 64 → ∀ fu fv, n < fu → n < fv → ∀ (x : Int32) (far th : Nat → Int32), ∃ r far' th', f_X7_placesAbove_L1 tg fu x (nI i) = some r ∧ f_X10_upstream_L1 bk (nI g) fv far th x (nI i) = some (far', th', r) := by
  intro n
  induction n with
  | zero =>
    intro i hi fu fv hfu hfv x far th
    obtain ⟨fu, rfl⟩ : ∃ n, fu = n + 1 := ⟨fu - 1, by omega⟩
    obtain ⟨fv, rfl⟩ : ∃ n, fv = n + 1 := ⟨fv - 1, by omega⟩
    obtain rfl : i = 64 := by omega
    refine ⟨x, far, th, ?_, ?_⟩
    · unfold f_X7_placesAbove_L1
      rw [if_pos (by decide)]
    · unfold f_X10_upstream_L1
      rw [if_pos (by decide)]
  | succ n ih =>
    intro i hi fu fv hfu hfv x far th
    obtain ⟨fu, rfl⟩ : ∃ n, fu = n + 1 := ⟨fu - 1, by omega⟩
    obtain ⟨fv, rfl⟩ : ∃ n, fv = n + 1 := ⟨fv - 1, by omega⟩
    obtain ⟨f, t, a1, a2⟩ := M_carries (bk := bk) (far := far) (th := th) (c := i) (by omega)
    have e := best_u (a2 g hg) (vS_b (by omega) hg)
    unfold f_X7_placesAbove_L1 f_X10_upstream_L1
    rw [if_neg (show ¬ (64 : Int32) ≤ nI i from nI_ge (b := 64) (by omega) (by decide)), X_stepsFrom (bk := bk) (by omega) hg (ht i (by omega)), bd1_s, if_neg (show ¬ (64 : Int32) ≤ nI i from nI_ge (b := 64) (by omega) (by decide)), a1, bd2_s, gin_n hg (by decide), chk_t, cl_n (by omega), e, nI_1]
    have hv : ∃ m, m ≤ 1000000 ∧ vS bk i g = nI m := best_le (vS_b (by omega) hg)
    obtain ⟨m, hm, hm2⟩ := hv
    have hs : sR bk i g = (if (1000000 : Int32) ≤ vS bk i g then -1 else vS bk i g) := rfl
    by_cases z : (1000000 : Int32) ≤ vS bk i g
    · rw [if_pos z] at hs
      rw [hs, if_pos rfl, if_pos z, nm_s, Int32.add_zero]
      exact ih (i + 1) (by omega) fu fv (by omega) (by omega) x f t
    · rw [if_neg z, hm2] at hs
      rw [hs, if_neg (nI_nm1 (by omega)), if_neg z, nm_s]
      exact ih (i + 1) (by omega) fu fv (by omega) (by omega) _ f t
end CAR
theorem INV_v {xi : Nat → Int32} {xa : Nat → Nat → Int32} {mi : Nat → Int32} {ma : Nat → Nat → Int32} (hI : INV xi xa mi ma) (a b c d e : Nat → Int32) : INV xi (va_up (va_up (va_up xa 37 a) 36 b) 38 c) mi (va_up (va_up ma 4 d) 5 e) :=
  INV_wk hI (fun k hk => rfl) (fun k hk => by rw [va_up_ne _ _ (by omega), va_up_ne _ _ (by omega), va_up_ne _ _ (by omega)]) rfl (fun k hk => by rw [va_up_ne _ _ (by omega), va_up_ne _ _ (by omega)])
theorem q_fits : PP_fits INV := by
  intro xi xa mi ma hI p1
  obtain ⟨nc, nb, nd, nr, nf, ng, h1, h2, h3, h4, h5, h6, h7, h8, h9, h10, h11, h12⟩ := FB_now hI
  obtain ⟨⟨n1, n2, n3, n4, n5, n6⟩, k0, k1, k2, k3, k4, k5⟩ := h2
  obtain ⟨s1, s2, s3, s4, s5, s6⟩ := h3
  unfold f_X9_fits f_X10_fits f_X7_fittingCliffs
  rcases rcR p1 nb (by omega) with ⟨b, hb, rfl⟩ | c
  · obtain ⟨e1, e2⟩ := pl_eq (h6 b hb).2.2.1
    obtain ⟨tg, nx, fe, a1, a2⟩ := X_lead (nx := xa 36) (fe := xa 38) (tg := xa 37) h4 e2
    obtain ⟨r, f, t, b1, b2⟩ := fitsL n1 n2 k0 h5 h6 hb a2 nc 0 (by omega) FU FU (FU_big (by omega)) (FU_big (by omega)) 0 (ma 4) (ma 5)
    have hx : f_X4_cell (nI nb) 50 (xa 2) (nI b) (0 : Int32) = some (nI (vN (ma 0 (240 + 2 * b)))) := by
      rw [show (0 : Int32) = nI 0 from rfl, X_cell (c := 0) hb (by omega) (by omega) (by omega) (by omega), Nat.add_zero (5 * b), (h6 b hb).1]
      exact congrArg some e1
    have b1' : f_X7_fittingCliffs_L1 (nI nc) 40 (xa 1) (nI nb) 50 (xa 2) tg (nI b) FU 0 0 = some r := b1
    have b2' : f_X10_fits_L1 (ma 0) (nI b) FU (ma 4) (ma 5) 0 0 = some (f, t, r) := b2
    rw [s2, s1, X_hasT hb (by omega), bd1_s, if_neg (by decide), hx, bd1_s, a1, bd3_s, b1', bd1_s, bd4_s, show (1 : Int32) = nI 1 from rfl, M_is_t (by decide) k1 hb (by omega), bd1_s, if_neg (by decide), b2', bd3_s]
    exact ⟨_, _, _, _, _, _, rfl, rfl, INV_v hI _ _ _ _ _⟩
  · rw [s2, X_hasF (by omega) c, bd1_s, if_pos (by decide), show (1 : Int32) = nI 1 from rfl, M_is_f (by decide) k1 c, bd1_s, if_pos (by decide)]
    exact ⟨_, _, _, _, _, _, rfl, rfl, INV_v hI _ _ _ _ _⟩
theorem q_home : PP_home INV := by
  intro xi xa mi ma hI p1
  obtain ⟨nc, nb, nd, nr, nf, ng, h1, h2, h3, h4, h5, h6, h7, h8, h9, h10, h11, h12⟩ := FB_now hI
  obtain ⟨⟨n1, n2, n3, n4, n5, n6⟩, k0, k1, k2, k3, k4, k5⟩ := h2
  obtain ⟨s1, s2, s3, s4, s5, s6⟩ := h3
  unfold f_X9_home f_X10_home f_X7_nearestCliff
  rcases rcR p1 nb (by omega) with ⟨b, hb, rfl⟩ | c
  · obtain ⟨e1, e2⟩ := pl_eq (h6 b hb).2.2.1
    obtain ⟨tg, nx, fe, a1, a2⟩ := X_lead (nx := xa 36) (fe := xa 38) (tg := xa 37) h4 e2
    obtain ⟨r, f, t, b1, b2⟩ := homeL n1 n2 k0 h5 h6 hb a2 nc 0 (by omega) FU FU (FU_big (by omega)) (FU_big (by omega)) (-1) 1000000 (ma 4) (ma 5)
    have hx : f_X4_cell (nI nb) 50 (xa 2) (nI b) (0 : Int32) = some (nI (vN (ma 0 (240 + 2 * b)))) := by
      rw [show (0 : Int32) = nI 0 from rfl, X_cell (c := 0) hb (by omega) (by omega) (by omega) (by omega), Nat.add_zero (5 * b), (h6 b hb).1]
      exact congrArg some e1
    have b1' : f_X7_nearestCliff_L1 (nI nc) 40 (xa 1) (nI nb) 50 (xa 2) tg (nI b) FU (-1) 1000000 0 = some r := b1
    have b2' : f_X10_home_L1 (ma 0) (nI b) FU (ma 4) (ma 5) (-1) 1000000 0 = some (f, t, r) := b2
    rw [s2, s1, X_hasT hb (by omega), bd1_s, if_neg (by decide), hx, bd1_s, a1, bd3_s, b1', bd1_s, bd4_s, show f_X10_is (ma 0) (1 : Int32) (nI b) = some (nI 1) from M_is_t (k := 1) (by decide) k1 hb (by omega), bd1_s, if_neg (by decide), b2', bd3_s]
    exact ⟨_, _, _, _, _, _, rfl, rfl, INV_v hI _ _ _ _ _⟩
  · rw [s2, X_hasF (by omega) c, bd1_s, if_pos (by decide), show f_X10_is (ma 0) (1 : Int32) p1 = some (nI 0) from M_is_f (k := 1) (by decide) k1 c, bd1_s, if_pos (by decide)]
    exact ⟨_, _, _, _, _, _, rfl, rfl, INV_v hI _ _ _ _ _⟩
theorem q_steps : PP_steps INV := by
  intro xi xa mi ma hI p1 p2
  obtain ⟨nc, nb, nd, nr, nf, ng, h1, h2, h3, h4, h5, h6, h7, h8, h9, h10, h11, h12⟩ := FB_now hI
  obtain ⟨⟨n1, n2, n3, n4, n5, n6⟩, k0, k1, k2, k3, k4, k5⟩ := h2
  obtain ⟨s1, s2, s3, s4, s5, s6⟩ := h3
  unfold f_X9_steps f_X10_steps f_X7_fewestSteps
  rcases rcR p1 nb (by omega) with ⟨b, hb, rfl⟩ | c
  · rcases rcR p2 nc (by omega) with ⟨i, hi, rfl⟩ | d
    · obtain ⟨e1, e2⟩ := pl_eq (h6 b hb).2.2.1
      obtain ⟨e3, e4⟩ := pl_eq (h5 i hi).2.2.1
      obtain ⟨tg, nx, fe, a1, a2⟩ := X_lead (nx := xa 36) (fe := xa 38) (tg := xa 37) h4 e2
      obtain ⟨f', t', m3⟩ := M_stepsOf (bk := ma 0) (far := ma 4) (th := ma 5) (b := b) (c := i) (by omega) (by omega) (h5 i hi).2.2.1 (h6 b hb).2.2.1
      have hx : f_X4_cell (nI nb) 50 (xa 2) (nI b) (0 : Int32) = some (nI (vN (ma 0 (240 + 2 * b)))) := by
        rw [show (0 : Int32) = nI 0 from rfl, X_cell (c := 0) hb (by omega) (by omega) (by omega) (by omega), Nat.add_zero (5 * b), (h6 b hb).1]
        exact congrArg some e1
      have hx2 : f_X4_cell (nI nc) 40 (xa 1) (nI i) (0 : Int32) = some (nI (vN (ma 0 (220 + 2 * i)))) := by
        rw [show (0 : Int32) = nI 0 from rfl, X_cell (c := 0) hi (by omega) (by omega) (by omega) (by omega), Nat.add_zero (5 * i), (h5 i hi).1]
        exact congrArg some e3
      rw [s2, s1, X_hasT hb (by omega), bd1_s, if_neg (by decide), X_hasT hi (by omega), bd1_s, if_neg (by decide), hx, bd1_s, a1, bd3_s, hx2, bd1_s, X_stepsFrom e4 e2 (a2 _ e4), bd1_s, bd4_s, show f_X10_is (ma 0) (1 : Int32) (nI b) = some (nI 1) from M_is_t (k := 1) (by decide) k1 hb (by omega), bd1_s, if_neg (by decide), show f_X10_is (ma 0) (0 : Int32) (nI i) = some (nI 1) from M_is_t (k := 0) (by decide) k0 hi (by omega), bd1_s, if_neg (by decide), m3, bd3_s]
      exact ⟨_, _, _, _, _, _, rfl, rfl, INV_v hI _ _ _ _ _⟩
    · rw [s2, s1, X_hasT hb (by omega), bd1_s, if_neg (by decide), X_hasF (by omega) d, bd1_s, if_pos (by decide), show f_X10_is (ma 0) (1 : Int32) (nI b) = some (nI 1) from M_is_t (k := 1) (by decide) k1 hb (by omega), bd1_s, if_neg (by decide), show f_X10_is (ma 0) (0 : Int32) p2 = some (nI 0) from M_is_f (k := 0) (by decide) k0 d, bd1_s, if_pos (by decide)]
      exact ⟨_, _, _, _, _, _, rfl, rfl, INV_v hI _ _ _ _ _⟩
  · rw [s2, X_hasF (by omega) c, bd1_s, if_pos (by decide), show f_X10_is (ma 0) (1 : Int32) p1 = some (nI 0) from M_is_f (k := 1) (by decide) k1 c, bd1_s, if_pos (by decide)]
    exact ⟨_, _, _, _, _, _, rfl, rfl, INV_v hI _ _ _ _ _⟩
theorem q_upstream : PP_upstream INV := by
  intro xi xa mi ma hI p1
  obtain ⟨nc, nb, nd, nr, nf, ng, h1, h2, h3, h4, h5, h6, h7, h8, h9, h10, h11, h12⟩ := FB_now hI
  unfold f_X9_upstream f_X10_upstream f_X7_placesAbove
  simp only [X_isPlace, M_isPlace, bd1_s, bI_0]
  by_cases c : (0 : Int32) ≤ p1 ∧ p1 ≤ 63
  · obtain ⟨g, hg, rfl⟩ := rng 63 (by decide) c
    obtain ⟨tg, nx, fe, a1, a2⟩ := X_lead (nx := xa 36) (fe := xa 38) (tg := xa 37) h4 (g := g) (by omega)
    obtain ⟨r, f, t, b1, b2⟩ := upL (g := g) (by omega) a2 64 0 (by omega) FU FU (FU_big (by omega)) (FU_big (by omega)) 0 (ma 4) (ma 5)
    rw [if_neg (not_not_intro c), if_neg (not_not_intro c), a1, bd3_s, show f_X7_placesAbove_L1 tg FU 0 0 = some r from b1, bd1_s, bd4_s, show f_X10_upstream_L1 (ma 0) (nI g) FU (ma 4) (ma 5) 0 0 = some (f, t, r) from b2, bd3_s]
    exact ⟨_, _, _, _, _, _, rfl, rfl, INV_v hI _ _ _ _ _⟩
  · rw [if_pos c, if_pos c]
    exact ⟨_, _, _, _, _, _, rfl, rfl, INV_v hI _ _ _ _ _⟩
