/-! ===== stand: the reference ===== -/
theorem metN_lt {g : Nat → Int32} {y x : Nat} : ∀ n, metN g y x n < 2 ^ atN g n
  | 0 => by show 0 < 2 ^ 0; decide
  | n + 1 => by
    show metN g y x n ||| _ < 2 ^ (atN g n + if vN (g (5 * n)) = 0 then 1 else 0)
    have ih := metN_lt (g := g) (y := y) (x := x) n
    by_cases c : vN (g (5 * n)) = 0
    · rw [if_pos c]
      refine Nat.or_lt_two_pow (Nat.lt_of_lt_of_le ih (Nat.pow_le_pow_right (by omega) (by omega))) ?_
      by_cases d : vN (g (5 * n)) = 0 ∧ vN (g (5 * n + 2)) ≤ y ∧ y ≤ vN (g (5 * n + 3)) ∧ x = vN (g (5 * n + 1))
      · rw [if_pos d, Nat.pow_succ]
        have := Nat.two_pow_pos (atN g n)
        omega
      · rw [if_neg d]; exact Nat.two_pow_pos _
    · rw [if_neg c, if_neg (fun z => c z.1), Nat.add_zero, Nat.or_zero]
      exact ih
section STM
variable {ng st : Nat} {g bk : Nat → Int32}
/-- the signs as the two keep them -/
def SG2 (ng : Nat) (g bk : Nat → Int32) : Prop := ng ≤ 10 ∧ bk 5 = nI ng ∧ (∀ i, i < ng → ∀ j, j < 4 → bk (370 + 4 * i + j) = g (5 * i + j)) ∧ (∀ i, i < ng → isN (g (5 * i)) 2 ∧ isN (g (5 * i + 1)) 20 ∧ isN (g (5 * i + 2)) 39 ∧ isN (g (5 * i + 3)) 39) ∧ atN g ng ≤ 5
theorem atN_m {g : Nat → Int32} : ∀ {i n : Nat}, i ≤ n → atN g i ≤ atN g n := by
  intro i n h
  induction n with
  | zero => have : i = 0 := by omega
            subst this; exact Nat.le_refl _
  | succ n ih =>
    by_cases e : i = n + 1
    · subst e; exact Nat.le_refl _
    · have := ih (by omega)
      show atN g i ≤ atN g n + _
      omega
theorem bearsL (h : SG2 ng g bk) {y x : Nat} (hy : y < 40) (hx : x ≤ 20) : ∀ k i, i + k = ng → ∀ fu, k < fu → f_X10_bearsYear_L1 bk (nI y) (nI x) fu (nI (metN g y x i)) (if frB g y x i = true then 1 else 0) (nI (2 ^ atN g i)) (nI i) = some (nI (metN g y x ng), if frB g y x ng = true then 1 else 0) := by
  obtain ⟨hn, h5, hg, hr, ha⟩ := h
  intro k
  induction k with
  | zero =>
    intro i hi fu hfu
    obtain ⟨fu, rfl⟩ : ∃ n, fu = n + 1 := ⟨fu - 1, by omega⟩
    obtain rfl : i = ng := by omega
    unfold f_X10_bearsYear_L1
    rw [show gin (5 : Int32) 460 = true from by decide, chk_t, show (5 : Int32).toNatClampNeg = 5 from by decide, h5, if_pos (Int32.le_refl _)]
  | succ k ih =>
    intro i hi fu hfu
    obtain ⟨fu, rfl⟩ : ∃ n, fu = n + 1 := ⟨fu - 1, by omega⟩
    obtain ⟨⟨K, K1, K2⟩, ⟨X, X1, X2⟩, ⟨p, P1, P2⟩, ⟨q, Q1, Q2⟩⟩ := hr i (by omega)
    have b0 : bk (370 + 4 * i) = nI K := by rw [← K2]; exact hg i (by omega) 0 (by omega)
    have b1 : bk (370 + 4 * i + 1) = nI X := by rw [← X2]; exact hg i (by omega) 1 (by omega)
    have b2 : bk (370 + 4 * i + 2) = nI p := by rw [← P2]; exact hg i (by omega) 2 (by omega)
    have b3 : bk (370 + 4 * i + 3) = nI q := by rw [← Q2]; exact hg i (by omega) 3 (by omega)
    have h1 := ih (i + 1) (by omega) fu (by omega)
    have em : metN g y x (i + 1) = metN g y x i ||| (if K = 0 ∧ p ≤ y ∧ y ≤ q ∧ x = X then 2 ^ (atN g i) else 0) := by
      show metN g y x i ||| _ = _
      rw [K2, X2, P2, Q2, vN_n (by omega), vN_n (by omega), vN_n (by omega), vN_n (by omega)]
    have ea : atN g (i + 1) = atN g i + if K = 0 then 1 else 0 := by
      show atN g i + _ = _
      rw [K2, vN_n (by omega)]
    have ef : frB g y x (i + 1) = (frB g y x i && decide (p ≤ y ∧ y ≤ q → (K = 1 → x ≤ X) ∧ (K = 2 → X ≤ x))) := by
      show (frB g y x i && _) = _
      rw [K2, X2, P2, Q2, vN_n (by omega), vN_n (by omega), vN_n (by omega), vN_n (by omega)]
    rw [em, ea, ef] at h1
    have e1 : (370 : Int32) + 4 * nI i = nI (370 + 4 * i) := by simp (disch := omega) only [↓lm1, ln0, ln1, ln2, ln3, ln4, ln5, ln6, ln7, ln8, ln9, ln10, ln11, ln12, ln13, ln14, ln15, ln16, ln17, ln18, ln19, ln20, ln21, ln22, ln26, ln30, ln31, ln32, ln36, ln39, ln40, ln48, ln50, ln59, ln60, ln61, ln63, ln64, ln80, ln97, ln99, ln100, ln103, ln122, ln192, ln220, ln240, ln255, ln260, ln290, ln300, ln370, ln410, ln430, ln460, ln920, ln960, ln999, ln1000, ln2000, ln26880, ln1000000, ofNat_nI, nI_add, pk_mul, pk_sub, nI_leP, nI_ltP, nI_eqP, nI_clamp, gin_n, chk_t, nm_s, bd1_s, bd2_s, bd3_s, bd4_s, bI_n0, bI_1, chk_gz_bI, if_pos, if_neg, if_true, if_false, ite_some, nI_m1, m1_nI, m1_le, le_m1, m1_lt, lt_m1, m1_1, n_m1, n0_m1, m1_m1, not_true_eq_false, not_false_eq_true]
    have hnow : (if nI y < nI p then some (0 : Int32) else chk true (if nI q < nI y then some 0 else some 1)) = some (if p ≤ y ∧ y ≤ q then 1 else 0) := by
      by_cases c : y < p
      · rw [if_pos (nI_lt c (by omega)), if_neg (by omega)]
      · rw [if_neg (nI_nlt (by omega) (by omega)), chk_t]
        by_cases d : q < y
        · rw [if_pos (nI_lt d (by omega)), if_neg (by omega)]
        · rw [if_neg (nI_nlt (by omega) (by omega)), if_pos (by omega)]
    unfold f_X10_bearsYear_L1
    rw [show gin (5 : Int32) 460 = true from by decide, chk_t, show (5 : Int32).toNatClampNeg = 5 from by decide, h5, if_neg (nI_ge (by omega) (by omega)), e1, nm_s, show nI (370 + 4 * i) + 2 = nI (370 + 4 * i + 2) from nI_add _ 2, show nI (370 + 4 * i) + 3 = nI (370 + 4 * i + 3) from nI_add _ 3, show nI (370 + 4 * i) + 1 = nI (370 + 4 * i + 1) from nI_add _ 1, gin_n (by omega) (by decide), gin_n (by omega) (by decide), gin_n (by omega) (by decide), gin_n (by omega) (by decide), chk_t, cl_n (by omega), cl_n (by omega), cl_n (by omega), cl_n (by omega), b0, b1, b2, b3, hnow, bd1_s, chk_t, nm_s, nI_1]
    have hright : (if (if frB g y x i = true then (1 : Int32) else 0) = 0 then some (0 : Int32) else if (if p ≤ y ∧ y ≤ q then (1 : Int32) else 0) = 0 then some 1 else if nI K = 0 then some 1 else if nI K = 1 then chk true (if nI X < nI x then some 0 else some 1) else chk true (if nI x < nI X then some 0 else some 1)) = some (if (frB g y x i && decide (p ≤ y ∧ y ≤ q → (K = 1 → x ≤ X) ∧ (K = 2 → X ≤ x))) = true then 1 else 0) := by
      by_cases c : frB g y x i = true
      · rw [c, Bool.true_and, if_pos rfl, if_neg one0]
        by_cases d : p ≤ y ∧ y ≤ q
        · rw [if_pos d, if_neg one0]
          have cs : K = 0 ∨ K = 1 ∨ K = 2 := by omega
          rcases cs with rfl | rfl | rfl
          · rw [if_pos (by rfl), if_pos (decide_eq_true (fun _ => ⟨fun z => by omega, fun z => by omega⟩))]
          · rw [if_neg n10, if_pos (by rfl), chk_t]
            by_cases e : X < x
            · rw [if_pos (nI_lt e (by omega)), if_neg (fun z => by have := ((of_decide_eq_true z) d).1 rfl; omega)]
            · rw [if_neg (nI_nlt (by omega) (by omega)), if_pos (decide_eq_true (fun _ => ⟨fun _ => by omega, fun z => by omega⟩))]
          · rw [if_neg (show ¬ nI 2 = (0 : Int32) from by decide), if_neg (show ¬ nI 2 = (1 : Int32) from by decide), chk_t]
            by_cases e : x < X
            · rw [if_pos (nI_lt e (by omega)), if_neg (fun z => by have := ((of_decide_eq_true z) d).2 rfl; omega)]
            · rw [if_neg (nI_nlt (by omega) (by omega)), if_pos (decide_eq_true (fun _ => ⟨fun z => by omega, fun _ => by omega⟩))]
        · rw [if_neg d, if_pos rfl, if_pos (decide_eq_true (fun z => absurd z d))]
      · rw [if_neg c, if_pos rfl, if_neg (fun z => c (Bool.and_eq_true _ _ |>.mp z).1)]
    rw [hright, bd1_s]
    have ha' : atN g i ≤ 5 := Nat.le_trans (atN_m (show i ≤ ng by omega)) ha
    by_cases k0 : K = 0
    · subst k0
      rw [if_pos rfl, Nat.pow_succ] at h1
      have hm : (if (if p ≤ y ∧ y ≤ q then (1 : Int32) else 0) = 0 then some (0 : Int32) else chk true (if nI x = nI X then some (nI (2 ^ atN g i)) else some 0)) = some (nI (if 0 = 0 ∧ p ≤ y ∧ y ≤ q ∧ x = X then 2 ^ (atN g i) else 0)) := by
        by_cases d : p ≤ y ∧ y ≤ q
        · rw [if_pos d, if_neg one0, chk_t]
          by_cases e : x = X
          · rw [if_pos (by rw [e]), if_pos ⟨rfl, d.1, d.2, e⟩]
          · rw [if_neg (fun z => e ((nI_eq (by omega) (by omega)).mp z)), if_neg (fun z => e z.2.2.2)]; rfl
        · rw [if_neg d, if_pos rfl, if_neg (fun z => d ⟨z.2.1, z.2.2.1⟩)]; rfl
      rw [if_pos (by rfl), hm, bd1_s, nm_s, nI_or, show nI (2 ^ atN g i) * 2 = nI (2 ^ atN g i * 2) from pk_mul _ 2, nm_s]
      exact h1
    · rw [if_neg k0, Nat.add_zero, if_neg (fun z => k0 z.1), Nat.or_zero] at h1
      rw [if_neg (show ¬ nI K = 0 from nI_ne0 (by omega) (by omega))]
      exact h1
theorem bears (h : SG2 ng g bk) {y x : Nat} (hy : y < 40) (hx : x ≤ 20) : f_X10_bearsYear bk (nI y) (nI x) = some (if frB g y x ng = true then 1 else 0, nI (metN g y x ng)) := by
  have h1 := bearsL h hy hx ng 0 (by omega) FU (FU_big (by have := h.1; omega))
  unfold f_X10_bearsYear
  rw [show f_X10_bearsYear_L1 bk (nI y) (nI x) FU 0 1 1 0 = _ from h1, bd2_s]
  by_cases c : frB g y x ng = true
  · rw [if_pos c]; rfl
  · rw [if_neg c]; rfl
theorem Wd_m (k x m : Nat) : Wd st ng g k x m ≤ 1000000 := by
  cases k with
  | zero =>
    unfold Wd
    by_cases c : frB g 39 x ng = true
    · rw [if_pos c]
      by_cases d : m ||| metN g 39 x ng = 2 ^ atN g ng - 1
      · rw [if_pos d]; omega
      · rw [if_neg d]; omega
    · rw [if_neg c]; omega
  | succ k =>
    unfold Wd
    by_cases c : frB g (38 - k) x ng = true
    · rw [if_pos c]; exact mnF_m _ _
    · rw [if_neg c]; omega
/-- the reference's table: what is right from a place on -/
def GM (st ng : Nat) (g ways : Nat → Int32) (y x k : Nat) : Prop := ∀ y' x' k', y' < 40 → x' < 21 → k' < 2 ^ atN g ng → (y < y' ∨ (y' = y ∧ (x' < x ∨ (x' = x ∧ k' < k)))) → ways ((21 * y' + x') * 32 + k') = nI (Wd st ng g (39 - y') x' k')
theorem idxM {y x k y' x' k' : Nat} (hx : x < 21) (hk : k < 32) (hx' : x' < 21) (hk' : k' < 32) (h : (21 * y + x) * 32 + k = (21 * y' + x') * 32 + k') : y = y' ∧ x = x' ∧ k = k' := by omega
theorem M_onFromL (h7 : bk 7 = nI st) (hst : st ≤ 20) {ways : Nat → Int32} {y x m : Nat} (hy : y < 39) (hx : x ≤ 20) (hm : m < 32) (hw : ∀ t, t < 21 → ways ((21 * (y + 1) + t) * 32 + m) = nI (Wd st ng g (38 - y) t m)) : ∀ k i, i + k = 21 → ∀ fu, k < fu → f_X10_onFrom_L1 (nI x) bk (nI y) (nI m) ways fu (nI (mnF (fun t => if dst x t ≤ st then dst x t + Wd st ng g (38 - y) t m else 1000000) i)) (nI i) = some (nI (mnF (fun t => if dst x t ≤ st then dst x t + Wd st ng g (38 - y) t m else 1000000) 21)) := by
  intro k
  induction k with
  | zero =>
    intro i hi fu hfu
    obtain ⟨fu, rfl⟩ : ∃ n, fu = n + 1 := ⟨fu - 1, by omega⟩
    obtain rfl : i = 21 := by omega
    unfold f_X10_onFrom_L1
    rw [if_pos (by decide)]
  | succ k ih =>
    intro i hi fu hfu
    obtain ⟨fu, rfl⟩ : ∃ n, fu = n + 1 := ⟨fu - 1, by omega⟩
    have h1 := ih (i + 1) (by omega) fu (by omega)
    have hd : dst x i ≤ 20 := by
      unfold dst
      by_cases c : x ≤ i
      · rw [if_pos c]; omega
      · rw [if_neg c]; omega
    have e1 : (if nI i ≤ nI x then some (nI x - nI i) else some (nI i - nI x)) = some (nI (dst x i)) := by
      unfold dst
      by_cases c : i ≤ x
      · rw [if_pos (nI_le c (by omega)), pk_sub c]
        by_cases d : x ≤ i
        · rw [if_pos d]; congr 2; omega
        · rw [if_neg d]
      · rw [if_neg (nI_ge (by omega) (by omega)), pk_sub (by omega), if_pos (by omega)]
    have hW := Wd_m (st := st) (ng := ng) (g := g) (38 - y) i m
    have e2 : (if nI st < nI (dst x i) then some (1000000 : Int32) else bd1 (f_X10_wayAt (nI y + 1) (nI i) (nI m)) (fun r30 => chk (gin r30 26880) (some (nI (dst x i) + ways r30.toNatClampNeg)))) = some (nI (if dst x i ≤ st then dst x i + Wd st ng g (38 - y) i m else 1000000)) := by
      unfold f_X10_wayAt
      by_cases c : dst x i ≤ st
      · rw [if_neg (nI_nlt c (by omega)), if_pos c, bd1_s, show (21 * (nI y + 1) + nI i) * 32 + nI m = nI ((21 * (y + 1) + i) * 32 + m) from by simp (disch := omega) only [↓lm1, ln0, ln1, ln2, ln3, ln4, ln5, ln6, ln7, ln8, ln9, ln10, ln11, ln12, ln13, ln14, ln15, ln16, ln17, ln18, ln19, ln20, ln21, ln22, ln26, ln30, ln31, ln32, ln36, ln39, ln40, ln48, ln50, ln59, ln60, ln61, ln63, ln64, ln80, ln97, ln99, ln100, ln103, ln122, ln192, ln220, ln240, ln255, ln260, ln290, ln300, ln370, ln410, ln430, ln460, ln920, ln960, ln999, ln1000, ln2000, ln26880, ln1000000, ofNat_nI, nI_add, pk_mul, pk_sub, nI_leP, nI_ltP, nI_eqP, nI_clamp, gin_n, chk_t, nm_s, bd1_s, bd2_s, bd3_s, bd4_s, bI_n0, bI_1, chk_gz_bI, if_pos, if_neg, if_true, if_false, ite_some, nI_m1, m1_nI, m1_le, le_m1, m1_lt, lt_m1, m1_1, n_m1, n0_m1, m1_m1, not_true_eq_false, not_false_eq_true], gin_n (by omega) (by decide), chk_t, cl_n (by omega), hw i (by omega), nI_add]
      · rw [if_pos (nI_lt (by omega) (by omega)), if_neg c]; rfl
    have hmm := mnF_m (fun t => if dst x t ≤ st then dst x t + Wd st ng g (38 - y) t m else 1000000) i
    unfold f_X10_onFrom_L1
    rw [if_neg (show ¬ (21 : Int32) ≤ nI i from nI_ge (b := 21) (by omega) (by decide)), e1, bd1_s, show gin (7 : Int32) 460 = true from by decide, chk_t, show (7 : Int32).toNatClampNeg = 7 from by decide, h7, e2, bd1_s, nI_1]
    have hF : (if dst x i ≤ st then dst x i + Wd st ng g (38 - y) i m else 1000000) ≤ 1000020 := by
      by_cases c : dst x i ≤ st
      · rw [if_pos c]; omega
      · rw [if_neg c]; omega
    rw [show mnF (fun t => if dst x t ≤ st then dst x t + Wd st ng g (38 - y) t m else 1000000) (i + 1) = if (if dst x i ≤ st then dst x i + Wd st ng g (38 - y) i m else 1000000) < mnF (fun t => if dst x t ≤ st then dst x t + Wd st ng g (38 - y) t m else 1000000) i then (if dst x i ≤ st then dst x i + Wd st ng g (38 - y) i m else 1000000) else mnF (fun t => if dst x t ≤ st then dst x t + Wd st ng g (38 - y) t m else 1000000) i from rfl] at h1
    by_cases c : (if dst x i ≤ st then dst x i + Wd st ng g (38 - y) i m else 1000000) < mnF (fun t => if dst x t ≤ st then dst x t + Wd st ng g (38 - y) t m else 1000000) i
    · rw [if_pos c] at h1
      rw [if_neg (nI_ge c (by omega))]
      exact h1
    · rw [if_neg c] at h1
      rw [if_pos (nI_le (by omega) (by omega))]
      exact h1
/-- one number of the table -/
theorem M_entry (h : SG2 ng g bk) (h7 : bk 7 = nI st) (hst : st ≤ 20) {ways : Nat → Int32} {y x k : Nat} (hy : y < 40) (hx : x < 21) (hk : k < 2 ^ atN g ng) (hG : GM st ng g ways y x k) : (if (if frB g y x ng = true then (1 : Int32) else 0) = 0 then some (1000000 : Int32) else bd1 (f_X10_onFrom bk ways (nI y) (nI x) (nI k ||| nI (metN g y x ng)) (nI (2 ^ atN g ng - 1))) (fun r44 => some r44)) = some (nI (Wd st ng g (39 - y) x k)) := by
  have h32 : 2 ^ atN g ng ≤ 2 ^ 5 := Nat.pow_le_pow_right (by omega) h.2.2.2.2
  have h25 : (2 : Nat) ^ 5 = 32 := rfl
  have hmet := metN_lt (g := g) (y := y) (x := x) ng
  have hor : k ||| metN g y x ng < 2 ^ atN g ng := Nat.or_lt_two_pow hk hmet
  have hpos := Nat.two_pow_pos (atN g ng)
  by_cases c : frB g y x ng = true
  · rw [if_pos c, if_neg one0, nI_or]
    unfold f_X10_onFrom
    by_cases e : y = 39
    · subst e
      have eW : Wd st ng g (39 - 39) x k = if k ||| metN g 39 x ng = 2 ^ atN g ng - 1 then 0 else 1000000 := by
        show Wd st ng g 0 x k = _
        unfold Wd
        rw [if_pos c]
      rw [if_pos (by rfl), eW]
      by_cases d : k ||| metN g 39 x ng = 2 ^ atN g ng - 1
      · rw [if_pos d, if_pos (by rw [d])]; rfl
      · rw [if_neg d, if_neg (fun z => d ((nI_eq (by omega) (by omega)).mp z))]; rfl
    · have eW : Wd st ng g (39 - y) x k = mnF (fun t => if dst x t ≤ st then dst x t + Wd st ng g (38 - y) t (k ||| metN g y x ng) else 1000000) 21 := by
        rw [show 39 - y = (38 - y) + 1 by omega]
        show (if frB g (38 - (38 - y)) x ng = true then _ else _) = _
        rw [show 38 - (38 - y) = y by omega, if_pos c]
      have h1 := M_onFromL (bk := bk) (ng := ng) (g := g) h7 hst (ways := ways) (y := y) (x := x) (m := k ||| metN g y x ng) (by omega) (by omega) (by omega) (fun t ht => by
        have := hG (y + 1) t (k ||| metN g y x ng) (by omega) ht hor (Or.inl (by omega))
        rw [show 39 - (y + 1) = 38 - y by omega] at this
        exact this) 21 0 rfl FU (FU_big (by omega))
      rw [if_neg (show ¬ nI y = (39 : Int32) from fun z => e ((nI_eq (b := 39) (by omega) (by decide)).mp z)), show f_X10_onFrom_L1 (nI x) bk (nI y) (nI (k ||| metN g y x ng)) ways FU 1000000 0 = _ from h1, bd1_s, bd1_s, eW]
  · rw [if_neg c, if_pos rfl]
    have eW : Wd st ng g (39 - y) x k = 1000000 := by
      by_cases e : y = 39
      · subst e
        show Wd st ng g 0 x k = _
        unfold Wd
        rw [if_neg c]
      · rw [show 39 - y = (38 - y) + 1 by omega]
        show (if frB g (38 - (38 - y)) x ng = true then _ else _) = _
        rw [show 38 - (38 - y) = y by omega, if_neg c]
    rw [eW]; rfl
theorem GM_step {ways : Nat → Int32} {y x k : Nat} (ha : atN g ng ≤ 5) (hx : x < 21) (hk : k < 2 ^ atN g ng) (hG : GM st ng g ways y x k) : GM st ng g (upd ways ((21 * y + x) * 32 + k) (nI (Wd st ng g (39 - y) x k))) y x (k + 1) := by
  have h32 : 2 ^ atN g ng ≤ 2 ^ 5 := Nat.pow_le_pow_right (by omega) ha
  have h25 : (2 : Nat) ^ 5 = 32 := rfl
  intro y' x' k' a b c d
  by_cases e : (21 * y' + x') * 32 + k' = (21 * y + x) * 32 + k
  · obtain ⟨e1, e2, e3⟩ := idxM b (by omega) hx (by omega) e
    subst e1; subst e2; subst e3
    rw [upd_s]
  · rw [upd_n _ _ e]
    refine hG y' x' k' a b c ?_
    rcases d with d | ⟨d1, d2 | ⟨d2, d3⟩⟩
    · exact Or.inl d
    · exact Or.inr ⟨d1, Or.inl d2⟩
    · refine Or.inr ⟨d1, Or.inr ⟨d2, ?_⟩⟩
      rcases Nat.lt_or_ge k' k with z | z
      · exact z
      · exfalso
        have : k' = k := by omega
        subst this; subst d1; subst d2
        exact e rfl
theorem M_maskL (h : SG2 ng g bk) (h7 : bk 7 = nI st) (hst : st ≤ 20) {y x : Nat} (hy : y < 40) (hx : x < 21) : ∀ n k, k + n = 2 ^ atN g ng → ∀ fu, n < fu → ∀ ways, GM st ng g ways y x k → ∃ ways', f_X10_travels_L13 (nI (2 ^ atN g ng - 1)) (nI y) (nI x) (if frB g y x ng = true then 1 else 0) bk (nI (metN g y x ng)) fu ways (nI k) = some ways' ∧ GM st ng g ways' y (x + 1) 0 := by
  have h32 : 2 ^ atN g ng ≤ 2 ^ 5 := Nat.pow_le_pow_right (by omega) h.2.2.2.2
  have h25 : (2 : Nat) ^ 5 = 32 := rfl
  have hpos := Nat.two_pow_pos (atN g ng)
  intro n
  induction n with
  | zero =>
    intro k hk fu hfu ways hG
    obtain ⟨fu, rfl⟩ : ∃ n, fu = n + 1 := ⟨fu - 1, by omega⟩
    refine ⟨ways, ?_, fun y' x' k' a b c d => hG y' x' k' a b c ?_⟩
    · unfold f_X10_travels_L13
      rw [if_pos (nI_lt (by omega) (by omega))]
    · rcases d with d | ⟨d1, d2 | ⟨d2, d3⟩⟩
      · exact Or.inl d
      · by_cases e : x' = x
        · exact Or.inr ⟨d1, Or.inr ⟨e, by omega⟩⟩
        · exact Or.inr ⟨d1, Or.inl (by omega)⟩
      · omega
  | succ n ih =>
    intro k hk fu hfu ways hG
    obtain ⟨fu, rfl⟩ : ∃ n, fu = n + 1 := ⟨fu - 1, by omega⟩
    obtain ⟨w', b1, b2⟩ := ih (k + 1) (by omega) fu (by omega) _ (GM_step h.2.2.2.2 hx (by omega) hG)
    refine ⟨w', ?_, b2⟩
    unfold f_X10_travels_L13 f_X10_wayAt
    rw [if_neg (nI_nlt (by omega) (by omega)), bd1_s, M_entry h h7 hst hy hx (by omega) hG, bd1_s, show (21 * nI y + nI x) * 32 + nI k = nI ((21 * y + x) * 32 + k) from by simp (disch := omega) only [↓lm1, ln0, ln1, ln2, ln3, ln4, ln5, ln6, ln7, ln8, ln9, ln10, ln11, ln12, ln13, ln14, ln15, ln16, ln17, ln18, ln19, ln20, ln21, ln22, ln26, ln30, ln31, ln32, ln36, ln39, ln40, ln48, ln50, ln59, ln60, ln61, ln63, ln64, ln80, ln97, ln99, ln100, ln103, ln122, ln192, ln220, ln240, ln255, ln260, ln290, ln300, ln370, ln410, ln430, ln460, ln920, ln960, ln999, ln1000, ln2000, ln26880, ln1000000, ofNat_nI, nI_add, pk_mul, pk_sub, nI_leP, nI_ltP, nI_eqP, nI_clamp, gin_n, chk_t, nm_s, bd1_s, bd2_s, bd3_s, bd4_s, bI_n0, bI_1, chk_gz_bI, if_pos, if_neg, if_true, if_false, ite_some, nI_m1, m1_nI, m1_le, le_m1, m1_lt, lt_m1, m1_1, n_m1, n0_m1, m1_m1, not_true_eq_false, not_false_eq_true], gin_n (by omega) (by decide), chk_t, nm_s, cl_n (by omega), nI_1]
    exact b1
theorem M_frontL (h : SG2 ng g bk) (h7 : bk 7 = nI st) (hst : st ≤ 20) {y : Nat} (hy : y < 40) : ∀ n x, x + n = 21 → ∀ fu, n < fu → ∀ ways met, GM st ng g ways y x 0 → ∃ ways' met', f_X10_travels_L12 bk (nI y) (nI (2 ^ atN g ng - 1)) fu ways met (nI x) = some (ways', met') ∧ GM st ng g ways' y 21 0 := by
  intro n
  induction n with
  | zero =>
    intro x hx fu hfu ways met hG
    obtain ⟨fu, rfl⟩ : ∃ n, fu = n + 1 := ⟨fu - 1, by omega⟩
    obtain rfl : x = 21 := by omega
    refine ⟨ways, met, ?_, hG⟩
    unfold f_X10_travels_L12
    rw [if_pos (by decide)]
  | succ n ih =>
    intro x hx fu hfu ways met hG
    obtain ⟨fu, rfl⟩ : ∃ n, fu = n + 1 := ⟨fu - 1, by omega⟩
    obtain ⟨w1, a1, a2⟩ := M_maskL h h7 hst hy (show x < 21 by omega) (2 ^ atN g ng) 0 (by omega) FU (FU_big (by
      have : 2 ^ atN g ng ≤ 2 ^ 5 := Nat.pow_le_pow_right (by omega) h.2.2.2.2
      have h25 : (2 : Nat) ^ 5 = 32 := rfl
      omega)) ways hG
    obtain ⟨w2, m2, b1, b2⟩ := ih (x + 1) (by omega) fu (by omega) w1 (nI (metN g y x ng)) a2
    refine ⟨w2, m2, ?_, b2⟩
    unfold f_X10_travels_L12
    rw [if_neg (show ¬ (21 : Int32) ≤ nI x from nI_ge (b := 21) (by omega) (by decide)), bears h hy (by omega), bd2_s, show f_X10_travels_L13 (nI (2 ^ atN g ng - 1)) (nI y) (nI x) (if frB g y x ng = true then 1 else 0) bk (nI (metN g y x ng)) FU ways 0 = some w1 from a1, bd1_s, nI_1]
    exact b1
theorem M_yearL (h : SG2 ng g bk) (h7 : bk 7 = nI st) (hst : st ≤ 20) : ∀ n, n ≤ 40 → ∀ fu, n < fu → ∀ ways met, (∀ y' x' k', y' < 40 → x' < 21 → k' < 2 ^ atN g ng → n ≤ y' → ways ((21 * y' + x') * 32 + k') = nI (Wd st ng g (39 - y') x' k')) → ∃ ways' met', f_X10_travels_L9 bk (nI (2 ^ atN g ng - 1)) fu ways met (if n = 0 then -1 else nI (n - 1)) = some (ways', met') ∧ ∀ y' x' k', y' < 40 → x' < 21 → k' < 2 ^ atN g ng → ways' ((21 * y' + x') * 32 + k') = nI (Wd st ng g (39 - y') x' k') := by
  intro n
  induction n with
  | zero =>
    intro _ fu hfu ways met hG
    obtain ⟨fu, rfl⟩ : ∃ n, fu = n + 1 := ⟨fu - 1, by omega⟩
    refine ⟨ways, met, ?_, fun y' x' k' a b c => hG y' x' k' a b c (Nat.zero_le _)⟩
    unfold f_X10_travels_L9
    rw [if_pos rfl, if_pos (by decide)]
  | succ n ih =>
    intro hn fu hfu ways met hG
    obtain ⟨fu, rfl⟩ : ∃ n, fu = n + 1 := ⟨fu - 1, by omega⟩
    have e0 : (if n + 1 = 0 then (-1 : Int32) else nI (n + 1 - 1)) = nI n := by rw [if_neg (Nat.succ_ne_zero n)]; rfl
    have e3 : nI n + -1 = (if n = 0 then (-1 : Int32) else nI (n - 1)) := by
      by_cases c : n = 0
      · subst c; rfl
      · obtain ⟨j, rfl⟩ : ∃ j, n = j + 1 := ⟨n - 1, by omega⟩
        rw [if_neg c, pk_m1]
        rfl
    obtain ⟨w1, m1', a1, a2⟩ := M_frontL h h7 hst (show n < 40 by omega) 21 0 rfl FU (FU_big (by omega)) ways met (fun y' x' k' a b c d => hG y' x' k' a b c (by omega))
    obtain ⟨w2, m2, b1, b2⟩ := ih (by omega) fu (by omega) w1 m1' (fun y' x' k' a b c d => a2 y' x' k' a b c (by omega))
    refine ⟨w2, m2, ?_, b2⟩
    rw [e0]
    unfold f_X10_travels_L9
    rw [if_neg (nI_pos (by omega)), show f_X10_travels_L12 bk (nI n) (nI (2 ^ atN g ng - 1)) FU ways met 0 = some (w1, m1') from a1, bd2_s, e3]
    exact b1
theorem M_leastL {ways : Nat → Int32} (hw : ∀ x, x < 21 → ways (x * 32) = nI (Wd st ng g 39 x 0)) : ∀ n i, i + n = 21 → ∀ fu, n < fu → f_X10_travels_L14 ways fu (nI (mnF (fun x => Wd st ng g 39 x 0) i)) (nI i) = some (nI (mnF (fun x => Wd st ng g 39 x 0) 21)) := by
  intro n
  induction n with
  | zero =>
    intro i hi fu hfu
    obtain ⟨fu, rfl⟩ : ∃ n, fu = n + 1 := ⟨fu - 1, by omega⟩
    obtain rfl : i = 21 := by omega
    unfold f_X10_travels_L14
    rw [if_pos (by decide)]
  | succ n ih =>
    intro i hi fu hfu
    obtain ⟨fu, rfl⟩ : ∃ n, fu = n + 1 := ⟨fu - 1, by omega⟩
    have h1 := ih (i + 1) (by omega) fu (by omega)
    have hW := Wd_m (st := st) (ng := ng) (g := g) 39 i 0
    have hmm := mnF_m (fun x => Wd st ng g 39 x 0) i
    rw [show mnF (fun x => Wd st ng g 39 x 0) (i + 1) = if Wd st ng g 39 i 0 < mnF (fun x => Wd st ng g 39 x 0) i then Wd st ng g 39 i 0 else mnF (fun x => Wd st ng g 39 x 0) i from rfl] at h1
    unfold f_X10_travels_L14 f_X10_wayAt
    rw [if_neg (show ¬ (21 : Int32) ≤ nI i from nI_ge (b := 21) (by omega) (by decide)), bd1_s, show ((21 : Int32) * 0 + nI i) * 32 + 0 = nI (i * 32) from by simp (disch := omega) only [↓lm1, ln0, ln1, ln2, ln3, ln4, ln5, ln6, ln7, ln8, ln9, ln10, ln11, ln12, ln13, ln14, ln15, ln16, ln17, ln18, ln19, ln20, ln21, ln22, ln26, ln30, ln31, ln32, ln36, ln39, ln40, ln48, ln50, ln59, ln60, ln61, ln63, ln64, ln80, ln97, ln99, ln100, ln103, ln122, ln192, ln220, ln240, ln255, ln260, ln290, ln300, ln370, ln410, ln430, ln460, ln920, ln960, ln999, ln1000, ln2000, ln26880, ln1000000, ofNat_nI, nI_add, pk_mul, pk_sub, nI_leP, nI_ltP, nI_eqP, nI_clamp, gin_n, chk_t, nm_s, bd1_s, bd2_s, bd3_s, bd4_s, bI_n0, bI_1, chk_gz_bI, if_pos, if_neg, if_true, if_false, ite_some, nI_m1, m1_nI, m1_le, le_m1, m1_lt, lt_m1, m1_1, n_m1, n0_m1, m1_m1, not_true_eq_false, not_false_eq_true, Nat.mul_zero, Nat.zero_add, Nat.add_zero], gin_n (by omega) (by decide), chk_t, nm_s, cl_n (by omega), hw i (by omega), nI_1]
    by_cases c : Wd st ng g 39 i 0 < mnF (fun x => Wd st ng g 39 x 0) i
    · rw [if_pos c] at h1
      rw [if_neg (nI_ge c (by omega))]
      exact h1
    · rw [if_neg c] at h1
      rw [if_pos (nI_le (by omega) (by omega))]
      exact h1
theorem M_travels (h : SG2 ng g bk) (h7 : bk 7 = nI st) (hst : st ≤ 20) (hpl : f_X10_places bk = some (nI (atN g ng))) (met : Int32) (ways : Nat → Int32) : ∃ met' ways', f_X10_travels met bk ways = some (nI (tvN st ng g), met', ways') ∧ ∀ y' x' k', y' < 40 → x' < 21 → k' < 2 ^ atN g ng → ways' ((21 * y' + x') * 32 + k') = nI (Wd st ng g (39 - y') x' k') := by
  have hpos := Nat.two_pow_pos (atN g ng)
  obtain ⟨w, m, a1, a2⟩ := M_yearL h h7 hst 40 (Nat.le_refl _) FU (FU_big (by omega)) ways met (fun y' x' k' a b c d => by omega)
  have b1 := M_leastL (st := st) (ng := ng) (g := g) (ways := w) (fun x hx => by
    have := a2 0 x 0 (by omega) hx hpos
    rw [Nat.mul_zero, Nat.zero_add, Nat.add_zero] at this
    exact this) 21 0 rfl FU (FU_big (by omega))
  refine ⟨m, w, ?_, a2⟩
  unfold f_X10_travels
  rw [hpl, bd1_s, shl1 _ (by have := h.2.2.2.2; omega), show nI (2 ^ atN g ng) - 1 = nI (2 ^ atN g ng - 1) from pk_sub (b := 1) (by omega), nm_s, show f_X10_travels_L9 bk (nI (2 ^ atN g ng - 1)) FU ways met 39 = some (w, m) from a1, bd2_s, show f_X10_travels_L14 w FU 1000000 0 = _ from b1, bd1_s]
  rfl
end STM
