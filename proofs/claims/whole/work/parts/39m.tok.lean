/-! ===== texts: tokens ===== -/
def hsN (d : Nat → Nat) : Nat → Nat
  | 0 => 0
  | k + 1 => 32 * hsN d k + d k
theorem hsN_s (d : Nat → Nat) (k : Nat) : hsN d (k + 1) = 32 * hsN d k + d k := by rw [hsN]
theorem hsN_inj {d d' : Nat → Nat} : ∀ l l', (∀ i, i < l → 1 ≤ d i ∧ d i ≤ 26) → (∀ i, i < l' → 1 ≤ d' i ∧ d' i ≤ 26) → hsN d l = hsN d' l' → l = l' ∧ ∀ i, i < l → d i = d' i
  | 0, 0, _, _, _ => ⟨rfl, fun i h => by omega⟩
  | 0, l' + 1, _, h2, e => by
    have := h2 l' (by omega)
    rw [hsN_s] at e
    have e : 0 = 32 * hsN d' l' + d' l' := e
    omega
  | l + 1, 0, h1, _, e => by
    have := h1 l (by omega)
    rw [hsN_s] at e
    have e : 32 * hsN d l + d l = 0 := e
    omega
  | l + 1, l' + 1, h1, h2, e => by
    have a := h1 l (by omega)
    have b := h2 l' (by omega)
    rw [hsN_s, hsN_s] at e
    obtain ⟨rfl, q⟩ := hsN_inj l l' (fun i h => h1 i (by omega)) (fun i h => h2 i (by omega)) (by omega)
    refine ⟨rfl, fun i h => ?_⟩
    by_cases c : i = l
    · subst c; omega
    · exact q i (by omega)
theorem hsN_lt {d : Nat → Nat} : ∀ l, (∀ i, i < l → 1 ≤ d i ∧ d i ≤ 26) → hsN d l < 32 ^ l
  | 0, _ => by show 0 < 32 ^ 0; decide
  | l + 1, h => by
    have a := hsN_lt l (fun i hi => h i (by omega))
    have b := h l (by omega)
    rw [hsN_s, Nat.pow_succ]
    omega
def wl : Nat → Nat := fun w => ([5, 7, 7, 5, 4, 4, 6, 4, 3, 2, 4, 3] : List Nat).getD w 0
def HW : Nat → Nat := fun w => ([3548358, 2673217714, 20520685672, 19173605, 120467, 769508, 412197038, 206276, 13360, 52, 215205, 9317] : List Nat).getD w 0
def wd (w i : Nat) : Nat := vN (tbS (8 * w + i)) - 96
theorem wd_ok : ∀ w, w < 12 → (wl w ≤ 7 ∧ hsN (wd w) (wl w) = HW w) ∧ ∀ i, i < 8 → (i < wl w → tbS (8 * w + i) = nI (wd w i + 96) ∧ 1 ≤ wd w i ∧ wd w i ≤ 26) ∧ (¬ i < wl w → tbS (8 * w + i) = nI 32) := by decide +kernel
theorem HW_inj : ∀ w, w < 12 → ∀ w', w' < 12 → HW w = HW w' → w = w' := by decide +kernel
theorem chA : ∀ j, j < 96 → f_J0_charAt_5068e (nI j) = some (tbS j) := by decide +kernel
theorem wordOf_t : ∀ w, w < 12 → f_X10_wordOf (lN (HW w)) = some (nI (10 + w)) := by decide +kernel
theorem cmp_0 (a b : Int64) : (lg_cmp a b = 0) ↔ a = b := by
  unfold lg_cmp
  by_cases h : a > b
  · rw [if_pos h]
    exact ⟨fun z => absurd z (by decide), fun z => by subst z; exact absurd h (Int64.lt_irrefl)⟩
  · rw [if_neg h]
    by_cases e : a = b
    · rw [if_pos e]; exact ⟨fun _ => e, fun _ => rfl⟩
    · rw [if_neg e]; exact ⟨fun z => absurd z (by decide), fun z => absurd z e⟩
theorem wordOf_f {h : Nat} (hh : h < 2 ^ 40) (hw : ∀ w, w < 12 → h ≠ HW w) : f_X10_wordOf (lN h) = some 1 := by
  have ne : ∀ w, w < 12 → ¬ lg_cmp (lN h) (lN (HW w)) = 0 := fun w hw' z => by
    have b : HW w < 2 ^ 63 := (show ∀ w, w < 12 → HW w < 2 ^ 63 by decide +kernel) w hw'
    exact hw w hw' ((pk_lEQ (by omega) b).mp ((cmp_0 _ _).mp z))
  unfold f_X10_wordOf
  rw [if_neg (show ¬ lg_cmp (lN h) 3548358 = 0 from ne 0 (by omega)), if_neg (show ¬ lg_cmp (lN h) 2673217714 = 0 from ne 1 (by omega)), if_neg (show ¬ lg_cmp (lN h) 20520685672 = 0 from ne 2 (by omega)), if_neg (show ¬ lg_cmp (lN h) 19173605 = 0 from ne 3 (by omega)), if_neg (show ¬ lg_cmp (lN h) 120467 = 0 from ne 4 (by omega)), if_neg (show ¬ lg_cmp (lN h) 769508 = 0 from ne 5 (by omega)), bd1_s, if_neg (show ¬ lg_cmp (lN h) 412197038 = 0 from ne 6 (by omega)), if_neg (show ¬ lg_cmp (lN h) 206276 = 0 from ne 7 (by omega)), if_neg (show ¬ lg_cmp (lN h) 13360 = 0 from ne 8 (by omega)), if_neg (show ¬ lg_cmp (lN h) 52 = 0 from ne 9 (by omega)), if_neg (show ¬ lg_cmp (lN h) 215205 = 0 from ne 10 (by omega)), if_neg (show ¬ lg_cmp (lN h) 9317 = 0 from ne 11 (by omega)), bd1_s, if_pos rfl]
section TX
variable {n : Nat} {x m : Nat → Int32} {t : Nat → Nat}
/-- the text as the two keep it -/
def TB (n : Nat) (x m : Nat → Int32) (t : Nat → Nat) : Prop := n ≤ 240 ∧ ∀ i, i < n → x i = nI (t i) ∧ m i = nI (t i) ∧ t i ≤ 255
theorem M_isAt (h : TB n x m t) {p a b : Nat} (hp : p ≤ n) (ha : a < 1000) (hb : b < 1000) : f_X10_isAt (nI n) (nI p) m (nI a) (nI b) = some (if p < n ∧ a ≤ t p ∧ t p ≤ b then 1 else 0) := by
  have hn := h.1
  unfold f_X10_isAt
  by_cases c : p < n
  · obtain ⟨-, e, e2⟩ := h.2 p c
    rw [if_neg (nI_ge c (by omega)), gin_n (by omega) (by decide), chk_t, cl_n (by omega), e, in_eq, bd1_s]
    by_cases d : a ≤ t p ∧ t p ≤ b
    · rw [bI_t ⟨nI_le d.1 (by omega), nI_le d.2 (by omega)⟩, if_neg one0, if_pos ⟨c, d⟩]
    · rw [bI_f (fun z => d ⟨(nI_leI (by omega) (by omega)).mp z.1, (nI_leI (by omega) (by omega)).mp z.2⟩), if_pos rfl, if_neg (fun z => d z.2)]
  · rw [if_pos (nI_le (by omega) (by omega)), if_neg (fun z => c z.1)]
theorem M_isAt_t (h : TB n x m t) {p a b : Nat} (hp : p ≤ n) (ha : a < 1000) (hb : b < 1000) (c : p < n ∧ a ≤ t p ∧ t p ≤ b) : f_X10_isAt (nI n) (nI p) m (nI a) (nI b) = some 1 := by rw [M_isAt h hp ha hb, if_pos c]
theorem M_isAt_f (h : TB n x m t) {p a b : Nat} (hp : p ≤ n) (ha : a < 1000) (hb : b < 1000) (c : ¬ (p < n ∧ a ≤ t p ∧ t p ≤ b)) : f_X10_isAt (nI n) (nI p) m (nI a) (nI b) = some 0 := by rw [M_isAt h hp ha hb, if_neg c]
theorem X_letter {b : Nat} (hb : b ≤ 255) : f_X6_isLetter (nI b) = some (if 97 ≤ b ∧ b ≤ 122 then 1 else 0) := by
  unfold f_X6_isLetter
  by_cases c : b < 97
  · rw [if_pos (show nI b < (97 : Int32) from nI_lt (b := 97) c (by decide)), if_neg (by omega)]
  · rw [if_neg (show ¬ nI b < (97 : Int32) from nI_nlt (b := 97) (by omega) (by omega))]
    by_cases d : 122 < b
    · rw [if_pos (show (122 : Int32) < nI b from nI_lt (a := 122) d (by omega)), if_neg (by omega)]
    · rw [if_neg (show ¬ (122 : Int32) < nI b from nI_nlt (a := 122) (by omega) (by decide)), if_pos (by omega)]
theorem X_figure {b : Nat} (hb : b ≤ 255) : f_X6_isFigure (nI b) = some (if 48 ≤ b ∧ b ≤ 57 then 1 else 0) := by
  unfold f_X6_isFigure
  by_cases c : b < 48
  · rw [if_pos (show nI b < (48 : Int32) from nI_lt (b := 48) c (by decide)), if_neg (by omega)]
  · rw [if_neg (show ¬ nI b < (48 : Int32) from nI_nlt (b := 48) (by omega) (by omega))]
    by_cases d : 57 < b
    · rw [if_pos (show (57 : Int32) < nI b from nI_lt (a := 57) d (by omega)), if_neg (by omega)]
    · rw [if_neg (show ¬ (57 : Int32) < nI b from nI_nlt (a := 57) (by omega) (by decide)), if_pos (by omega)]
theorem skp (h : TB n x m t) : ∀ k p, p + k = n → ∃ s, p ≤ s ∧ s ≤ n ∧ (s < n → t s ≠ 32) ∧ (∀ fu, k < fu → f_X6_takeToken_L1 (nI n) x fu (nI p) = some (nI s)) ∧ (∀ fu, k < fu → f_X10_scans_L1 (nI n) m fu (nI p) = some (nI s)) := by
  have hn := h.1
  intro k
  induction k with
  | zero =>
    intro p hp
    refine ⟨p, Nat.le_refl _, by omega, fun z => by omega, fun fu hfu => ?_, fun fu hfu => ?_⟩
    · obtain ⟨fu, rfl⟩ : ∃ n, fu = n + 1 := ⟨fu - 1, by omega⟩
      unfold f_X6_takeToken_L1
      rw [if_pos (nI_le (by omega) (by omega))]
    · obtain ⟨fu, rfl⟩ : ∃ n, fu = n + 1 := ⟨fu - 1, by omega⟩
      unfold f_X10_scans_L1
      rw [show f_X10_isAt (nI n) (nI p) m 32 32 = some 0 from M_isAt_f h (a := 32) (b := 32) (by omega) (by decide) (by decide) (by omega), bd1_s, if_pos rfl]
  | succ k ih =>
    intro p hp
    obtain ⟨e1, e2, e3⟩ := h.2 p (by omega)
    by_cases c : t p = 32
    · obtain ⟨s, s1, s2, s3, s4, s5⟩ := ih (p + 1) (by omega)
      refine ⟨s, by omega, s2, s3, fun fu hfu => ?_, fun fu hfu => ?_⟩
      · obtain ⟨fu, rfl⟩ : ∃ n, fu = n + 1 := ⟨fu - 1, by omega⟩
        unfold f_X6_takeToken_L1
        rw [if_neg (nI_ge (by omega) (by omega)), gin_n (by omega) (by decide), chk_t, cl_n (by omega), e1, c, if_pos (by rfl), nm_s, nI_1]
        exact s4 fu (by omega)
      · obtain ⟨fu, rfl⟩ : ∃ n, fu = n + 1 := ⟨fu - 1, by omega⟩
        unfold f_X10_scans_L1
        rw [show f_X10_isAt (nI n) (nI p) m 32 32 = some 1 from M_isAt_t h (a := 32) (b := 32) (by omega) (by decide) (by decide) (by omega), bd1_s, if_neg one0, nm_s, nI_1]
        exact s5 fu (by omega)
    · refine ⟨p, Nat.le_refl _, by omega, fun _ => c, fun fu hfu => ?_, fun fu hfu => ?_⟩
      · obtain ⟨fu, rfl⟩ : ∃ n, fu = n + 1 := ⟨fu - 1, by omega⟩
        unfold f_X6_takeToken_L1
        rw [if_neg (nI_ge (by omega) (by omega)), gin_n (by omega) (by decide), chk_t, cl_n (by omega), e1, if_neg (show ¬ nI (t p) = (32 : Int32) from fun z => c ((nI_eq (b := 32) (by omega) (by decide)).mp z))]
      · obtain ⟨fu, rfl⟩ : ∃ n, fu = n + 1 := ⟨fu - 1, by omega⟩
        unfold f_X10_scans_L1
        rw [show f_X10_isAt (nI n) (nI p) m 32 32 = some 0 from M_isAt_f h (a := 32) (b := 32) (by omega) (by decide) (by decide) (by omega), bd1_s, if_pos rfl]
def ltN (t : Nat → Nat) (s : Nat) : Nat → Nat := fun i => t (s + i) - 96
theorem ltr (h : TB n x m t) {s : Nat} : ∀ k p, p + k = n → s ≤ p → (∀ i, s ≤ i → i < p → 97 ≤ t i ∧ t i ≤ 122) → ∃ e, p ≤ e ∧ e ≤ n ∧ (∀ i, s ≤ i → i < e → 97 ≤ t i ∧ t i ≤ 122) ∧ (p < n → 97 ≤ t p ∧ t p ≤ 122 → p < e) ∧ (∀ fu, k < fu → f_X6_takeWord_L1 (nI n) x fu (nI p) = some (nI e)) ∧ (∀ fu, k < fu → ∀ hv, (p - s ≤ 7 → hv = lN (hsN (ltN t s) (p - s))) → ∃ hv', f_X10_scans_L3 (nI n) m (nI s) fu (nI p) hv = some (nI e, hv') ∧ (e - s ≤ 7 → hv' = lN (hsN (ltN t s) (e - s)))) := by
  have hn := h.1
  intro k
  induction k with
  | zero =>
    intro p hp hs hl
    refine ⟨p, Nat.le_refl _, by omega, hl, fun z => by omega, fun fu hfu => ?_, fun fu hfu hv hh => ⟨hv, ?_, hh⟩⟩
    · obtain ⟨fu, rfl⟩ : ∃ n, fu = n + 1 := ⟨fu - 1, by omega⟩
      unfold f_X6_takeWord_L1
      rw [if_pos (nI_le (by omega) (by omega))]
    · obtain ⟨fu, rfl⟩ : ∃ n, fu = n + 1 := ⟨fu - 1, by omega⟩
      unfold f_X10_scans_L3
      rw [show f_X10_isAt (nI n) (nI p) m 97 122 = some 0 from M_isAt_f h (a := 97) (b := 122) (by omega) (by decide) (by decide) (by omega), bd1_s, if_pos rfl]
  | succ k ih =>
    intro p hp hs hl
    obtain ⟨e1, e2, e3⟩ := h.2 p (by omega)
    by_cases c : 97 ≤ t p ∧ t p ≤ 122
    · obtain ⟨e, s1, s2, s3, -, s4, s5⟩ := ih (p + 1) (by omega) (by omega) (fun i i1 i2 => by
        by_cases q : i = p
        · subst q; exact c
        · exact hl i i1 (by omega))
      refine ⟨e, by omega, s2, s3, fun _ _ => by omega, fun fu hfu => ?_, fun fu hfu hv hh => ?_⟩
      · obtain ⟨fu, rfl⟩ : ∃ n, fu = n + 1 := ⟨fu - 1, by omega⟩
        unfold f_X6_takeWord_L1
        rw [if_neg (nI_ge (by omega) (by omega)), gin_n (by omega) (by decide), chk_t, cl_n (by omega), e1, X_letter e3, if_pos (show 97 ≤ t p ∧ t p ≤ 122 from c), bd1_s, if_neg one0, nm_s, nI_1]
        exact s4 fu (by omega)
      · obtain ⟨fu, rfl⟩ : ∃ n, fu = n + 1 := ⟨fu - 1, by omega⟩
        have step : ∃ hv2, (if (nI p - nI s) ≤ (7 : Int32) then (chk (gin (nI p) 240) (some (((((32 : Int64) * hv) + (m (nI p).toNatClampNeg).toInt64) - (97 : Int64)) + (1 : Int64)))) else (some (0 : Int64))) = some hv2 ∧ (p + 1 - s ≤ 7 → hv2 = lN (hsN (ltN t s) (p + 1 - s))) := by
          rw [pk_sub hs]
          by_cases q : p - s ≤ 7
          · rw [if_pos (show nI (p - s) ≤ (7 : Int32) from nI_le (b := 7) q (by decide)), gin_n (by omega) (by decide), chk_t, cl_n (by omega), e2]
            refine ⟨_, rfl, fun z => ?_⟩
            rw [hh q, show p + 1 - s = (p - s) + 1 by omega, hsN_s, nI_l (by omega), show (32 : Int64) = lN 32 from rfl, lN_mul, lN_add, show (97 : Int64) = lN 97 from rfl, lN_sub (by omega), lN_1]
            congr 1
            unfold ltN
            rw [show s + (p - s) = p by omega]
            omega
          · rw [if_neg (show ¬ nI (p - s) ≤ (7 : Int32) from nI_ge (a := 7) (by omega) (by omega))]
            exact ⟨0, rfl, fun z => by omega⟩
        obtain ⟨hv2, q1, q2⟩ := step
        obtain ⟨hv', q3, q4⟩ := s5 fu (by omega) hv2 q2
        refine ⟨hv', ?_, q4⟩
        unfold f_X10_scans_L3
        rw [show f_X10_isAt (nI n) (nI p) m 97 122 = some 1 from M_isAt_t h (a := 97) (b := 122) (by omega) (by decide) (by decide) ⟨by omega, c⟩, bd1_s, if_neg one0, q1, bd1_s, nm_s, nI_1]
        exact q3
    · refine ⟨p, Nat.le_refl _, by omega, hl, fun _ z => absurd z c, fun fu hfu => ?_, fun fu hfu hv hh => ⟨hv, ?_, hh⟩⟩
      · obtain ⟨fu, rfl⟩ : ∃ n, fu = n + 1 := ⟨fu - 1, by omega⟩
        unfold f_X6_takeWord_L1
        rw [if_neg (nI_ge (by omega) (by omega)), gin_n (by omega) (by decide), chk_t, cl_n (by omega), e1, X_letter e3, if_neg (show ¬ (97 ≤ t p ∧ t p ≤ 122) from c), bd1_s, if_pos rfl]
      · obtain ⟨fu, rfl⟩ : ∃ n, fu = n + 1 := ⟨fu - 1, by omega⟩
        unfold f_X10_scans_L3
        rw [show f_X10_isAt (nI n) (nI p) m 97 122 = some 0 from M_isAt_f h (a := 97) (b := 122) (by omega) (by decide) (by decide) (fun z => c z.2), bd1_s, if_pos rfl]
def dvN (t : Nat → Nat) (s : Nat) : Nat → Nat
  | 0 => 0
  | k + 1 => 10 * dvN t s k + (t (s + k) - 48)
theorem dvN_s (t : Nat → Nat) (s k : Nat) : dvN t s (k + 1) = 10 * dvN t s k + (t (s + k) - 48) := by rw [dvN]
theorem dvN_lt {t : Nat → Nat} {s : Nat} : ∀ k, (∀ i, i < k → 48 ≤ t (s + i) ∧ t (s + i) ≤ 57) → dvN t s k < 10 ^ k
  | 0, _ => by show 0 < 10 ^ 0; decide
  | k + 1, h => by
    have a := dvN_lt k (fun i hi => h i (by omega))
    have b := h k (by omega)
    rw [dvN_s, Nat.pow_succ]
    omega
theorem dgt (h : TB n x m t) {s : Nat} : ∀ k p, p + k = n → s ≤ p → (∀ i, s ≤ i → i < p → 48 ≤ t i ∧ t i ≤ 57) → ∃ e, p ≤ e ∧ e ≤ n ∧ (∀ i, s ≤ i → i < e → 48 ≤ t i ∧ t i ≤ 57) ∧ (p < n → 48 ≤ t p ∧ t p ≤ 57 → p < e) ∧ (∀ fu, k < fu → ∀ v, (p - s ≤ 4 → v = nI (dvN t s (p - s))) → ∃ v', f_X6_takeNumber_L1 (nI n) x fu v (nI p) = some (v', nI e) ∧ (e - s ≤ 4 → v' = nI (dvN t s (e - s)))) ∧ (∀ fu, k < fu → ∀ v, (p - s ≤ 4 → v = nI (dvN t s (p - s))) → ∃ v', f_X10_scans_L2 (nI n) m (nI s) fu (nI p) v = some (nI e, v') ∧ (e - s ≤ 4 → v' = nI (dvN t s (e - s)))) := by
  have hn := h.1
  intro k
  induction k with
  | zero =>
    intro p hp hs hl
    refine ⟨p, Nat.le_refl _, by omega, hl, fun z => by omega, fun fu hfu v hv => ⟨v, ?_, hv⟩, fun fu hfu v hv => ⟨v, ?_, hv⟩⟩
    · obtain ⟨fu, rfl⟩ : ∃ n, fu = n + 1 := ⟨fu - 1, by omega⟩
      unfold f_X6_takeNumber_L1
      rw [if_pos (nI_le (by omega) (by omega))]
    · obtain ⟨fu, rfl⟩ : ∃ n, fu = n + 1 := ⟨fu - 1, by omega⟩
      unfold f_X10_scans_L2
      rw [show f_X10_isAt (nI n) (nI p) m 48 57 = some 0 from M_isAt_f h (a := 48) (b := 57) (by omega) (by decide) (by decide) (by omega), bd1_s, if_pos rfl]
  | succ k ih =>
    intro p hp hs hl
    obtain ⟨e1, e2, e3⟩ := h.2 p (by omega)
    by_cases c : 48 ≤ t p ∧ t p ≤ 57
    · obtain ⟨e, s1, s2, s3, -, s4, s5⟩ := ih (p + 1) (by omega) (by omega) (fun i i1 i2 => by
        by_cases q : i = p
        · subst q; exact c
        · exact hl i i1 (by omega))
      have val : ∀ v, v = nI (dvN t s (p - s)) → (10 : Int32) * v + nI (t p) - 48 = nI (dvN t s (p + 1 - s)) := fun v hv => by
        rw [hv, show p + 1 - s = (p - s) + 1 by omega, dvN_s, show s + (p - s) = p by omega, show (10 : Int32) * nI (dvN t s (p - s)) = nI (10 * dvN t s (p - s)) from pk_mul 10 _, nI_add, show nI (10 * dvN t s (p - s) + t p) - 48 = nI (10 * dvN t s (p - s) + t p - 48) from pk_sub (b := 48) (by omega)]
        congr 1
        omega
      refine ⟨e, by omega, s2, s3, fun _ _ => by omega, fun fu hfu v hv => ?_, fun fu hfu v hv => ?_⟩
      · obtain ⟨fu, rfl⟩ : ∃ n, fu = n + 1 := ⟨fu - 1, by omega⟩
        obtain ⟨v', q3, q4⟩ := s4 fu (by omega) ((10 : Int32) * v + nI (t p) - 48) (fun z => val v (hv (by omega)))
        refine ⟨v', ?_, q4⟩
        unfold f_X6_takeNumber_L1
        rw [if_neg (nI_ge (by omega) (by omega)), gin_n (by omega) (by decide), chk_t, cl_n (by omega), e1, X_figure e3, if_pos (show 48 ≤ t p ∧ t p ≤ 57 from c), bd1_s, if_neg one0, chk_t, nm_s, nm_s, nI_1]
        exact q3
      · obtain ⟨fu, rfl⟩ : ∃ n, fu = n + 1 := ⟨fu - 1, by omega⟩
        have step : ∃ v2, (if (4 : Int32) ≤ (nI p - nI s) then (some v) else (chk (gin (nI p) 240) (some ((((10 : Int32) * v) + (m (nI p).toNatClampNeg)) - (48 : Int32))))) = some v2 ∧ (p + 1 - s ≤ 4 → v2 = nI (dvN t s (p + 1 - s))) := by
          rw [pk_sub hs]
          by_cases q : 4 ≤ p - s
          · rw [if_pos (show (4 : Int32) ≤ nI (p - s) from nI_le (a := 4) q (by omega))]
            exact ⟨v, rfl, fun z => by omega⟩
          · rw [if_neg (show ¬ (4 : Int32) ≤ nI (p - s) from nI_ge (b := 4) (by omega) (by decide)), gin_n (by omega) (by decide), chk_t, cl_n (by omega), e2]
            exact ⟨_, rfl, fun z => val v (hv (by omega))⟩
        obtain ⟨v2, q1, q2⟩ := step
        obtain ⟨v', q3, q4⟩ := s5 fu (by omega) v2 q2
        refine ⟨v', ?_, q4⟩
        unfold f_X10_scans_L2
        rw [show f_X10_isAt (nI n) (nI p) m 48 57 = some 1 from M_isAt_t h (a := 48) (b := 57) (by omega) (by decide) (by decide) ⟨by omega, c⟩, bd1_s, if_neg one0, q1, bd1_s, nm_s, nI_1]
        exact q3
    · refine ⟨p, Nat.le_refl _, by omega, hl, fun _ z => absurd z c, fun fu hfu v hv => ⟨v, ?_, hv⟩, fun fu hfu v hv => ⟨v, ?_, hv⟩⟩
      · obtain ⟨fu, rfl⟩ : ∃ n, fu = n + 1 := ⟨fu - 1, by omega⟩
        unfold f_X6_takeNumber_L1
        rw [if_neg (nI_ge (by omega) (by omega)), gin_n (by omega) (by decide), chk_t, cl_n (by omega), e1, X_figure e3, if_neg (show ¬ (48 ≤ t p ∧ t p ≤ 57) from c), bd1_s, if_pos rfl]
      · obtain ⟨fu, rfl⟩ : ∃ n, fu = n + 1 := ⟨fu - 1, by omega⟩
        unfold f_X10_scans_L2
        rw [show f_X10_isAt (nI n) (nI p) m 48 57 = some 0 from M_isAt_f h (a := 48) (b := 57) (by omega) (by decide) (by decide) (fun z => c z.2), bd1_s, if_pos rfl]
/-! words -/
theorem wrdL (h : TB n x m t) {s e w : Nat} (hw : w < 12) (hs : s < e) (he : e ≤ n) : ∀ k i, i + k = 8 → ∀ fu, k < fu → ∃ q, f_X6_isTokenTheWord_L1 (nI e) (nI s) x (nI w) fu (nI i) = some q ∧ ((q = 1 ∧ ∀ j, i ≤ j → j < 8 → tbS (8 * w + j) = nI (if s + j < e then t (s + j) else 32)) ∨ (q = 0 ∧ ¬ ∀ j, i ≤ j → j < 8 → tbS (8 * w + j) = nI (if s + j < e then t (s + j) else 32))) := by
  have hn := h.1
  intro k
  induction k with
  | zero =>
    intro i hi fu hfu
    obtain ⟨fu, rfl⟩ : ∃ n, fu = n + 1 := ⟨fu - 1, by omega⟩
    obtain rfl : i = 8 := by omega
    refine ⟨1, ?_, Or.inl ⟨rfl, fun j a b => by omega⟩⟩
    unfold f_X6_isTokenTheWord_L1
    rw [if_pos (by decide)]
  | succ k ih =>
    intro i hi fu hfu
    obtain ⟨fu, rfl⟩ : ∃ n, fu = n + 1 := ⟨fu - 1, by omega⟩
    have ec : (if nI e ≤ (nI s + nI i) then (some (32 : Int32)) else (chk (gin (nI s + nI i) 240) (some (x (nI s + nI i).toNatClampNeg)))) = some (nI (if s + i < e then t (s + i) else 32)) := by
      rw [nI_add]
      by_cases c : s + i < e
      · rw [if_neg (nI_ge c (by omega)), gin_n (by omega) (by decide), chk_t, cl_n (by omega), (h.2 _ (by omega)).1, if_pos c]
      · rw [if_pos (nI_le (by omega) (by omega)), if_neg c]; rfl
    unfold f_X6_isTokenTheWord_L1
    rw [if_neg (show ¬ (8 : Int32) ≤ nI i from nI_ge (b := 8) (by omega) (by decide)), ec, bd1_s, show (8 : Int32) * nI w + nI i = nI (8 * w + i) from by simp (disch := omega) only [↓lm1, ln0, ln1, ln2, ln3, ln4, ln5, ln6, ln7, ln8, ln9, ln10, ln11, ln12, ln13, ln14, ln15, ln16, ln17, ln18, ln19, ln20, ln21, ln22, ln26, ln30, ln31, ln32, ln36, ln39, ln40, ln48, ln50, ln59, ln60, ln61, ln63, ln64, ln80, ln97, ln99, ln100, ln103, ln122, ln192, ln220, ln240, ln255, ln260, ln290, ln300, ln370, ln410, ln430, ln460, ln920, ln960, ln999, ln1000, ln2000, ln26880, ln1000000, ofNat_nI, nI_add, pk_mul, pk_sub, nI_leP, nI_ltP, nI_eqP, nI_clamp, gin_n, chk_t, nm_s, bd1_s, bd2_s, bd3_s, bd4_s, bI_n0, bI_1, chk_gz_bI, if_pos, if_neg, if_true, if_false, ite_some, nI_m1, m1_nI, m1_le, le_m1, m1_lt, lt_m1, m1_1, n_m1, n0_m1, m1_m1, not_true_eq_false, not_false_eq_true], chA _ (by omega), bd1_s, nI_1]
    by_cases c : tbS (8 * w + i) = nI (if s + i < e then t (s + i) else 32)
    · rw [if_pos c]
      obtain ⟨q, a1, a2⟩ := ih (i + 1) (by omega) fu (by omega)
      refine ⟨q, a1, ?_⟩
      rcases a2 with ⟨b1, b2⟩ | ⟨b1, b2⟩
      · refine Or.inl ⟨b1, fun j j1 j2 => ?_⟩
        by_cases z : j = i
        · subst z; exact c
        · exact b2 j (by omega) j2
      · exact Or.inr ⟨b1, fun z => b2 (fun j j1 j2 => z j (by omega) j2)⟩
    · rw [if_neg c]
      exact ⟨0, rfl, Or.inr ⟨rfl, fun z => c (z i (Nat.le_refl _) (by omega))⟩⟩
theorem wrd_iff {s e w : Nat} (hw : w < 12) (hs : s < e) (hl : ∀ i, s ≤ i → i < e → 97 ≤ t i ∧ t i ≤ 122) : (e - s ≤ 8 ∧ ∀ j, j < 8 → tbS (8 * w + j) = nI (if s + j < e then t (s + j) else 32)) ↔ (e - s ≤ 7 ∧ hsN (ltN t s) (e - s) = HW w) := by
  obtain ⟨⟨w1, w2⟩, w3⟩ := wd_ok w hw
  have nin : ∀ {a b : Nat}, a < 1000 → b < 1000 → nI a = nI b → a = b := fun ha hb z => (nI_eq (by omega) (by omega)).mp z
  constructor
  · rintro ⟨h1, h2⟩
    have key : ∀ j, j < e - s → j < wl w ∧ wd w j = ltN t s j := fun j hj => by
      have a := h2 j (by omega)
      have l := hl (s + j) (by omega) (by omega)
      rw [if_pos (by omega)] at a
      by_cases c : j < wl w
      · obtain ⟨b1, b2, b3⟩ := (w3 j (by omega)).1 c
        rw [b1] at a
        have := nin (by omega) (by omega) a
        refine ⟨c, ?_⟩
        unfold ltN
        omega
      · rw [(w3 j (by omega)).2 c] at a
        have := nin (by omega) (by omega) a
        omega
    have le : e - s ≤ wl w := by
      by_cases c : e - s ≤ wl w
      · exact c
      · have := (key (wl w) (by omega)).1
        omega
    have ge : wl w ≤ e - s := by
      by_cases c : wl w ≤ e - s
      · exact c
      · obtain ⟨b1, b2, b3⟩ := (w3 (e - s) (by omega)).1 (by omega)
        have a := h2 (e - s) (by omega)
        rw [if_neg (by omega), b1] at a
        have := nin (by omega) (by omega) a
        omega
    have el : wl w = e - s := by omega
    refine ⟨by omega, ?_⟩
    rw [← w2, el]
    have cong : ∀ k, k ≤ e - s → hsN (ltN t s) k = hsN (wd w) k := by
      intro k
      induction k with
      | zero => intro _; rfl
      | succ k ih => intro hk; rw [hsN_s, hsN_s, ih (by omega), (key k (by omega)).2]
    exact cong _ (Nat.le_refl _)
  · rintro ⟨h1, h2⟩
    rw [← w2] at h2
    obtain ⟨e1, e2⟩ := hsN_inj (e - s) (wl w) (fun i hi => by
      have := hl (s + i) (by omega) (by omega)
      unfold ltN
      omega) (fun i hi => ((w3 i (by omega)).1 hi).2) h2
    refine ⟨by omega, fun j hj => ?_⟩
    by_cases c : s + j < e
    · rw [if_pos c, ((w3 j hj).1 (by omega)).1, ← e2 j (by omega)]
      have := hl (s + j) (by omega) c
      congr 1
      unfold ltN
      omega
    · rw [if_neg c, (w3 j hj).2 (by omega)]
theorem wrd1 (h : TB n x m t) {s e w : Nat} (hw : w < 12) (hs : s < e) (he : e ≤ n) (hl : ∀ i, s ≤ i → i < e → 97 ≤ t i ∧ t i ≤ 122) : ∃ q, f_X6_isTokenTheWord (nI s) (nI e) x (nI w) = some q ∧ ((q = 1 ∧ e - s ≤ 7 ∧ hsN (ltN t s) (e - s) = HW w) ∨ (q = 0 ∧ ¬ (e - s ≤ 7 ∧ hsN (ltN t s) (e - s) = HW w))) := by
  have hn := h.1
  have iff := wrd_iff (t := t) hw hs hl
  unfold f_X6_isTokenTheWord
  rw [pk_sub (by omega)]
  by_cases c : e - s ≤ 8
  · obtain ⟨q, a1, a2⟩ := wrdL h hw hs he 8 0 rfl FU (FU_big (by decide))
    have a1' : f_X6_isTokenTheWord_L1 (nI e) (nI s) x (nI w) FU 0 = some q := a1
    rw [if_pos (show nI (e - s) ≤ (8 : Int32) from nI_le (b := 8) c (by decide)), a1', bd1_s]
    rcases a2 with ⟨rfl, b⟩ | ⟨rfl, b⟩
    · rw [if_neg (by decide)]
      exact ⟨1, rfl, Or.inl ⟨rfl, iff.mp ⟨c, fun j hj => b j (Nat.zero_le _) hj⟩⟩⟩
    · rw [if_pos rfl]
      exact ⟨0, rfl, Or.inr ⟨rfl, fun z => b (fun j _ hj => (iff.mpr z).2 j hj)⟩⟩
  · rw [if_neg (show ¬ nI (e - s) ≤ (8 : Int32) from nI_ge (a := 8) (by omega) (by omega))]
    exact ⟨0, rfl, Or.inr ⟨rfl, fun z => by omega⟩⟩
theorem wrdsL (h : TB n x m t) {s e : Nat} (hs : s < e) (he : e ≤ n) (hl : ∀ i, s ≤ i → i < e → 97 ≤ t i ∧ t i ≤ 122) : ∀ k w, w + k = 12 → ∀ fu, k < fu → ∀ v, ((∃ w0, w0 < w ∧ e - s ≤ 7 ∧ hsN (ltN t s) (e - s) = HW w0 ∧ v = nI w0) ∨ ((∀ w0, w0 < w → ¬ (e - s ≤ 7 ∧ hsN (ltN t s) (e - s) = HW w0)) ∧ v = -1)) → ∃ v', f_X6_takeWord_L2 (nI s) (nI e) x fu v (nI w) = some v' ∧ ((∃ w0, w0 < 12 ∧ e - s ≤ 7 ∧ hsN (ltN t s) (e - s) = HW w0 ∧ v' = nI w0) ∨ ((∀ w0, w0 < 12 → ¬ (e - s ≤ 7 ∧ hsN (ltN t s) (e - s) = HW w0)) ∧ v' = -1)) := by
  intro k
  induction k with
  | zero =>
    intro w hw fu hfu v hv
    obtain ⟨fu, rfl⟩ : ∃ n, fu = n + 1 := ⟨fu - 1, by omega⟩
    obtain rfl : w = 12 := by omega
    refine ⟨v, ?_, hv⟩
    unfold f_X6_takeWord_L2
    rw [if_pos (by decide)]
  | succ k ih =>
    intro w hw fu hfu v hv
    obtain ⟨fu, rfl⟩ : ∃ n, fu = n + 1 := ⟨fu - 1, by omega⟩
    obtain ⟨q, a1, a2⟩ := wrd1 h (show w < 12 by omega) hs he hl
    unfold f_X6_takeWord_L2
    rw [if_neg (show ¬ (12 : Int32) ≤ nI w from nI_ge (b := 12) (by omega) (by decide)), a1, bd1_s, nI_1]
    rcases a2 with ⟨rfl, b1, b2⟩ | ⟨rfl, b⟩
    · rw [if_neg one0]
      exact ih (w + 1) (by omega) fu (by omega) (nI w) (Or.inl ⟨w, by omega, b1, b2, rfl⟩)
    · rw [if_pos rfl]
      refine ih (w + 1) (by omega) fu (by omega) v ?_
      rcases hv with ⟨w0, c1, c2⟩ | ⟨c1, c2⟩
      · exact Or.inl ⟨w0, by omega, c2⟩
      · refine Or.inr ⟨fun w0 hw0 => ?_, c2⟩
        by_cases z : w0 = w
        · subst z; exact b
        · exact c1 w0 (by omega)
/-- the token at a place, for the class and for the reference -/
def TOK (n : Nat) (x m : Nat → Int32) (p s : Nat) : Prop :=
  ((∀ v, f_X6_takeToken (nI n) v (nI p) x = some (0, nI s, v, nI s)) ∧ (∀ v, f_X10_scans (nI n) (nI p) v m = some (nI s, nI s, 0, v))) ∨
  (∃ w e, w < 12 ∧ s < e ∧ e ≤ n ∧ (∀ v, f_X6_takeToken (nI n) v (nI p) x = some (1, nI s, nI w, nI e)) ∧ (∀ v, f_X10_scans (nI n) (nI p) v m = some (nI e, nI s, nI (10 + w), v))) ∨
  (∃ z e, z ≤ 9999 ∧ s < e ∧ e ≤ n ∧ (∀ v, f_X6_takeToken (nI n) v (nI p) x = some (2, nI s, nI z, nI e)) ∧ (∀ v, f_X10_scans (nI n) (nI p) v m = some (nI e, nI s, 2, nI z))) ∨
  (s < n ∧ (∀ v, f_X6_takeToken (nI n) v (nI p) x = some (3, nI s, v, nI (s + 1))) ∧ (∀ v, f_X10_scans (nI n) (nI p) v m = some (nI (s + 1), nI s, 3, v))) ∨
  (s < n ∧ (∀ v, ∃ v' e', f_X6_takeToken (nI n) v (nI p) x = some (4, nI s, v', e')) ∧ (∀ v, ∃ e' v', f_X10_scans (nI n) (nI p) v m = some (e', nI s, 1, v')))
theorem tok (h : TB n x m t) {p : Nat} (hp : p ≤ n) : ∃ s, p ≤ s ∧ s ≤ n ∧ TOK n x m p s := by
  have hn := h.1
  obtain ⟨s, s1, s2, s3, s4, s5⟩ := skp h (n - p) p (by omega)
  have x1 := s4 FU (FU_big (by omega))
  have m1' := s5 FU (FU_big (by omega))
  refine ⟨s, s1, s2, ?_⟩
  unfold TOK
  by_cases c : s = n
  · refine Or.inl ⟨fun v => ?_, fun v => ?_⟩
    · unfold f_X6_takeToken
      rw [x1, bd1_s, if_neg (nI_nlt (by omega) (by omega))]
    · unfold f_X10_scans
      rw [m1', bd1_s, if_pos (by rw [c])]
  · have hlt : s < n := by omega
    obtain ⟨e1, e2, e3⟩ := h.2 s hlt
    have ne : ¬ nI s = nI n := fun z => c ((nI_eq (by omega) (by omega)).mp z)
    have aL : f_X10_isAt (nI n) (nI s) m 97 122 = some (if s < n ∧ 97 ≤ t s ∧ t s ≤ 122 then 1 else 0) := M_isAt h (a := 97) (b := 122) s2 (by decide) (by decide)
    have aF : f_X10_isAt (nI n) (nI s) m 48 57 = some (if s < n ∧ 48 ≤ t s ∧ t s ≤ 57 then 1 else 0) := M_isAt h (a := 48) (b := 57) s2 (by decide) (by decide)
    have aS : f_X10_isAt (nI n) (nI s) m 59 59 = some (if s < n ∧ 59 ≤ t s ∧ t s ≤ 59 then 1 else 0) := M_isAt h (a := 59) (b := 59) s2 (by decide) (by decide)
    by_cases d : t s = 59
    · refine Or.inr (Or.inr (Or.inr (Or.inl ⟨hlt, fun v => ?_, fun v => ?_⟩)))
      · unfold f_X6_takeToken
        rw [x1, bd1_s, if_pos (nI_lt hlt (by omega)), gin_n (by omega) (by decide), chk_t, cl_n (by omega), e1, d, if_pos (by rfl), nm_s, nI_1]
      · unfold f_X10_scans
        rw [m1', bd1_s, if_neg ne, aL, if_neg (show ¬ (s < n ∧ 97 ≤ t s ∧ t s ≤ 122) by omega), bd1_s, if_pos rfl, aF, if_neg (show ¬ (s < n ∧ 48 ≤ t s ∧ t s ≤ 57) by omega), bd1_s, if_pos rfl, aS, if_pos (show s < n ∧ 59 ≤ t s ∧ t s ≤ 59 by omega), bd1_s, if_neg one0, bd1_s, nm_s, nI_1]
    · have n59 : ¬ nI (t s) = (59 : Int32) := fun z => d ((nI_eq (b := 59) (by omega) (by decide)).mp z)
      by_cases l : 97 ≤ t s ∧ t s ≤ 122
      · obtain ⟨e, f1, f2, f3, f4, f5, f6⟩ := ltr h (s := s) (n - s) s (by omega) (Nat.le_refl _) (fun i a b => by omega)
        have se := f4 hlt l
        obtain ⟨hv, g1, g2⟩ := f6 FU (FU_big (by omega)) 0 (fun _ => by rw [Nat.sub_self]; rfl)
        have f5' := f5 FU (FU_big (by omega))
        obtain ⟨v', w1, w2⟩ := wrdsL h se f2 f3 12 0 rfl FU (FU_big (by decide)) (-1) (Or.inr ⟨fun w0 hw => by omega, rfl⟩)
        have w1' : f_X6_takeWord_L2 (nI s) (nI e) x FU (-1) 0 = some v' := w1
        have xx : ∀ v, f_X6_takeToken (nI n) v (nI p) x = (bd3 (if v' = (-1 : Int32) then (some ((4 : Int32), v', nI e)) else (some ((1 : Int32), v', nI e))) (fun r33 x34 x35 => some (r33, nI s, x34, x35))) := fun v => by
          unfold f_X6_takeToken f_X6_takeWord
          rw [x1, bd1_s, if_pos (nI_lt hlt (by omega)), gin_n (by omega) (by decide), chk_t, cl_n (by omega), e1, if_neg n59, chk_t, X_letter e3, if_pos (show 97 ≤ t s ∧ t s ≤ 122 from l), bd1_s, if_neg one0, f5', bd1_s, w1', bd1_s]
        have mm : ∀ v, f_X10_scans (nI n) (nI p) v m = (bd1 (if (nI (e - s)) ≤ (7 : Int32) then (bd1 (f_X10_wordOf hv) (fun r94 => some r94)) else (some (1 : Int32))) (fun x91 => some (nI e, nI s, x91, v))) := fun v => by
          unfold f_X10_scans
          rw [m1', bd1_s, if_neg ne, aL, if_pos (show s < n ∧ 97 ≤ t s ∧ t s ≤ 122 from ⟨hlt, l⟩), bd1_s, if_neg one0, g1, bd2_s, pk_sub (by omega)]
        rcases w2 with ⟨w0, q1, q2, q3, rfl⟩ | ⟨q1, rfl⟩
        · refine Or.inr (Or.inl ⟨w0, e, q1, se, f2, fun v => ?_, fun v => ?_⟩)
          · rw [xx v, if_neg (nI_nm1 (by omega)), bd3_s]
          · rw [mm v, if_pos (show nI (e - s) ≤ (7 : Int32) from nI_le (b := 7) q2 (by decide)), g2 q2, q3, wordOf_t w0 q1, bd1_s, bd1_s]
        · refine Or.inr (Or.inr (Or.inr (Or.inr ⟨hlt, fun v => ⟨-1, nI e, ?_⟩, fun v => ⟨nI e, v, ?_⟩⟩)))
          · rw [xx v, if_pos rfl, bd3_s]
          · rw [mm v]
            by_cases z : e - s ≤ 7
            · have hb := hsN_lt (d := ltN t s) (e - s) (fun i hi => by
                have := f3 (s + i) (by omega) (by omega)
                unfold ltN
                omega)
              have hp7 : 32 ^ (e - s) ≤ 32 ^ 7 := Nat.pow_le_pow_right (by omega) z
              have h37 : (32 : Nat) ^ 7 = 34359738368 := rfl
              rw [if_pos (show nI (e - s) ≤ (7 : Int32) from nI_le (b := 7) z (by decide)), g2 z, wordOf_f (by omega) (fun w hw q => q1 w hw ⟨z, q⟩), bd1_s, bd1_s]
            · rw [if_neg (show ¬ nI (e - s) ≤ (7 : Int32) from nI_ge (a := 7) (by omega) (by omega)), bd1_s]
      · by_cases f : 48 ≤ t s ∧ t s ≤ 57
        · obtain ⟨e, f1, f2, f3, f4, f5, f6⟩ := dgt h (s := s) (n - s) s (by omega) (Nat.le_refl _) (fun i a b => by omega)
          have se := f4 hlt f
          obtain ⟨v1, g1, g2⟩ := f5 FU (FU_big (by omega)) 0 (fun _ => by rw [Nat.sub_self]; rfl)
          obtain ⟨v2, g3, g4⟩ := f6 FU (FU_big (by omega)) 0 (fun _ => by rw [Nat.sub_self]; rfl)
          have xx : ∀ v, f_X6_takeToken (nI n) v (nI p) x = (bd3 (if nI (e - s) ≤ (4 : Int32) then (some ((2 : Int32), v1, nI e)) else (some ((4 : Int32), v1, nI e))) (fun r29 x30 x31 => some (r29, nI s, x30, x31))) := fun v => by
            unfold f_X6_takeToken f_X6_takeNumber
            rw [x1, bd1_s, if_pos (nI_lt hlt (by omega)), gin_n (by omega) (by decide), chk_t, cl_n (by omega), e1, if_neg n59, chk_t, X_letter e3, if_neg (show ¬ (97 ≤ t s ∧ t s ≤ 122) from l), bd1_s, if_pos rfl, chk_t, X_figure e3, if_pos (show 48 ≤ t s ∧ t s ≤ 57 from f), bd1_s, if_neg one0, g1, bd2_s, pk_sub (by omega)]
          have mm : ∀ v, f_X10_scans (nI n) (nI p) v m = (bd1 (if nI (e - s) ≤ (4 : Int32) then (some (2 : Int32)) else (some (1 : Int32))) (fun x60 => some (nI e, nI s, x60, v2))) := fun v => by
            unfold f_X10_scans
            rw [m1', bd1_s, if_neg ne, aL, if_neg (show ¬ (s < n ∧ 97 ≤ t s ∧ t s ≤ 122) from fun z => l z.2), bd1_s, if_pos rfl, aF, if_pos (show s < n ∧ 48 ≤ t s ∧ t s ≤ 57 from ⟨hlt, f⟩), bd1_s, if_neg one0, g3, bd2_s, pk_sub (by omega)]
          by_cases z : e - s ≤ 4
          · have hb := dvN_lt (t := t) (s := s) (e - s) (fun i hi => f3 (s + i) (by omega) (by omega))
            have hp4 : 10 ^ (e - s) ≤ 10 ^ 4 := Nat.pow_le_pow_right (by omega) z
            have h44 : (10 : Nat) ^ 4 = 10000 := rfl
            refine Or.inr (Or.inr (Or.inl ⟨dvN t s (e - s), e, by omega, se, f2, fun v => ?_, fun v => ?_⟩))
            · rw [xx v, if_pos (show nI (e - s) ≤ (4 : Int32) from nI_le (b := 4) z (by decide)), bd3_s, g2 z]
            · rw [mm v, if_pos (show nI (e - s) ≤ (4 : Int32) from nI_le (b := 4) z (by decide)), bd1_s, g4 z]
          · refine Or.inr (Or.inr (Or.inr (Or.inr ⟨hlt, fun v => ⟨v1, nI e, ?_⟩, fun v => ⟨nI e, v2, ?_⟩⟩)))
            · rw [xx v, if_neg (show ¬ nI (e - s) ≤ (4 : Int32) from nI_ge (a := 4) (by omega) (by omega)), bd3_s]
            · rw [mm v, if_neg (show ¬ nI (e - s) ≤ (4 : Int32) from nI_ge (a := 4) (by omega) (by omega)), bd1_s]
        · refine Or.inr (Or.inr (Or.inr (Or.inr ⟨hlt, fun v => ⟨v, nI s, ?_⟩, fun v => ⟨nI (s + 1), v, ?_⟩⟩)))
          · unfold f_X6_takeToken
            rw [x1, bd1_s, if_pos (nI_lt hlt (by omega)), gin_n (by omega) (by decide), chk_t, cl_n (by omega), e1, if_neg n59, chk_t, X_letter e3, if_neg (show ¬ (97 ≤ t s ∧ t s ≤ 122) from l), bd1_s, if_pos rfl, chk_t, X_figure e3, if_neg (show ¬ (48 ≤ t s ∧ t s ≤ 57) from f), bd1_s, if_pos rfl]
          · unfold f_X10_scans
            rw [m1', bd1_s, if_neg ne, aL, if_neg (show ¬ (s < n ∧ 97 ≤ t s ∧ t s ≤ 122) from fun z => l z.2), bd1_s, if_pos rfl, aF, if_neg (show ¬ (s < n ∧ 48 ≤ t s ∧ t s ≤ 57) from fun z => f z.2), bd1_s, if_pos rfl, aS, if_neg (show ¬ (s < n ∧ 59 ≤ t s ∧ t s ≤ 59) by omega), bd1_s, if_pos rfl, bd1_s, nm_s, nI_1]
end TX
