/-! ===== stand: the class ===== -/
theorem fillL {n : Nat} {v : Int32} (hn : n < 2 ^ 30) : ∀ k i, i + k = n → ∀ fu, k < fu → ∀ y : Nat → Int32, ∃ y', f_J7_fill_53178_L1 (nI n) n v fu y (nI i) = some y' ∧ (∀ q, i ≤ q → q < n → y' q = v) ∧ ∀ q, q < i → y' q = y q := by
  intro k
  induction k with
  | zero =>
    intro i hi fu hfu y
    obtain ⟨fu, rfl⟩ : ∃ n, fu = n + 1 := ⟨fu - 1, by omega⟩
    obtain rfl : i = n := by omega
    refine ⟨y, ?_, fun q a b => by omega, fun _ _ => rfl⟩
    unfold f_J7_fill_53178_L1
    rw [if_pos (Int32.le_refl _)]
  | succ k ih =>
    intro i hi fu hfu y
    obtain ⟨fu, rfl⟩ : ∃ n, fu = n + 1 := ⟨fu - 1, by omega⟩
    obtain ⟨y', a1, a2, a3⟩ := ih (i + 1) (by omega) fu (by omega) (upd y i v)
    refine ⟨y', ?_, ?_, ?_⟩
    · unfold f_J7_fill_53178_L1
      rw [if_neg (nI_ge (by omega) (by omega)), gin_n (by omega) (by omega), chk_t, nm_s, cl_n (by omega), nI_1]
      exact a1
    · intro q h1 h2
      by_cases e : q = i
      · subst e; rw [a3 _ (by omega), upd_s]
      · exact a2 q (by omega) h2
    · intro q hq
      rw [a3 q (by omega), upd_n _ _ (by omega)]
theorem fillA {n : Nat} (v : Int32) (hn : n < 2 ^ 30) (hn2 : n < 1000000000) (y : Nat → Int32) : ∃ y', f_J7_fill_53178 n y v = some y' ∧ ∀ q, q < n → y' q = v := by
  obtain ⟨y', a1, a2, -⟩ := fillL (v := v) hn n 0 (by omega) FU (FU_big hn2) y
  refine ⟨y', ?_, fun q hq => a2 q (Nat.zero_le _) hq⟩
  unfold f_J7_fill_53178
  rw [nm_s, show f_J7_fill_53178_L1 (Int32.ofNat n) n v FU y 0 = some y' from a1, bd1_s]
section STX
variable {ng st : Nat} {g : Nat → Int32}
theorem ts0 {X b q : Nat} (hX : X ≤ 20) (hq : q < 40) : ∀ n y0, y0 ≤ 40 → q + 1 - y0 = n → ∀ fu, n < fu → ∀ hi lo se : Nat → Int32, ∃ se', f_X2_takeSign_L1 (nI q) (nI 0) (nI X) (nI b) fu hi lo se (nI y0) = some (hi, lo, se') ∧ ∀ y x, x ≤ 20 → se' (21 * y + x) = if y0 ≤ y ∧ y ≤ q ∧ x = X then se (21 * y + x) ||| nI b else se (21 * y + x) := by
  intro n
  induction n with
  | zero =>
    intro y0 h40 hy fu hfu hi lo se
    obtain ⟨fu, rfl⟩ : ∃ n, fu = n + 1 := ⟨fu - 1, by omega⟩
    refine ⟨se, ?_, fun y x hx => by rw [if_neg (by omega)]⟩
    unfold f_X2_takeSign_L1
    rw [if_pos (nI_lt (by omega) (by omega))]
  | succ n ih =>
    intro y0 h40 hy fu hfu hi lo se
    obtain ⟨fu, rfl⟩ : ∃ n, fu = n + 1 := ⟨fu - 1, by omega⟩
    obtain ⟨se', a1, a2⟩ := ih (y0 + 1) (by omega) (by omega) fu (by omega) hi lo (upd se (21 * y0 + X) (se (21 * y0 + X) ||| nI b))
    refine ⟨se', ?_, ?_⟩
    · unfold f_X2_takeSign_L1
      rw [if_neg (nI_nlt (by omega) (by omega)), if_pos (by rfl), show (21 : Int32) * nI y0 + nI X = nI (21 * y0 + X) from by simp (disch := omega) only [↓lm1, ln0, ln1, ln2, ln3, ln4, ln5, ln6, ln7, ln8, ln9, ln10, ln11, ln12, ln13, ln14, ln15, ln16, ln17, ln18, ln19, ln20, ln21, ln22, ln26, ln30, ln31, ln32, ln36, ln39, ln40, ln48, ln50, ln59, ln60, ln61, ln63, ln64, ln80, ln97, ln99, ln100, ln103, ln122, ln192, ln220, ln240, ln255, ln260, ln290, ln300, ln370, ln410, ln430, ln460, ln920, ln960, ln999, ln1000, ln2000, ln26880, ln1000000, ofNat_nI, nI_add, pk_mul, pk_sub, nI_leP, nI_ltP, nI_eqP, nI_clamp, gin_n, chk_t, nm_s, bd1_s, bd2_s, bd3_s, bd4_s, bI_n0, bI_1, chk_gz_bI, if_pos, if_neg, if_true, if_false, ite_some, nI_m1, m1_nI, m1_le, le_m1, m1_lt, lt_m1, m1_1, n_m1, n0_m1, m1_m1, not_true_eq_false, not_false_eq_true], nm_s, gin_n (by omega) (by decide), chk_t, nm_s, chk_t, nm_s, cl_n (by omega), nI_1]
      exact a1
    · intro y x hx
      rw [a2 y x hx]
      by_cases e : y = y0 ∧ x = X
      · obtain ⟨rfl, rfl⟩ := e
        rw [if_neg (by omega), upd_s, if_pos ⟨Nat.le_refl _, by omega, rfl⟩]
      · rw [upd_n _ _ (by omega)]
        by_cases d : y0 + 1 ≤ y ∧ y ≤ q ∧ x = X
        · rw [if_pos d, if_pos (show y0 ≤ y ∧ y ≤ q ∧ x = X from ⟨by omega, d.2⟩)]
        · rw [if_neg d, if_neg (show ¬ (y0 ≤ y ∧ y ≤ q ∧ x = X) from fun z => by omega)]
theorem ts1 {X q : Nat} {b : Int32} (hq : q < 40) : ∀ n y0, y0 ≤ 40 → q + 1 - y0 = n → ∀ fu, n < fu → ∀ hi lo se : Nat → Int32, ∃ hi', f_X2_takeSign_L1 (nI q) (nI 1) (nI X) b fu hi lo se (nI y0) = some (hi', lo, se) ∧ ∀ y, hi' y = if y0 ≤ y ∧ y ≤ q then (if nI X < hi y then nI X else hi y) else hi y := by
  intro n
  induction n with
  | zero =>
    intro y0 h40 hy fu hfu hi lo se
    obtain ⟨fu, rfl⟩ : ∃ n, fu = n + 1 := ⟨fu - 1, by omega⟩
    refine ⟨hi, ?_, fun y => by rw [if_neg (by omega)]⟩
    unfold f_X2_takeSign_L1
    rw [if_pos (nI_lt (by omega) (by omega))]
  | succ n ih =>
    intro y0 h40 hy fu hfu hi lo se
    obtain ⟨fu, rfl⟩ : ∃ n, fu = n + 1 := ⟨fu - 1, by omega⟩
    obtain ⟨hi', a1, a2⟩ := ih (y0 + 1) (by omega) (by omega) fu (by omega) (upd hi y0 (if nI X < hi y0 then nI X else hi y0)) lo se
    refine ⟨hi', ?_, ?_⟩
    · unfold f_X2_takeSign_L1
      rw [if_neg (nI_nlt (by omega) (by omega)), if_neg n10, if_pos (by rfl), gin_n (by omega) (by decide), chk_t, nm_s, chk_t, nm_s, cl_n (by omega), nI_1]
      exact a1
    · intro y
      rw [a2 y]
      by_cases e : y = y0
      · subst e
        rw [if_neg (show ¬ (y + 1 ≤ y ∧ y ≤ q) by omega), upd_s, if_pos (show y ≤ y ∧ y ≤ q from ⟨Nat.le_refl _, by omega⟩)]
      · rw [upd_n _ _ e]
        by_cases d : y0 + 1 ≤ y ∧ y ≤ q
        · rw [if_pos d, if_pos (show y0 ≤ y ∧ y ≤ q from ⟨by omega, d.2⟩)]
        · rw [if_neg d, if_neg (show ¬ (y0 ≤ y ∧ y ≤ q) from fun z => by omega)]
theorem ts2 {X q : Nat} {b : Int32} (hq : q < 40) : ∀ n y0, y0 ≤ 40 → q + 1 - y0 = n → ∀ fu, n < fu → ∀ hi lo se : Nat → Int32, ∃ lo', f_X2_takeSign_L1 (nI q) (nI 2) (nI X) b fu hi lo se (nI y0) = some (hi, lo', se) ∧ ∀ y, lo' y = if y0 ≤ y ∧ y ≤ q then (if lo y < nI X then nI X else lo y) else lo y := by
  intro n
  induction n with
  | zero =>
    intro y0 h40 hy fu hfu hi lo se
    obtain ⟨fu, rfl⟩ : ∃ n, fu = n + 1 := ⟨fu - 1, by omega⟩
    refine ⟨lo, ?_, fun y => by rw [if_neg (by omega)]⟩
    unfold f_X2_takeSign_L1
    rw [if_pos (nI_lt (by omega) (by omega))]
  | succ n ih =>
    intro y0 h40 hy fu hfu hi lo se
    obtain ⟨fu, rfl⟩ : ∃ n, fu = n + 1 := ⟨fu - 1, by omega⟩
    obtain ⟨lo', a1, a2⟩ := ih (y0 + 1) (by omega) (by omega) fu (by omega) hi (upd lo y0 (if lo y0 < nI X then nI X else lo y0)) se
    refine ⟨lo', ?_, ?_⟩
    · unfold f_X2_takeSign_L1
      rw [if_neg (nI_nlt (by omega) (by omega)), if_neg (show ¬ nI 2 = (0 : Int32) from by decide), if_neg (show ¬ nI 2 = (1 : Int32) from by decide), gin_n (by omega) (by decide), chk_t, nm_s, chk_t, nm_s, cl_n (by omega), nI_1]
      exact a1
    · intro y
      rw [a2 y]
      by_cases e : y = y0
      · subst e
        rw [if_neg (show ¬ (y + 1 ≤ y ∧ y ≤ q) by omega), upd_s, if_pos (show y ≤ y ∧ y ≤ q from ⟨Nat.le_refl _, by omega⟩)]
      · rw [upd_n _ _ e]
        by_cases d : y0 + 1 ≤ y ∧ y ≤ q
        · rw [if_pos d, if_pos (show y0 ≤ y ∧ y ≤ q from ⟨by omega, d.2⟩)]
        · rw [if_neg d, if_neg (show ¬ (y0 ≤ y ∧ y ≤ q) from fun z => by omega)]
/-- the signs as the class keeps them -/
def SGX (ng : Nat) (g : Nat → Int32) : Prop := ng ≤ 10 ∧ (∀ i, i < ng → isN (g (5 * i)) 2 ∧ isN (g (5 * i + 1)) 20 ∧ isN (g (5 * i + 2)) 39 ∧ isN (g (5 * i + 3)) 39) ∧ atN g ng ≤ 5
def TSt (g : Nat → Int32) (i : Nat) (lo hi se : Nat → Int32) : Prop := (∀ y, y < 40 → ∃ a b : Nat, a ≤ 20 ∧ b ≤ 20 ∧ lo y = nI a ∧ hi y = nI b ∧ ∀ x, x ≤ 20 → (frB g y x i = true ↔ a ≤ x ∧ x ≤ b)) ∧ ∀ y x, y < 40 → x ≤ 20 → se (21 * y + x) = nI (metN g y x i)
theorem frB_s {y x i K X p q : Nat} (k0 : g (5 * i) = nI K) (k1 : g (5 * i + 1) = nI X) (k2 : g (5 * i + 2) = nI p) (k3 : g (5 * i + 3) = nI q) (hK : K ≤ 2) (hX : X ≤ 20) (hp : p ≤ 39) (hq : q ≤ 39) : (frB g y x (i + 1) = true ↔ frB g y x i = true ∧ (p ≤ y ∧ y ≤ q → (K = 1 → x ≤ X) ∧ (K = 2 → X ≤ x))) ∧ metN g y x (i + 1) = metN g y x i ||| (if K = 0 ∧ p ≤ y ∧ y ≤ q ∧ x = X then 2 ^ (atN g i) else 0) ∧ atN g (i + 1) = atN g i + (if K = 0 then 1 else 0) := by
  refine ⟨?_, ?_, ?_⟩
  · have ef : frB g y x (i + 1) = (frB g y x i && decide (p ≤ y ∧ y ≤ q → (K = 1 → x ≤ X) ∧ (K = 2 → X ≤ x))) := by
      show (frB g y x i && _) = _
      rw [k0, k1, k2, k3, vN_n (by omega), vN_n (by omega), vN_n (by omega), vN_n (by omega)]
    rw [ef, Bool.and_eq_true, decide_eq_true_iff]
  · show metN g y x i ||| _ = _
    rw [k0, k1, k2, k3, vN_n (by omega), vN_n (by omega), vN_n (by omega), vN_n (by omega)]
  · show atN g i + _ = _
    rw [k0, vN_n (by omega)]
theorem X_takeSign (h : SGX ng g) {i : Nat} (hi : i < ng) {lo hh se : Nat → Int32} (hT : TSt g i lo hh se) : ∃ lo' hh' se', f_X2_takeSign (nI ng) 50 g lo hh se (nI i) (nI (2 ^ atN g i)) = some (lo', hh', se') ∧ TSt g (i + 1) lo' hh' se' := by
  obtain ⟨hn, hr, ha⟩ := h
  obtain ⟨⟨K, K1, K2⟩, ⟨X, X1, X2⟩, ⟨p, P1, P2⟩, ⟨q, Q1, Q2⟩⟩ := hr i hi
  have c0 : f_X4_cell (nI ng) 50 g (nI i) 0 = some (nI K) := by rw [← K2]; exact X_cell (c := 0) hi (by omega) (by omega) (by omega) (by decide)
  have c1 : f_X4_cell (nI ng) 50 g (nI i) 1 = some (nI X) := by rw [← X2]; exact X_cell (c := 1) hi (by omega) (by omega) (by omega) (by decide)
  have c2 : f_X4_cell (nI ng) 50 g (nI i) 2 = some (nI p) := by rw [← P2]; exact X_cell (c := 2) hi (by omega) (by omega) (by omega) (by decide)
  have c3 : f_X4_cell (nI ng) 50 g (nI i) 3 = some (nI q) := by rw [← Q2]; exact X_cell (c := 3) hi (by omega) (by omega) (by omega) (by decide)
  have m20 : (if (20 : Int32) < nI X then (20 : Int32) else nI X) = nI X := if_neg (show ¬ nI 20 < nI X from nI_nlt X1 (by decide))
  have m0 : ∀ z : Nat, z < 100 → (if (0 : Int32) < nI z then nI z else (0 : Int32)) = nI z := fun z hz => by
    by_cases e : z = 0
    · subst e; rfl
    · exact if_pos (show nI 0 < nI z from nI_lt (by omega) (by omega))
  have m39 : (if (39 : Int32) < nI q then (39 : Int32) else nI q) = nI q := if_neg (show ¬ nI 39 < nI q from nI_nlt Q1 (by decide))
  have fS := fun y x => frB_s (g := g) (y := y) (x := x) K2 X2 P2 Q2 K1 X1 P1 Q1
  have hu : f_X2_takeSign (nI ng) 50 g lo hh se (nI i) (nI (2 ^ atN g i)) = bd3 (f_X2_takeSign_L1 (nI q) (nI K) (nI X) (nI (2 ^ atN g i)) FU hh lo se (nI p)) (fun y42 y43 y44 => some (y43, y42, y44)) := by
    unfold f_X2_takeSign
    rw [c0, bd1_s, c1, bd1_s, m20, m0 X (by omega), nm_s, c3, bd1_s, m39, nm_s, c2, bd1_s, m0 p (by omega), nm_s]
  rw [hu]
  have cs : K = 0 ∨ K = 1 ∨ K = 2 := by omega
  rcases cs with rfl | rfl | rfl
  · obtain ⟨se', a1, a2⟩ := ts0 (b := 2 ^ atN g i) X1 (show q < 40 by omega) _ p (by omega) rfl FU (FU_big (by omega)) hh lo se
    refine ⟨lo, hh, se', by rw [a1, bd3_s], ?_, ?_⟩
    · intro y hy
      obtain ⟨a, b, b1, b2, b3, b4, b5⟩ := hT.1 y hy
      refine ⟨a, b, b1, b2, b3, b4, fun x hx => ?_⟩
      rw [(fS y x).1, ← b5 x hx]
      exact ⟨fun z => z.1, fun z => ⟨z, fun _ => ⟨fun w => by omega, fun w => by omega⟩⟩⟩
    · intro y x hy hx
      rw [a2 y x hx, (fS y x).2.1, hT.2 y x hy hx]
      by_cases d : p ≤ y ∧ y ≤ q ∧ x = X
      · rw [if_pos d, if_pos ⟨rfl, d⟩, nI_or]
      · rw [if_neg d, if_neg (fun z => d z.2), Nat.or_zero]
  · obtain ⟨hi', a1, a2⟩ := ts1 (X := X) (b := nI (2 ^ atN g i)) (show q < 40 by omega) _ p (by omega) rfl FU (FU_big (by omega)) hh lo se
    refine ⟨lo, hi', se, by rw [a1, bd3_s], ?_, ?_⟩
    · intro y hy
      obtain ⟨a, b, b1, b2, b3, b4, b5⟩ := hT.1 y hy
      by_cases d : p ≤ y ∧ y ≤ q
      · refine ⟨a, if X < b then X else b, b1, by by_cases w : X < b; (rw [if_pos w]; exact X1); (rw [if_neg w]; exact b2), b3, ?_, fun x hx => ?_⟩
        · rw [a2 y, if_pos d, b4]
          by_cases w : X < b
          · rw [if_pos w, if_pos (nI_lt w (by omega))]
          · rw [if_neg w, if_neg (nI_nlt (by omega) (by omega))]
        · rw [(fS y x).1, b5 x hx]
          by_cases w : X < b
          · rw [if_pos w]
            exact ⟨fun z => ⟨z.1.1, (z.2 d).1 rfl⟩, fun z => ⟨⟨z.1, by omega⟩, fun _ => ⟨fun _ => z.2, fun u => by omega⟩⟩⟩
          · rw [if_neg w]
            exact ⟨fun z => z.1, fun z => ⟨z, fun _ => ⟨fun _ => by omega, fun u => by omega⟩⟩⟩
      · refine ⟨a, b, b1, b2, b3, by rw [a2 y, if_neg d]; exact b4, fun x hx => ?_⟩
        rw [(fS y x).1, b5 x hx]
        exact ⟨fun z => z.1, fun z => ⟨z, fun w => absurd w d⟩⟩
    · intro y x hy hx
      rw [(fS y x).2.1, hT.2 y x hy hx, if_neg (fun z => by omega), Nat.or_zero]
  · obtain ⟨lo', a1, a2⟩ := ts2 (X := X) (b := nI (2 ^ atN g i)) (show q < 40 by omega) _ p (by omega) rfl FU (FU_big (by omega)) hh lo se
    refine ⟨lo', hh, se, by rw [a1, bd3_s], ?_, ?_⟩
    · intro y hy
      obtain ⟨a, b, b1, b2, b3, b4, b5⟩ := hT.1 y hy
      by_cases d : p ≤ y ∧ y ≤ q
      · refine ⟨if a < X then X else a, b, by by_cases w : a < X; (rw [if_pos w]; exact X1); (rw [if_neg w]; exact b1), b2, ?_, b4, fun x hx => ?_⟩
        · rw [a2 y, if_pos d, b3]
          by_cases w : a < X
          · rw [if_pos w, if_pos (nI_lt w (by omega))]
          · rw [if_neg w, if_neg (nI_nlt (by omega) (by omega))]
        · rw [(fS y x).1, b5 x hx]
          by_cases w : a < X
          · rw [if_pos w]
            exact ⟨fun z => ⟨(z.2 d).2 rfl, z.1.2⟩, fun z => ⟨⟨by omega, z.2⟩, fun _ => ⟨fun u => by omega, fun _ => z.1⟩⟩⟩
          · rw [if_neg w]
            exact ⟨fun z => z.1, fun z => ⟨z, fun _ => ⟨fun u => by omega, fun _ => by omega⟩⟩⟩
      · refine ⟨a, b, b1, b2, by rw [a2 y, if_neg d]; exact b3, b4, fun x hx => ?_⟩
        rw [(fS y x).1, b5 x hx]
        exact ⟨fun z => z.1, fun z => ⟨z, fun w => absurd w d⟩⟩
    · intro y x hy hx
      rw [(fS y x).2.1, hT.2 y x hy hx, if_neg (fun z => by omega), Nat.or_zero]
theorem X_signsL (h : SGX ng g) : ∀ n i, i + n = ng → ∀ fu, n < fu → ∀ lo hh se, TSt g i lo hh se → ∃ lo' hh' se', f_X2_takeSigns_L1 (nI ng) 50 g fu hh lo se (nI (2 ^ atN g i)) (nI i) = some (hh', lo', se', nI (2 ^ atN g ng)) ∧ TSt g ng lo' hh' se' := by
  intro n
  induction n with
  | zero =>
    intro i hi fu hfu lo hh se hT
    obtain ⟨fu, rfl⟩ : ∃ n, fu = n + 1 := ⟨fu - 1, by omega⟩
    obtain rfl : i = ng := by omega
    refine ⟨lo, hh, se, ?_, hT⟩
    unfold f_X2_takeSigns_L1 f_X4_size
    rw [bd1_s, if_pos (Int32.le_refl _)]
  | succ n ih =>
    intro i hi fu hfu lo hh se hT
    obtain ⟨fu, rfl⟩ : ∃ n, fu = n + 1 := ⟨fu - 1, by omega⟩
    have hng := h.1
    obtain ⟨l1, h1, s1, a1, a2⟩ := X_takeSign h (show i < ng by omega) hT
    obtain ⟨l2, h2, s2, b1, b2⟩ := ih (i + 1) (by omega) fu (by omega) l1 h1 s1 a2
    refine ⟨l2, h2, s2, ?_, b2⟩
    obtain ⟨⟨K, K1, K2⟩, -, -, -⟩ := h.2.1 i (by omega)
    have c0 : f_X4_cell (nI ng) 50 g (nI i) 0 = some (nI K) := by rw [← K2]; exact X_cell (c := 0) (by omega) (by omega) (by omega) (by omega) (by decide)
    have ea : atN g (i + 1) = atN g i + if K = 0 then 1 else 0 := by
      show atN g i + _ = _
      rw [K2, vN_n (by omega)]
    rw [ea] at b1
    have ha := Nat.le_trans (atN_m (g := g) (show i ≤ ng by omega)) h.2.2
    have hp : 2 ^ atN g i ≤ 2 ^ 5 := Nat.pow_le_pow_right (by omega) ha
    unfold f_X2_takeSigns_L1 f_X4_size
    rw [bd1_s, if_neg (nI_ge (by omega) (by omega)), a1, bd3_s, c0, bd1_s]
    by_cases c : K = 0
    · subst c
      rw [if_pos rfl, Nat.pow_succ] at b1
      rw [if_pos (by rfl), shl2 (by omega), nm_s, nI_1]
      exact b1
    · rw [if_neg c, Nat.add_zero] at b1
      rw [if_neg (nI_ne0 (by omega) (by omega)), nI_1]
      exact b1
theorem X_signs (h : SGX ng g) (lo hh se : Nat → Int32) : ∃ lo' hh' se', f_X2_takeSigns lo hh se (nI ng) 50 g = some (nI (2 ^ atN g ng - 1), lo', hh', se') ∧ TSt g ng lo' hh' se' := by
  obtain ⟨l0, a1, a2⟩ := fillA (n := 40) 0 (by decide) (by decide) lo
  obtain ⟨h0, b1, b2⟩ := fillA (n := 40) 20 (by decide) (by decide) hh
  obtain ⟨s0, c1, c2⟩ := fillA (n := 840) 0 (by decide) (by decide) se
  obtain ⟨l1, h1, s1, d1, d2⟩ := X_signsL h ng 0 (by omega) FU (FU_big (by have := h.1; omega)) l0 h0 s0 ⟨fun y hy => ⟨0, 20, by omega, by omega, a2 y hy, b2 y hy, fun x hx => ⟨fun _ => ⟨by omega, hx⟩, fun _ => rfl⟩⟩, fun y x hy hx => c2 _ (by omega)⟩
  refine ⟨l1, h1, s1, ?_, d2⟩
  have hp : 2 ^ atN g ng ≤ 2 ^ 5 := Nat.pow_le_pow_right (by omega) h.2.2
  have h25 : (2 : Nat) ^ 5 = 32 := rfl
  unfold f_X2_takeSigns
  rw [a1, bd1_s, b1, bd1_s, c1, bd1_s, show f_X2_takeSigns_L1 (nI ng) 50 g FU h0 l0 s0 1 0 = _ from d1, bd4_s, if_neg (show ¬ (32 : Int32) < nI (2 ^ atN g ng) from nI_nlt (a := 32) (by omega) (by decide)), show nI (2 ^ atN g ng) - 1 = nI (2 ^ atN g ng - 1) from pk_sub (b := 1) (Nat.two_pow_pos _), nm_s]
theorem X_leastL (hst : st ≤ 20) {wo : Nat → Int32} {y x m : Nat} (hy : y < 39) (hx : x ≤ 20) (hm : m < 32) (hw : ∀ t, t < 21 → wo (((y + 1) * 32 + m) * 21 + t) = nI (Wd st ng g (38 - y) t m)) {la : Nat} (hla : la = if x + st < 20 then x + st else 20) : ∀ n i, i + n = la + 1 → x - st ≤ i → ∀ fu, n < fu → f_X2_leastWayFrom_L1 (nI la) (nI y) (nI m) (nI x) wo fu (nI (mnF (fun t => if dst x t ≤ st then dst x t + Wd st ng g (38 - y) t m else 1000000) i)) (nI i) = some (nI (mnF (fun t => if dst x t ≤ st then dst x t + Wd st ng g (38 - y) t m else 1000000) 21)) := by
  have hl : la ≤ 20 ∧ la ≤ x + st ∧ (la < 20 → la = x + st) := by
    by_cases c : x + st < 20
    · rw [if_pos c] at hla; omega
    · rw [if_neg c] at hla; omega
  intro n
  induction n with
  | zero =>
    intro i hi hi2 fu hfu
    obtain ⟨fu, rfl⟩ : ∃ n, fu = n + 1 := ⟨fu - 1, by omega⟩
    obtain rfl : i = la + 1 := by omega
    unfold f_X2_leastWayFrom_L1
    rw [if_pos (nI_lt (by omega) (by omega)), (mnF_hi (f := fun t => if dst x t ≤ st then dst x t + Wd st ng g (38 - y) t m else 1000000) (a := la + 1) 21 (by omega) (fun k h1 h2 => by
      have : ¬ dst x k ≤ st := by
        unfold dst
        rw [if_pos (by omega)]
        omega
      show 1000000 ≤ if dst x k ≤ st then _ else 1000000
      rw [if_neg this]
      omega)).1]
  | succ n ih =>
    intro i hi hi2 fu hfu
    obtain ⟨fu, rfl⟩ : ∃ n, fu = n + 1 := ⟨fu - 1, by omega⟩
    have h1 := ih (i + 1) (by omega) (by omega) fu (by omega)
    have hd : dst x i ≤ st := by
      unfold dst
      by_cases c : x ≤ i
      · rw [if_pos c]; omega
      · rw [if_neg c]; omega
    have hW := Wd_m (st := st) (ng := ng) (g := g) (38 - y) i m
    have hmm := mnF_m (fun t => if dst x t ≤ st then dst x t + Wd st ng g (38 - y) t m else 1000000) i
    rw [show mnF (fun t => if dst x t ≤ st then dst x t + Wd st ng g (38 - y) t m else 1000000) (i + 1) = if (if dst x i ≤ st then dst x i + Wd st ng g (38 - y) i m else 1000000) < mnF (fun t => if dst x t ≤ st then dst x t + Wd st ng g (38 - y) t m else 1000000) i then (if dst x i ≤ st then dst x i + Wd st ng g (38 - y) i m else 1000000) else mnF (fun t => if dst x t ≤ st then dst x t + Wd st ng g (38 - y) t m else 1000000) i from rfl, if_pos hd] at h1
    unfold f_X2_leastWayFrom_L1 f_X2_wayAt
    rw [if_neg (nI_nlt (by omega) (by omega)), bd1_s, show ((nI y + 1) * 32 + nI m) * 21 + nI i = nI (((y + 1) * 32 + m) * 21 + i) from by simp (disch := omega) only [↓lm1, ln0, ln1, ln2, ln3, ln4, ln5, ln6, ln7, ln8, ln9, ln10, ln11, ln12, ln13, ln14, ln15, ln16, ln17, ln18, ln19, ln20, ln21, ln22, ln26, ln30, ln31, ln32, ln36, ln39, ln40, ln48, ln50, ln59, ln60, ln61, ln63, ln64, ln80, ln97, ln99, ln100, ln103, ln122, ln192, ln220, ln240, ln255, ln260, ln290, ln300, ln370, ln410, ln430, ln460, ln920, ln960, ln999, ln1000, ln2000, ln26880, ln1000000, ofNat_nI, nI_add, pk_mul, pk_sub, nI_leP, nI_ltP, nI_eqP, nI_clamp, gin_n, chk_t, nm_s, bd1_s, bd2_s, bd3_s, bd4_s, bI_n0, bI_1, chk_gz_bI, if_pos, if_neg, if_true, if_false, ite_some, nI_m1, m1_nI, m1_le, le_m1, m1_lt, lt_m1, m1_1, n_m1, n0_m1, m1_m1, not_true_eq_false, not_false_eq_true], gin_n (by omega) (by decide), chk_t, nm_s, cl_n (by omega), hw i (by omega), abs_I hx (by omega), nI_add, nI_1]
    by_cases c : dst x i + Wd st ng g (38 - y) i m < mnF (fun t => if dst x t ≤ st then dst x t + Wd st ng g (38 - y) t m else 1000000) i
    · rw [if_pos c] at h1
      rw [if_pos (nI_lt c (by omega))]
      exact h1
    · rw [if_neg c] at h1
      rw [if_neg (nI_nlt (by omega) (by omega))]
      exact h1
theorem loI {a b : Nat} (ha : a ≤ 20) (hb : b ≤ 20) : (if (0 : Int32) < nI a - nI b then nI a - nI b else (0 : Int32)) = nI (a - b) := by
  by_cases c : b < a
  · rw [pk_sub (by omega), if_pos (show (0 : Int32) < nI (a - b) from nI_lt (a := 0) (by omega) (by omega))]
  · by_cases e : a = b
    · subst e
      rw [pk_sub (Nat.le_refl _), Nat.sub_self]
      rfl
    · have hs := pk_sneg (a := a) (b := b) (by omega) (by omega)
      rw [if_neg (fun z => by
        rw [Int32.lt_iff_toInt_lt] at z hs
        omega), show a - b = 0 by omega]
      rfl
theorem hiI {a b : Nat} (ha : a ≤ 20) (hb : b ≤ 20) : (if nI a + nI b < (20 : Int32) then nI a + nI b else (20 : Int32)) = nI (if a + b < 20 then a + b else 20) := by
  rw [nI_add]
  by_cases c : a + b < 20
  · rw [if_pos c, if_pos (show nI (a + b) < (20 : Int32) from nI_lt (b := 20) c (by decide))]
  · rw [if_neg c, if_neg (show ¬ nI (a + b) < (20 : Int32) from nI_nlt (b := 20) (by omega) (by omega))]
    rfl
theorem andM {m A : Nat} (h : m < 2 ^ A) : nI m &&& nI (2 ^ A - 1) = nI m := by
  rw [nI_and, Nat.and_two_pow_sub_one_eq_mod, Nat.mod_eq_of_lt h]
theorem X_least (hst : st ≤ 20) (hA : atN g ng ≤ 5) {lo hh se wo : Nat → Int32} (hT : TSt g ng lo hh se) {y x m : Nat} (hy : y < 40) (hx : x ≤ 20) (hm : m < 2 ^ atN g ng) (hw : ∀ t m', t < 21 → m' < 2 ^ atN g ng → y < 39 → wo (((y + 1) * 32 + m') * 21 + t) = nI (Wd st ng g (38 - y) t m')) : f_X2_leastWayFrom (nI (2 ^ atN g ng - 1)) (nI st) lo hh se wo (nI y) (nI m) (nI x) = some (nI (Wd st ng g (39 - y) x m)) := by
  have h32 : 2 ^ atN g ng ≤ 2 ^ 5 := Nat.pow_le_pow_right (by omega) hA
  have h25 : (2 : Nat) ^ 5 = 32 := rfl
  have hpos := Nat.two_pow_pos (atN g ng)
  have hor : m ||| metN g y x ng < 2 ^ atN g ng := Nat.or_lt_two_pow hm (metN_lt ng)
  obtain ⟨a, b, b1, b2, b3, b4, b5⟩ := hT.1 y hy
  have e5 := b5 x hx
  unfold f_X2_leastWayFrom
  rw [gin_n (by omega) (by decide), chk_t, chk_t, cl_n (by omega), b3, b4]
  by_cases c : frB g y x ng = true
  · obtain ⟨q1, q2⟩ := e5.mp c
    rw [if_neg (nI_nlt q1 (by omega)), if_pos (nI_le q2 (by omega)), show (21 : Int32) * nI y + nI x = nI (21 * y + x) from by simp (disch := omega) only [↓lm1, ln0, ln1, ln2, ln3, ln4, ln5, ln6, ln7, ln8, ln9, ln10, ln11, ln12, ln13, ln14, ln15, ln16, ln17, ln18, ln19, ln20, ln21, ln22, ln26, ln30, ln31, ln32, ln36, ln39, ln40, ln48, ln50, ln59, ln60, ln61, ln63, ln64, ln80, ln97, ln99, ln100, ln103, ln122, ln192, ln220, ln240, ln255, ln260, ln290, ln300, ln370, ln410, ln430, ln460, ln920, ln960, ln999, ln1000, ln2000, ln26880, ln1000000, ofNat_nI, nI_add, pk_mul, pk_sub, nI_leP, nI_ltP, nI_eqP, nI_clamp, gin_n, chk_t, nm_s, bd1_s, bd2_s, bd3_s, bd4_s, bI_n0, bI_1, chk_gz_bI, if_pos, if_neg, if_true, if_false, ite_some, nI_m1, m1_nI, m1_le, le_m1, m1_lt, lt_m1, m1_1, n_m1, n0_m1, m1_m1, not_true_eq_false, not_false_eq_true], gin_n (by omega) (by decide), chk_t, cl_n (by omega), hT.2 y x hy hx, nI_or, andM hor, nm_s]
    by_cases e : y = 39
    · subst e
      have eW : Wd st ng g (39 - 39) x m = if m ||| metN g 39 x ng = 2 ^ atN g ng - 1 then 0 else 1000000 := by
        show Wd st ng g 0 x m = _
        unfold Wd
        rw [if_pos c]
      rw [if_pos (by rfl), eW]
      by_cases d : m ||| metN g 39 x ng = 2 ^ atN g ng - 1
      · rw [if_pos d, if_pos (by rw [d])]; rfl
      · rw [if_neg d, if_neg (fun z => d ((nI_eq (by omega) (by omega)).mp z))]; rfl
    · have eW : Wd st ng g (39 - y) x m = mnF (fun t => if dst x t ≤ st then dst x t + Wd st ng g (38 - y) t (m ||| metN g y x ng) else 1000000) 21 := by
        rw [show 39 - y = (38 - y) + 1 by omega, Wd_e, show 38 - (38 - y) = y by omega, if_pos c]
      rw [if_neg (show ¬ nI y = (39 : Int32) from fun z => e ((nI_eq (b := 39) (by omega) (by decide)).mp z)), hiI hx hst, nm_s, loI hx hst, nm_s]
      have h0 : mnF (fun t => if dst x t ≤ st then dst x t + Wd st ng g (38 - y) t (m ||| metN g y x ng) else 1000000) (x - st) = 1000000 := (mnF_0 (fun k hk => by
        have : ¬ dst x k ≤ st := by
          unfold dst
          rw [if_neg (by omega)]
          omega
        show 1000000 ≤ if dst x k ≤ st then _ else 1000000
        rw [if_neg this]
        omega)).1
      have hla : (if x + st < 20 then x + st else 20) + 1 ≤ 21 ∧ x - st ≤ (if x + st < 20 then x + st else 20) + 1 := by
        by_cases d : x + st < 20
        · rw [if_pos d]; omega
        · rw [if_neg d]; omega
      have h1 := X_leastL (ng := ng) (g := g) hst (wo := wo) (y := y) (x := x) (m := m ||| metN g y x ng) (by omega) hx (by omega) (fun t ht => hw t _ ht hor (by omega)) rfl ((if x + st < 20 then x + st else 20) + 1 - (x - st)) (x - st) (by omega) (Nat.le_refl _) FU (FU_big (by omega))
      rw [h0] at h1
      rw [show f_X2_leastWayFrom_L1 (nI (if x + st < 20 then x + st else 20)) (nI y) (nI (m ||| metN g y x ng)) (nI x) wo FU 1000000 (nI (x - st)) = _ from h1, bd1_s, eW]
  · have eW : Wd st ng g (39 - y) x m = 1000000 := by
      by_cases e : y = 39
      · subst e
        show Wd st ng g 0 x m = _
        unfold Wd
        rw [if_neg c]
      · rw [show 39 - y = (38 - y) + 1 by omega, Wd_e, show 38 - (38 - y) = y by omega, if_neg c]
    rw [eW]
    by_cases d : x < a
    · rw [if_pos (nI_lt d (by omega))]; rfl
    · rw [if_neg (nI_nlt (by omega) (by omega)), if_neg (nI_ge (show b < x from Nat.lt_of_not_le (fun z => c (e5.mpr ⟨by omega, z⟩))) (by omega))]; rfl
/-- the class's table: what is right from a place on -/
def GX (st ng : Nat) (g wo : Nat → Int32) (y m x : Nat) : Prop := ∀ y' m' x', y' < 40 → x' < 21 → m' < 2 ^ atN g ng → (y < y' ∨ (y' = y ∧ (m' < m ∨ (m' = m ∧ x' < x)))) → wo ((y' * 32 + m') * 21 + x') = nI (Wd st ng g (39 - y') x' m')
theorem idxX {y x k y' x' k' : Nat} (hx : x < 21) (hk : k < 32) (hx' : x' < 21) (hk' : k' < 32) (h : (y * 32 + k) * 21 + x = (y' * 32 + k') * 21 + x') : y = y' ∧ x = x' ∧ k = k' := by omega
theorem X_frontL (hst : st ≤ 20) (hA : atN g ng ≤ 5) {lo hh se : Nat → Int32} (hT : TSt g ng lo hh se) {y m : Nat} (hy : y < 40) (hm : m < 2 ^ atN g ng) : ∀ n x, x + n = 21 → ∀ fu, n < fu → ∀ wo, GX st ng g wo y m x → ∃ wo', f_X2_findWaysFrom_L4 (nI y) (nI m) (nI (2 ^ atN g ng - 1)) (nI st) lo hh se fu wo (nI x) = some wo' ∧ GX st ng g wo' y (m + 1) 0 := by
  have h32 : 2 ^ atN g ng ≤ 2 ^ 5 := Nat.pow_le_pow_right (by omega) hA
  have h25 : (2 : Nat) ^ 5 = 32 := rfl
  intro n
  induction n with
  | zero =>
    intro x hx fu hfu wo hG
    obtain ⟨fu, rfl⟩ : ∃ n, fu = n + 1 := ⟨fu - 1, by omega⟩
    obtain rfl : x = 21 := by omega
    refine ⟨wo, ?_, fun y' m' x' a b c d => hG y' m' x' a b c (by omega)⟩
    unfold f_X2_findWaysFrom_L4
    rw [if_pos (by decide)]
  | succ n ih =>
    intro x hx fu hfu wo hG
    obtain ⟨fu, rfl⟩ : ∃ n, fu = n + 1 := ⟨fu - 1, by omega⟩
    have h1 := X_least hst hA hT (wo := wo) hy (show x ≤ 20 by omega) hm (fun t m' ht hm' hy' => by
      have := hG (y + 1) m' t (by omega) ht hm' (Or.inl (by omega))
      rw [show 39 - (y + 1) = 38 - y by omega] at this
      exact this)
    obtain ⟨w', b1, b2⟩ := ih (x + 1) (by omega) fu (by omega) (upd wo ((y * 32 + m) * 21 + x) (nI (Wd st ng g (39 - y) x m))) (by
      intro y' m' x' a b c d
      by_cases e : (y' * 32 + m') * 21 + x' = (y * 32 + m) * 21 + x
      · obtain ⟨e1, e2, e3⟩ := idxX b (by omega) (by omega) (by omega) e
        subst e1; subst e2; subst e3
        rw [upd_s]
      · rw [upd_n _ _ e]
        refine hG y' m' x' a b c ?_
        rcases d with d | ⟨d1, d2 | ⟨d2, d3⟩⟩
        · exact Or.inl d
        · exact Or.inr ⟨d1, Or.inl d2⟩
        · refine Or.inr ⟨d1, Or.inr ⟨d2, ?_⟩⟩
          rcases Nat.lt_or_ge x' x with z | z
          · exact z
          · exfalso
            have : x' = x := by omega
            subst this; subst d1; subst d2
            exact e rfl)
    refine ⟨w', ?_, b2⟩
    unfold f_X2_findWaysFrom_L4 f_X2_wayAt
    rw [if_neg (show ¬ (21 : Int32) ≤ nI x from nI_ge (b := 21) (by omega) (by decide)), bd1_s, h1, bd1_s, show (nI y * 32 + nI m) * 21 + nI x = nI ((y * 32 + m) * 21 + x) from by simp (disch := omega) only [↓lm1, ln0, ln1, ln2, ln3, ln4, ln5, ln6, ln7, ln8, ln9, ln10, ln11, ln12, ln13, ln14, ln15, ln16, ln17, ln18, ln19, ln20, ln21, ln22, ln26, ln30, ln31, ln32, ln36, ln39, ln40, ln48, ln50, ln59, ln60, ln61, ln63, ln64, ln80, ln97, ln99, ln100, ln103, ln122, ln192, ln220, ln240, ln255, ln260, ln290, ln300, ln370, ln410, ln430, ln460, ln920, ln960, ln999, ln1000, ln2000, ln26880, ln1000000, ofNat_nI, nI_add, pk_mul, pk_sub, nI_leP, nI_ltP, nI_eqP, nI_clamp, gin_n, chk_t, nm_s, bd1_s, bd2_s, bd3_s, bd4_s, bI_n0, bI_1, chk_gz_bI, if_pos, if_neg, if_true, if_false, ite_some, nI_m1, m1_nI, m1_le, le_m1, m1_lt, lt_m1, m1_1, n_m1, n0_m1, m1_m1, not_true_eq_false, not_false_eq_true], gin_n (by omega) (by decide), chk_t, nm_s, cl_n (by omega), nI_1]
    exact b1
theorem X_seenL (hst : st ≤ 20) (hA : atN g ng ≤ 5) {lo hh se : Nat → Int32} (hT : TSt g ng lo hh se) {y : Nat} (hy : y < 40) : ∀ n m, m + n = 2 ^ atN g ng → ∀ fu, n < fu → ∀ wo, GX st ng g wo y m 0 → ∃ wo', f_X2_findWaysFrom_L3 (nI (2 ^ atN g ng - 1)) (nI y) (nI st) lo hh se fu wo (nI m) = some wo' ∧ ∀ y' m' x', y' < 40 → x' < 21 → m' < 2 ^ atN g ng → y ≤ y' → wo' ((y' * 32 + m') * 21 + x') = nI (Wd st ng g (39 - y') x' m') := by
  have h32 : 2 ^ atN g ng ≤ 2 ^ 5 := Nat.pow_le_pow_right (by omega) hA
  have h25 : (2 : Nat) ^ 5 = 32 := rfl
  have hpos := Nat.two_pow_pos (atN g ng)
  intro n
  induction n with
  | zero =>
    intro m hm fu hfu wo hG
    obtain ⟨fu, rfl⟩ : ∃ n, fu = n + 1 := ⟨fu - 1, by omega⟩
    refine ⟨wo, ?_, fun y' m' x' a b c d => hG y' m' x' a b c (by omega)⟩
    unfold f_X2_findWaysFrom_L3
    rw [if_pos (nI_lt (by omega) (by omega))]
  | succ n ih =>
    intro m hm fu hfu wo hG
    obtain ⟨fu, rfl⟩ : ∃ n, fu = n + 1 := ⟨fu - 1, by omega⟩
    obtain ⟨w1, a1, a2⟩ := X_frontL hst hA hT hy (show m < 2 ^ atN g ng by omega) 21 0 rfl FU (FU_big (by omega)) wo hG
    obtain ⟨w2, b1, b2⟩ := ih (m + 1) (by omega) fu (by omega) w1 a2
    refine ⟨w2, ?_, b2⟩
    unfold f_X2_findWaysFrom_L3
    rw [if_neg (nI_nlt (by omega) (by omega)), show f_X2_findWaysFrom_L4 (nI y) (nI m) (nI (2 ^ atN g ng - 1)) (nI st) lo hh se FU wo 0 = some w1 from a1, bd1_s, nI_1]
    exact b1
theorem X_yearL (hst : st ≤ 20) (hA : atN g ng ≤ 5) {lo hh se : Nat → Int32} (hT : TSt g ng lo hh se) : ∀ n, n ≤ 40 → ∀ fu, n < fu → ∀ wo, (∀ y' m' x', y' < 40 → x' < 21 → m' < 2 ^ atN g ng → n ≤ y' → wo ((y' * 32 + m') * 21 + x') = nI (Wd st ng g (39 - y') x' m')) → ∃ wo', f_X2_draw_L1 (nI (2 ^ atN g ng - 1)) (nI st) lo hh se fu wo (if n = 0 then -1 else nI (n - 1)) = some wo' ∧ ∀ y' m' x', y' < 40 → x' < 21 → m' < 2 ^ atN g ng → wo' ((y' * 32 + m') * 21 + x') = nI (Wd st ng g (39 - y') x' m') := by
  have h32 : 2 ^ atN g ng ≤ 2 ^ 5 := Nat.pow_le_pow_right (by omega) hA
  have h25 : (2 : Nat) ^ 5 = 32 := rfl
  intro n
  induction n with
  | zero =>
    intro _ fu hfu wo hG
    obtain ⟨fu, rfl⟩ : ∃ n, fu = n + 1 := ⟨fu - 1, by omega⟩
    refine ⟨wo, ?_, fun y' m' x' a b c => hG y' m' x' a b c (Nat.zero_le _)⟩
    unfold f_X2_draw_L1
    rw [if_pos rfl, if_pos (by decide)]
  | succ n ih =>
    intro hn fu hfu wo hG
    obtain ⟨fu, rfl⟩ : ∃ n, fu = n + 1 := ⟨fu - 1, by omega⟩
    have e0 : (if n + 1 = 0 then (-1 : Int32) else nI (n + 1 - 1)) = nI n := by rw [if_neg (Nat.succ_ne_zero n)]; rfl
    have e3 : nI n + -1 = (if n = 0 then (-1 : Int32) else nI (n - 1)) := by
      by_cases c : n = 0
      · subst c; rfl
      · obtain ⟨j, rfl⟩ : ∃ j, n = j + 1 := ⟨n - 1, by omega⟩
        rw [if_neg c, pk_m1]
        rfl
    obtain ⟨w1, a1, a2⟩ := X_seenL hst hA hT (show n < 40 by omega) (2 ^ atN g ng) 0 (by omega) FU (FU_big (by omega)) wo (fun y' m' x' a b c d => hG y' m' x' a b c (by omega))
    obtain ⟨w2, b1, b2⟩ := ih (by omega) fu (by omega) w1 a2
    refine ⟨w2, ?_, b2⟩
    rw [e0]
    unfold f_X2_draw_L1 f_X2_findWaysFrom
    rw [if_neg (nI_pos (by omega)), show f_X2_findWaysFrom_L3 (nI (2 ^ atN g ng - 1)) (nI n) (nI st) lo hh se FU wo 0 = some w1 from a1, bd1_s, bd1_s, e3]
    exact b1
theorem draw12 (a b : Int32) (c d e : Nat → Int32) : ∀ fu w i, f_X2_draw_L2 a b c d e fu w i = f_X2_draw_L1 a b c d e fu w i
  | 0, _, _ => rfl
  | fu + 1, w, i => by
    unfold f_X2_draw_L2 f_X2_draw_L1
    have h : ∀ w i, f_X2_draw_L2 a b c d e fu w i = f_X2_draw_L1 a b c d e fu w i := fun w i => draw12 a b c d e fu w i
    simp only [h]
theorem X_lfL {y m lo hh : Nat} {p1 p5 : Int32} {wo : Nat → Int32} {F : Nat → Nat} (hy : y < 40) (hm : m < 32) (hh2 : hh ≤ 20) (hp1 : p1 = nI y) (hF : ∀ t, lo ≤ t → t ≤ hh → ∃ s w : Nat, (if p1 = (0) then (some (0 : Int32)) else (some (if 0 ≤ (nI t - p5) then (nI t - p5) else 0 - (nI t - p5)))) = some (nI s) ∧ wo ((y * 32 + m) * 21 + t) = nI w ∧ F t = s + w ∧ s + w < 2000000) (hhi : ∀ k, hh + 1 ≤ k → k < 21 → 1000000 ≤ F k) : ∀ n i, i + n = hh + 1 → lo ≤ i → ∀ fu, n < fu → f_X2_leastFront_L1 (nI hh) p1 p5 (nI m) wo fu (if mnF F i < 1000000 then nI (amF F i) else nI lo) (nI (mnF F i)) (nI i) = some (if mnF F 21 < 1000000 then nI (amF F 21) else nI lo) := by
  obtain ⟨u1, u2⟩ := mnF_hi (f := F) (a := hh + 1) 21 (by omega) hhi
  intro n
  induction n with
  | zero =>
    intro i hi hl fu hfu
    obtain ⟨fu, rfl⟩ : ∃ n, fu = n + 1 := ⟨fu - 1, by omega⟩
    obtain rfl : i = hh + 1 := by omega
    unfold f_X2_leastFront_L1
    rw [if_pos (nI_lt (by omega) (by omega)), u1, u2]
  | succ n ih =>
    intro i hi hl fu hfu
    obtain ⟨fu, rfl⟩ : ∃ n, fu = n + 1 := ⟨fu - 1, by omega⟩
    have h1 := ih (i + 1) (by omega) (by omega) fu (by omega)
    obtain ⟨s, w, f1, f2, f3, f4⟩ := hF i hl (by omega)
    have hmm := mnF_m F i
    rw [show mnF F (i + 1) = if F i < mnF F i then F i else mnF F i from rfl, show amF F (i + 1) = if F i < mnF F i then i else amF F i from rfl] at h1
    unfold f_X2_leastFront_L1 f_X2_wayAt
    rw [if_neg (nI_nlt (by omega) (by omega)), f1, bd1_s, bd1_s, hp1, show (nI y * 32 + nI m) * 21 + nI i = nI ((y * 32 + m) * 21 + i) from by simp (disch := omega) only [↓lm1, ln0, ln1, ln2, ln3, ln4, ln5, ln6, ln7, ln8, ln9, ln10, ln11, ln12, ln13, ln14, ln15, ln16, ln17, ln18, ln19, ln20, ln21, ln22, ln26, ln30, ln31, ln32, ln36, ln39, ln40, ln48, ln50, ln59, ln60, ln61, ln63, ln64, ln80, ln97, ln99, ln100, ln103, ln122, ln192, ln220, ln240, ln255, ln260, ln290, ln300, ln370, ln410, ln430, ln460, ln920, ln960, ln999, ln1000, ln2000, ln26880, ln1000000, ofNat_nI, nI_add, pk_mul, pk_sub, nI_leP, nI_ltP, nI_eqP, nI_clamp, gin_n, chk_t, nm_s, bd1_s, bd2_s, bd3_s, bd4_s, bI_n0, bI_1, chk_gz_bI, if_pos, if_neg, if_true, if_false, ite_some, nI_m1, m1_nI, m1_le, le_m1, m1_lt, lt_m1, m1_1, n_m1, n0_m1, m1_m1, not_true_eq_false, not_false_eq_true], gin_n (by omega) (by decide), chk_t, cl_n (by omega), f2, nI_add, ← f3, nm_s, nI_1]
    rw [hp1] at h1
    by_cases c : F i < mnF F i
    · rw [if_pos c, if_pos c, if_pos (by omega)] at h1
      rw [if_neg (nI_ge c (by omega))]
      exact h1
    · rw [if_neg c, if_neg c] at h1
      rw [if_pos (nI_le (by omega) (by omega))]
      exact h1
theorem XS_first (hst : st ≤ 20) (hA : atN g ng ≤ 5) {wo : Nat → Int32} (hw : ∀ y' m' x', y' < 40 → x' < 21 → m' < 2 ^ atN g ng → wo ((y' * 32 + m') * 21 + x') = nI (Wd st ng g (39 - y') x' m')) : f_X2_leastFront wo 0 0 0 20 0 = some (if tvN st ng g < 1000000 then nI (rwN st ng g 0).1 else nI 0) := by
  have h1 := X_lfL (y := 0) (m := 0) (lo := 0) (hh := 20) (p1 := 0) (p5 := 0) (wo := wo) (F := fun x => Wd st ng g 39 x 0) (by decide) (by decide) (Nat.le_refl _) rfl (fun t _ ht => ⟨0, Wd st ng g 39 t 0, rfl, hw 0 0 t (by omega) (by omega) (Nat.two_pow_pos _), by rw [Nat.zero_add], by have := Wd_m (st := st) (ng := ng) (g := g) 39 t 0; omega⟩) (fun k a b => by omega) 21 0 rfl (Nat.le_refl _) FU (FU_big (by decide))
  have e0 : mnF (fun x => Wd st ng g 39 x 0) 0 = 1000000 := by rw [mnF]
  rw [e0, if_neg (by decide)] at h1
  have h1 : f_X2_leastFront_L1 20 0 0 0 wo FU 0 1000000 0 = some (if mnF (fun x => Wd st ng g 39 x 0) 21 < 1000000 then nI (amF (fun x => Wd st ng g 39 x 0) 21) else nI 0) := h1
  unfold f_X2_leastFront
  rw [h1, bd1_s, tvN_e, rw_am, GG_0]
theorem X_later (hst : st ≤ 20) (hA : atN g ng ≤ 5) {wo : Nat → Int32} (hw : ∀ y' m' x', y' < 40 → x' < 21 → m' < 2 ^ atN g ng → wo ((y' * 32 + m') * 21 + x') = nI (Wd st ng g (39 - y') x' m')) (htv : tvN st ng g < 1000000) {j : Nat} (hj : j + 1 < 40) : f_X2_leastFront wo (nI (j + 1)) (nI (rwN st ng g (j + 1)).2) (nI ((rwN st ng g j).1 - st)) (nI (if (rwN st ng g j).1 + st < 20 then (rwN st ng g j).1 + st else 20)) (nI (rwN st ng g j).1) = some (nI (rwN st ng g (j + 1)).1) := by
  have hmk := rw_m (st := st) (ng := ng) (g := g) (j + 1)
  have h32 : 2 ^ atN g ng ≤ 2 ^ 5 := Nat.pow_le_pow_right (by omega) hA
  have h25 : (2 : Nat) ^ 5 = 32 := rfl
  have hr := (rw_ok htv j (by omega)).1
  obtain ⟨l1, l2⟩ := lf_mn htv (j + 1) hj
  rw [l1] at l2
  have hla : (if (rwN st ng g j).1 + st < 20 then (rwN st ng g j).1 + st else 20) ≤ 20 ∧ (if (rwN st ng g j).1 + st < 20 then (rwN st ng g j).1 + st else 20) ≤ (rwN st ng g j).1 + st ∧ ((if (rwN st ng g j).1 + st < 20 then (rwN st ng g j).1 + st else 20) < 20 → (if (rwN st ng g j).1 + st < 20 then (rwN st ng g j).1 + st else 20) = (rwN st ng g j).1 + st) ∧ (rwN st ng g j).1 ≤ (if (rwN st ng g j).1 + st < 20 then (rwN st ng g j).1 + st else 20) := by
    by_cases d : (rwN st ng g j).1 + st < 20
    · rw [if_pos d]; omega
    · rw [if_neg d]; omega
  have h1 := X_lfL (y := j + 1) (m := (rwN st ng g (j + 1)).2) (lo := (rwN st ng g j).1 - st) (hh := if (rwN st ng g j).1 + st < 20 then (rwN st ng g j).1 + st else 20) (p1 := nI (j + 1)) (p5 := nI (rwN st ng g j).1) (wo := wo) (F := GG st ng g (j + 1)) hj (by omega) hla.1 rfl (fun t h1 h2 => by
      have hd : dst (rwN st ng g j).1 t ≤ st := by
        unfold dst
        by_cases c : (rwN st ng g j).1 ≤ t
        · rw [if_pos c]; omega
        · rw [if_neg c]; omega
      have hW := Wd_m (st := st) (ng := ng) (g := g) (38 - j) t (rwN st ng g (j + 1)).2
      refine ⟨dst (rwN st ng g j).1 t, Wd st ng g (38 - j) t (rwN st ng g (j + 1)).2, ?_, ?_, ?_, by omega⟩
      · rw [if_neg (nI_ne0 (by omega) (by omega)), abs_I (by omega) (by omega)]
      · rw [hw (j + 1) _ t hj (by omega) hmk, show 39 - (j + 1) = 38 - j by omega]
      · rw [GG_sx, if_pos hd]) (fun k a b => by
      have : ¬ dst (rwN st ng g j).1 k ≤ st := by
        unfold dst
        rw [if_pos (by omega)]
        omega
      rw [GG_sx, if_neg this]
      omega) ((if (rwN st ng g j).1 + st < 20 then (rwN st ng g j).1 + st else 20) + 1 - ((rwN st ng g j).1 - st)) ((rwN st ng g j).1 - st) (by omega) (Nat.le_refl _) FU (FU_big (by omega))
  have h0 : mnF (GG st ng g (j + 1)) ((rwN st ng g j).1 - st) = 1000000 := (mnF_0 (fun k hk => by
    have : ¬ dst (rwN st ng g j).1 k ≤ st := by
      unfold dst
      rw [if_neg (by omega)]
      omega
    rw [GG_sx, if_neg this]
    omega)).1
  rw [h0, if_neg (show ¬ (1000000 : Nat) < 1000000 by decide), if_pos l2, ← rw_am] at h1
  unfold f_X2_leastFront
  rw [show f_X2_leastFront_L1 (nI (if (rwN st ng g j).1 + st < 20 then (rwN st ng g j).1 + st else 20)) (nI (j + 1)) (nI (rwN st ng g j).1) (nI (rwN st ng g (j + 1)).2) wo FU (nI ((rwN st ng g j).1 - st)) 1000000 (nI ((rwN st ng g j).1 - st)) = _ from h1, bd1_s]
theorem X_rowL2 (hst : st ≤ 20) (hA : atN g ng ≤ 5) {wo lo hh se : Nat → Int32} (hT : TSt g ng lo hh se) (hw : ∀ y' m' x', y' < 40 → x' < 21 → m' < 2 ^ atN g ng → wo ((y' * 32 + m') * 21 + x') = nI (Wd st ng g (39 - y') x' m')) (htv : tvN st ng g < 1000000) : ∀ n y, y + n = 40 → ∀ fu, n < fu → ∀ row, (∀ q, q < y → row q = nI (rwN st ng g q).1) → ∃ row', f_X2_followFirstRow_L1 wo (nI st) se (nI (2 ^ atN g ng - 1)) fu row (nI (rwN st ng g y).2) (nI (rwN st ng g (y - 1)).1) (nI y) = some row' ∧ ∀ q, q < 40 → row' q = nI (rwN st ng g q).1 := by
  intro n
  induction n with
  | zero =>
    intro y hy fu hfu row hq
    obtain ⟨fu, rfl⟩ : ∃ n, fu = n + 1 := ⟨fu - 1, by omega⟩
    obtain rfl : y = 40 := by omega
    refine ⟨row, ?_, hq⟩
    unfold f_X2_followFirstRow_L1
    rw [if_pos (by decide)]
  | succ n ih =>
    intro y hy fu hfu row hq
    obtain ⟨fu, rfl⟩ : ∃ n, fu = n + 1 := ⟨fu - 1, by omega⟩
    have hr := (rw_ok htv y (by omega)).1
    obtain ⟨row', b1, b2⟩ := ih (y + 1) (by omega) fu (by omega) (upd row y (nI (rwN st ng g y).1)) (fun q h => by
      by_cases e : q = y
      · subst e; rw [upd_s]
      · rw [upd_n _ _ e]; exact hq q (by omega))
    refine ⟨row', ?_, b2⟩
    have hx : (if nI y ≤ 0 then some (nI (rwN st ng g (y - 1)).1) else bd1 (f_X2_leastFront wo (nI y) (nI (rwN st ng g y).2) (if (0 : Int32) < (nI (rwN st ng g (y - 1)).1 - nI st) then (nI (rwN st ng g (y - 1)).1 - nI st) else (0 : Int32)) (if (nI (rwN st ng g (y - 1)).1 + nI st) < (20 : Int32) then (nI (rwN st ng g (y - 1)).1 + nI st) else (20 : Int32)) (nI (rwN st ng g (y - 1)).1)) (fun r43 => some r43)) = some (nI (rwN st ng g y).1) := by
      cases y with
      | zero => rfl
      | succ j =>
        have hrj := (rw_ok htv j (by omega)).1
        rw [if_neg (nI_nle (by omega) (by omega)), Nat.add_sub_cancel, loI (by omega) hst, hiI (by omega) hst, X_later hst hA hw htv (by omega), bd1_s]
    unfold f_X2_followFirstRow_L1
    rw [if_neg (show ¬ (40 : Int32) ≤ nI y from nI_ge (b := 40) (by omega) (by decide)), hx, bd1_s, gin_n (by omega) (by decide), chk_t, nm_s, cl_n (by omega), show (21 : Int32) * nI y + nI (rwN st ng g y).1 = nI (21 * y + (rwN st ng g y).1) from by simp (disch := omega) only [↓lm1, ln0, ln1, ln2, ln3, ln4, ln5, ln6, ln7, ln8, ln9, ln10, ln11, ln12, ln13, ln14, ln15, ln16, ln17, ln18, ln19, ln20, ln21, ln22, ln26, ln30, ln31, ln32, ln36, ln39, ln40, ln48, ln50, ln59, ln60, ln61, ln63, ln64, ln80, ln97, ln99, ln100, ln103, ln122, ln192, ln220, ln240, ln255, ln260, ln290, ln300, ln370, ln410, ln430, ln460, ln920, ln960, ln999, ln1000, ln2000, ln26880, ln1000000, ofNat_nI, nI_add, pk_mul, pk_sub, nI_leP, nI_ltP, nI_eqP, nI_clamp, gin_n, chk_t, nm_s, bd1_s, bd2_s, bd3_s, bd4_s, bI_n0, bI_1, chk_gz_bI, if_pos, if_neg, if_true, if_false, ite_some, nI_m1, m1_nI, m1_le, le_m1, m1_lt, lt_m1, m1_1, n_m1, n0_m1, m1_m1, not_true_eq_false, not_false_eq_true], gin_n (by omega) (by decide), chk_t, cl_n (by omega), hT.2 y _ (by omega) (by omega), nI_or, andM (Nat.or_lt_two_pow (rw_m y) (metN_lt ng)), nm_s, nI_1]
    exact b1
theorem X_follow (hst : st ≤ 20) (hA : atN g ng ≤ 5) {wo lo hh se : Nat → Int32} (hT : TSt g ng lo hh se) (hw : ∀ y' m' x', y' < 40 → x' < 21 → m' < 2 ^ atN g ng → wo ((y' * 32 + m') * 21 + x') = nI (Wd st ng g (39 - y') x' m')) (row : Nat → Int32) : ∃ tv' row', f_X2_followFirstRow (nI (2 ^ atN g ng - 1)) (nI st) wo row se = some (tv', row') ∧ StandS st ng g tv' row' := by
  have hf := XS_first hst hA hw
  unfold f_X2_followFirstRow f_X2_wayAt
  rw [hf, bd1_s]
  by_cases c : tvN st ng g < 1000000
  · have hr := rw_ok c 0 (by omega)
    have e1 : wo ((0 * 32 + 0) * 21 + (rwN st ng g 0).1) = nI (tvN st ng g) := by
      rw [hw 0 0 _ (by omega) hr.1 (Nat.two_pow_pos _)]
      have c2 := c
      rw [tvN_e] at c2
      have := (amF_s (fun x => Wd st ng g 39 x 0) 21 c2).2.1
      rw [rw_am, GG_0, tvN_e, Nat.sub_zero, this]
    obtain ⟨row', b1, b2⟩ := X_rowL2 hst hA hT hw c 40 0 rfl FU (FU_big (by decide)) row (fun q hq => by omega)
    rw [rw_20] at b1
    refine ⟨nI (tvN st ng g), row', ?_, ?_, fun _ => b2⟩
    · rw [if_pos c, bd1_s, show ((0 : Int32) * 32 + 0) * 21 + nI (rwN st ng g 0).1 = nI ((0 * 32 + 0) * 21 + (rwN st ng g 0).1) from by simp (disch := omega) only [↓lm1, ln0, ln1, ln2, ln3, ln4, ln5, ln6, ln7, ln8, ln9, ln10, ln11, ln12, ln13, ln14, ln15, ln16, ln17, ln18, ln19, ln20, ln21, ln22, ln26, ln30, ln31, ln32, ln36, ln39, ln40, ln48, ln50, ln59, ln60, ln61, ln63, ln64, ln80, ln97, ln99, ln100, ln103, ln122, ln192, ln220, ln240, ln255, ln260, ln290, ln300, ln370, ln410, ln430, ln460, ln920, ln960, ln999, ln1000, ln2000, ln26880, ln1000000, ofNat_nI, nI_add, pk_mul, pk_sub, nI_leP, nI_ltP, nI_eqP, nI_clamp, gin_n, chk_t, nm_s, bd1_s, bd2_s, bd3_s, bd4_s, bI_n0, bI_1, chk_gz_bI, if_pos, if_neg, if_true, if_false, ite_some, nI_m1, m1_nI, m1_le, le_m1, m1_lt, lt_m1, m1_1, n_m1, n0_m1, m1_m1, not_true_eq_false, not_false_eq_true], gin_n (by omega) (by decide), chk_t, cl_n (by omega), e1, nm_s, if_pos (show nI (tvN st ng g) < (1000000 : Int32) from nI_lt (b := 1000000) c (by decide)), show f_X2_followFirstRow_L1 wo (nI st) se (nI (2 ^ atN g ng - 1)) FU row 0 (nI (rwN st ng g 0).1) 0 = some row' from b1, bd1_s]
    · rw [if_pos c]
  · have hWm := Wd_m (st := st) (ng := ng) (g := g) 39 0 0
    have hle := mnF_le (fun x => Wd st ng g 39 x 0) 21 0 (by omega)
    have c' := c
    rw [tvN_e] at c'
    have e1 : wo ((0 * 32 + 0) * 21 + 0) = nI 1000000 := by
      rw [hw 0 0 0 (by omega) (by omega) (Nat.two_pow_pos _), show Wd st ng g (39 - 0) 0 0 = 1000000 from by
        rw [Nat.sub_zero]
        omega]
    refine ⟨-1, row, ?_, by rw [if_neg c], fun z => absurd z c⟩
    rw [if_neg c, bd1_s, show ((0 : Int32) * 32 + 0) * 21 + nI 0 = nI ((0 * 32 + 0) * 21 + 0) from by decide, gin_n (by omega) (by decide), chk_t, cl_n (by omega), e1, nm_s, if_neg (by decide)]
end STX
