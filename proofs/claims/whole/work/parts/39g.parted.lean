/-! ===== parted ===== -/
section PT
variable {sl fa nf nr : Nat} {g : Nat → Int32}
def bsN (g : Nat → Int32) (k : Nat) : Nat → Nat
  | 0 => 0
  | n + 1 => bsN g k n ||| (if vN (g (5 * n)) = k then 2 ^ n else 0)
theorem bsN_s (g : Nat → Int32) (k n : Nat) : bsN g k (n + 1) = bsN g k n ||| (if vN (g (5 * n)) = k then 2 ^ n else 0) := by rw [bsN]
theorem bsN_lt (g : Nat → Int32) (k : Nat) : ∀ n, bsN g k n < 2 ^ n
  | 0 => by show 0 < 2 ^ 0; decide
  | n + 1 => by
    rw [bsN_s]
    have := bsN_lt g k n
    have hp := Nat.two_pow_pos n
    refine Nat.or_lt_two_pow (by rw [Nat.pow_succ]; omega) ?_
    rw [Nat.pow_succ]
    split <;> omega
theorem X_bitsL (hG : FG sl fa nf nr g) {k : Nat} (hk : k ≤ 1) : ∀ n i, i + n = nf → ∀ fu, n < fu → f_X0_bitsOfScholar_L1 (nI nf) 80 g (nI k) fu (nI (bsN g k i)) (nI i) = some (nI (bsN g k nf)) := by
  have hn := hG.1
  intro n
  induction n with
  | zero =>
    intro i hi fu hfu
    obtain ⟨fu, rfl⟩ : ∃ n, fu = n + 1 := ⟨fu - 1, by omega⟩
    obtain rfl : i = nf := by omega
    unfold f_X0_bitsOfScholar_L1 f_X4_size
    rw [bd1_s, if_pos (Int32.le_refl _)]
  | succ n ih =>
    intro i hi fu hfu
    obtain ⟨fu, rfl⟩ : ∃ n, fu = n + 1 := ⟨fu - 1, by omega⟩
    have h1 := ih (i + 1) (by omega) fu (by omega)
    have o0 : isN (g (5 * i)) 1 := (hG.2.2.2.2 i (by omega)).1
    have q0 := o0.eq (by decide)
    have ql := o0.le (by decide)
    have c0 : f_X4_cell (nI nf) 80 g (nI i) 0 = some (nI (vN (g (5 * i)))) := by rw [← q0]; exact X_cell (c := 0) (by omega) (by omega) (by omega) (by omega) (by decide)
    rw [bsN_s] at h1
    unfold f_X0_bitsOfScholar_L1 f_X4_size
    rw [bd1_s, if_neg (nI_ge (by omega) (by omega)), c0, bd1_s]
    by_cases c : vN (g (5 * i)) = k
    · rw [if_pos c] at h1
      rw [if_pos (by rw [c]), shl1 _ (by omega), nI_or, nm_s, nI_1]
      exact h1
    · rw [if_neg c, Nat.or_zero] at h1
      rw [if_neg (fun z => c ((nI_eq (by omega) (by omega)).mp z)), nI_1]
      exact h1
theorem X_bits (hG : FG sl fa nf nr g) {k : Nat} (hk : k ≤ 1) : f_X0_bitsOfScholar (nI nf) 80 g (nI k) = some (nI (bsN g k nf)) := by
  have h1 := X_bitsL hG hk nf 0 (by omega) FU (FU_big (by have := hG.1; omega))
  unfold f_X0_bitsOfScholar
  rw [show f_X0_bitsOfScholar_L1 (nI nf) 80 g (nI k) FU 0 0 = _ from h1, bd1_s]
theorem M_bitsL (hG : FG sl fa nf nr g) {bk : Nat → Int32} (hB : FBK sl fa nf nr g bk) {k : Nat} (hk : k ≤ 1) : ∀ n i, i + n = nf → ∀ fu, n < fu → f_X10_ofScholar_L1 bk (nI k) fu (nI (bsN g k i)) (nI i) = some (nI (bsN g k nf)) := by
  have hn := hG.1
  have b4 : bk (4 : Int32).toNatClampNeg = nI nf := hB.2.1
  intro n
  induction n with
  | zero =>
    intro i hi fu hfu
    obtain ⟨fu, rfl⟩ : ∃ n, fu = n + 1 := ⟨fu - 1, by omega⟩
    obtain rfl : i = nf := by omega
    unfold f_X10_ofScholar_L1
    rw [show gin (4 : Int32) 460 = true from by decide, chk_t, b4, if_pos (Int32.le_refl _)]
  | succ n ih =>
    intro i hi fu hfu
    obtain ⟨fu, rfl⟩ : ∃ n, fu = n + 1 := ⟨fu - 1, by omega⟩
    have h1 := ih (i + 1) (by omega) fu (by omega)
    have o0 : isN (g (5 * i)) 1 := (hG.2.2.2.2 i (by omega)).1
    have q0 := o0.eq (by decide)
    have ql := o0.le (by decide)
    have c0 : f_X10_factAt bk (nI i) 0 = some (nI (vN (g (5 * i)))) := by rw [← q0]; exact M_factAt hB hn (j := 0) (by omega) (by omega)
    rw [bsN_s] at h1
    unfold f_X10_ofScholar_L1
    rw [show gin (4 : Int32) 460 = true from by decide, chk_t, b4, if_neg (nI_ge (by omega) (by omega)), c0, bd1_s]
    by_cases c : vN (g (5 * i)) = k
    · rw [if_pos c] at h1
      rw [if_pos (by rw [c]), shl1 _ (by omega), nI_or, nm_s, nI_1]
      exact h1
    · rw [if_neg c] at h1
      rw [if_neg (fun z => c ((nI_eq (by omega) (by omega)).mp z)), show (0 : Int32) = nI 0 from rfl, nI_or, nm_s, nI_1]
      exact h1
theorem M_bits (hG : FG sl fa nf nr g) {bk : Nat → Int32} (hB : FBK sl fa nf nr g bk) {k : Nat} (hk : k ≤ 1) : f_X10_ofScholar bk (nI k) = some (nI (bsN g k nf)) := by
  have h1 := M_bitsL hG hB hk nf 0 (by omega) FU (FU_big (by have := hG.1; omega))
  unfold f_X10_ofScholar
  rw [show f_X10_ofScholar_L1 bk (nI k) FU 0 0 = _ from h1, bd1_s]
def ptP (a b c d : Nat → Int32) (r : Nat) : Prop := a r < b r ∨ d r < c r
theorem XP_firstL (hn : nr ≤ 8) {a b c d : Nat → Int32} : ∀ n i, i + n = nr → ∀ fu, n < fu → (∀ q, q < i → ¬ ptP a b c d q) → ∃ q x, f_X0_firstParted_L1 (nI nr) a b c d fu (nI i) = some (q, x) ∧ ((q = 0 ∧ ∃ r, r < nr ∧ ptP a b c d r ∧ (∀ q, q < r → ¬ ptP a b c d q) ∧ x = nI r) ∨ (q = 1 ∧ ∀ r, r < nr → ¬ ptP a b c d r)) := by
  intro n
  induction n with
  | zero =>
    intro i hi fu hfu hq
    obtain ⟨fu, rfl⟩ : ∃ n, fu = n + 1 := ⟨fu - 1, by omega⟩
    obtain rfl : i = nr := by omega
    refine ⟨1, nI i, ?_, Or.inr ⟨rfl, hq⟩⟩
    unfold f_X0_firstParted_L1
    rw [if_pos (Int32.le_refl _)]
  | succ n ih =>
    intro i hi fu hfu hq
    obtain ⟨fu, rfl⟩ : ∃ n, fu = n + 1 := ⟨fu - 1, by omega⟩
    unfold f_X0_firstParted_L1
    rw [if_neg (nI_ge (by omega) (by omega)), gin_n (by omega) (by decide), cl_n (by omega), nI_1]
    simp only [chk_t]
    by_cases e : a i < b i
    · rw [if_pos e]
      exact ⟨0, nI i, rfl, Or.inl ⟨rfl, i, by omega, Or.inl e, hq, rfl⟩⟩
    · rw [if_neg e]
      by_cases f : c i ≤ d i
      · rw [if_pos f]
        exact ih (i + 1) (by omega) fu (by omega) (fun q h => by
          by_cases z : q = i
          · subst z
            rintro (w | w)
            · exact e w
            · exact absurd f (Int32.not_le.mpr w)
          · exact hq q (by omega))
      · rw [if_neg f]
        exact ⟨0, nI i, rfl, Or.inl ⟨rfl, i, by omega, Or.inr (Int32.not_le.mp f), hq, rfl⟩⟩
theorem M_lastL (hn : nr ≤ 8) {a b c d : Nat → Int32} : ∀ n, n ≤ nr → ∀ fu, n < fu → ∀ x, ((∃ r, n ≤ r ∧ r < nr ∧ ptP a b c d r ∧ (∀ q, n ≤ q → q < r → ¬ ptP a b c d q) ∧ x = nI r) ∨ ((∀ r, n ≤ r → r < nr → ¬ ptP a b c d r) ∧ x = -1)) → ∃ x', f_X10_parted_L2 d c b a fu x (if n = 0 then -1 else nI (n - 1)) = some x' ∧ ((∃ r, r < nr ∧ ptP a b c d r ∧ (∀ q, q < r → ¬ ptP a b c d q) ∧ x' = nI r) ∨ ((∀ r, r < nr → ¬ ptP a b c d r) ∧ x' = -1)) := by
  intro n
  induction n with
  | zero =>
    intro _ fu hfu x hx
    obtain ⟨fu, rfl⟩ : ∃ n, fu = n + 1 := ⟨fu - 1, by omega⟩
    refine ⟨x, ?_, ?_⟩
    · unfold f_X10_parted_L2
      rw [if_pos rfl, if_pos (by decide)]
    · rcases hx with ⟨r, -, h2, h3, h4, h5⟩ | ⟨h1, h2⟩
      · exact Or.inl ⟨r, h2, h3, fun q hq => h4 q (Nat.zero_le _) hq, h5⟩
      · exact Or.inr ⟨fun r hr => h1 r (Nat.zero_le _) hr, h2⟩
  | succ n ih =>
    intro hnr fu hfu x hx
    obtain ⟨fu, rfl⟩ : ∃ n, fu = n + 1 := ⟨fu - 1, by omega⟩
    have e0 : (if n + 1 = 0 then (-1 : Int32) else nI (n + 1 - 1)) = nI n := by rw [if_neg (Nat.succ_ne_zero n)]; rfl
    have e3 : nI n + -1 = (if n = 0 then (-1 : Int32) else nI (n - 1)) := by
      by_cases c : n = 0
      · subst c; rfl
      · obtain ⟨j, rfl⟩ : ∃ j, n = j + 1 := ⟨n - 1, by omega⟩
        rw [if_neg c, pk_m1]
        rfl
    have hit : ptP a b c d n → ∃ x', f_X10_parted_L2 d c b a fu (nI n) (if n = 0 then -1 else nI (n - 1)) = some x' ∧ ((∃ r, r < nr ∧ ptP a b c d r ∧ (∀ q, q < r → ¬ ptP a b c d q) ∧ x' = nI r) ∨ ((∀ r, r < nr → ¬ ptP a b c d r) ∧ x' = -1)) := fun h => ih (by omega) fu (by omega) (nI n) (Or.inl ⟨n, Nat.le_refl _, by omega, h, fun q q1 q2 => by omega, rfl⟩)
    have miss : ¬ ptP a b c d n → ∃ x', f_X10_parted_L2 d c b a fu x (if n = 0 then -1 else nI (n - 1)) = some x' ∧ ((∃ r, r < nr ∧ ptP a b c d r ∧ (∀ q, q < r → ¬ ptP a b c d q) ∧ x' = nI r) ∨ ((∀ r, r < nr → ¬ ptP a b c d r) ∧ x' = -1)) := fun h => ih (by omega) fu (by omega) x (by
      rcases hx with ⟨r, h1, h2, h3, h4, h5⟩ | ⟨h1, h2⟩
      · refine Or.inl ⟨r, by omega, h2, h3, fun q q1 q2 => ?_, h5⟩
        by_cases e : q = n
        · subst e; exact h
        · exact h4 q (by omega) q2
      · refine Or.inr ⟨fun r r1 r2 => ?_, h2⟩
        by_cases e : r = n
        · subst e; exact h
        · exact h1 r (by omega) r2)
    rw [e0]
    unfold f_X10_parted_L2
    rw [if_neg (nI_pos (by omega)), gin_n (by omega) (by decide), cl_n (by omega), e3]
    simp only [chk_t]
    by_cases e : d n < c n
    · rw [if_pos e]
      exact hit (Or.inr e)
    · rw [if_neg e]
      by_cases f : b n ≤ a n
      · rw [if_pos f]
        exact miss (by
          rintro (w | w)
          · exact absurd f (Int32.not_le.mpr w)
          · exact e w)
      · rw [if_neg f]
        exact hit (Or.inl (Int32.not_le.mp f))
theorem M_copy2L (hn : nr ≤ 8) {bk lo hi : Nat → Int32} (h3 : bk 3 = nI nr) : ∀ n i, i + n = nr → ∀ fu, n < fu → ∀ yh yl : Nat → Int32, ∃ yh' yl', f_X10_parted_L1 bk lo hi fu yh yl (nI i) = some (yh', yl') ∧ (∀ r, i ≤ r → r < nr → yh' r = hi r ∧ yl' r = lo r) ∧ ∀ r, r < i → yh' r = yh r ∧ yl' r = yl r := by
  have b3 : bk (3 : Int32).toNatClampNeg = nI nr := h3
  intro n
  induction n with
  | zero =>
    intro i hi' fu hfu yh yl
    obtain ⟨fu, rfl⟩ : ∃ n, fu = n + 1 := ⟨fu - 1, by omega⟩
    obtain rfl : i = nr := by omega
    refine ⟨yh, yl, ?_, fun r a b => by omega, fun _ _ => ⟨rfl, rfl⟩⟩
    unfold f_X10_parted_L1
    rw [show gin (3 : Int32) 460 = true from by decide, chk_t, b3, if_pos (Int32.le_refl _)]
  | succ n ih =>
    intro i hi' fu hfu yh yl
    obtain ⟨fu, rfl⟩ : ∃ n, fu = n + 1 := ⟨fu - 1, by omega⟩
    obtain ⟨yh', yl', a1, a2, a3⟩ := ih (i + 1) (by omega) fu (by omega) (upd yh i (hi i)) (upd yl i (lo i))
    refine ⟨yh', yl', ?_, fun r r1 r2 => ?_, fun r hr => ?_⟩
    · unfold f_X10_parted_L1
      rw [show gin (3 : Int32) 460 = true from by decide, chk_t, b3, if_neg (nI_ge (by omega) (by omega)), gin_n (by omega) (by decide), cl_n (by omega), nI_1]
      simp only [chk_t, nm_s]
      exact a1
    · by_cases e : r = i
      · subst e
        obtain ⟨c1, c2⟩ := a3 r (by omega)
        rw [c1, c2, upd_s, upd_s]
        exact ⟨rfl, rfl⟩
      · exact a2 r (by omega) r2
    · obtain ⟨c1, c2⟩ := a3 r (by omega)
      rw [c1, c2, upd_n _ _ (by omega), upd_n _ _ (by omega)]
      exact ⟨rfl, rfl⟩
end PT
theorem bd10_s {t0 t1 t2 t3 t4 t5 t6 t7 t8 t9 r : Type} (a0 : t0) (a1 : t1) (a2 : t2) (a3 : t3) (a4 : t4) (a5 : t5) (a6 : t6) (a7 : t7) (a8 : t8) (a9 : t9) (k : t0 → t1 → t2 → t3 → t4 → t5 → t6 → t7 → t8 → t9 → Option r) : bd10 (some (a0, a1, a2, a3, a4, a5, a6, a7, a8, a9)) k = k a0 a1 a2 a3 a4 a5 a6 a7 a8 a9 := rfl
theorem q_parted : PP_parted INV := by
  intro xi xa mi ma hI _
  obtain ⟨nr, nf, sl, fa, s2, s10, h4, h5, hsl, hG, hB⟩ := ageS hI
  have hn := hG.1
  have hr8 := hG.2.1
  have hp := pw16 hn
  have good : ∀ {r o0 : Int32} {o1 o2 o3 o4 o5 o6 o7 o8 : Nat → Int32} {q0 q1 q2 : Int32} {q3 q4 q5 q6 : Nat → Int32}, f_X9_parted (xi 2) (xi 10) 80 (xa 5) (xa 43) (xa 44) (xa 45) (xa 46) (xa 4) (xa 39) (xa 40) (xa 41) (xa 42) = some (r, o0, o1, o2, o3, o4, o5, o6, o7, o8) → f_X10_parted (mi 1) (mi 3) (ma 0) (ma 9) (ma 10) (ma 11) (ma 12) = some (r, q0, q1, q2, q3, q4, q5, q6) → ∃ (r : Int32) (o0 : Int32) (o1 : (Nat → Int32)) (o2 : (Nat → Int32)) (o3 : (Nat → Int32)) (o4 : (Nat → Int32)) (o5 : (Nat → Int32)) (o6 : (Nat → Int32)) (o7 : (Nat → Int32)) (o8 : (Nat → Int32)) (q0 : Int32) (q1 : Int32) (q2 : Int32) (q3 : (Nat → Int32)) (q4 : (Nat → Int32)) (q5 : (Nat → Int32)) (q6 : (Nat → Int32)), f_X9_parted (xi 2) (xi 10) 80 (xa 5) (xa 43) (xa 44) (xa 45) (xa 46) (xa 4) (xa 39) (xa 40) (xa 41) (xa 42) = some (r, o0, o1, o2, o3, o4, o5, o6, o7, o8) ∧ f_X10_parted (mi 1) (mi 3) (ma 0) (ma 9) (ma 10) (ma 11) (ma 12) = some (r, q0, q1, q2, q3, q4, q5, q6) ∧ INV (va_up xi 46 o0) (va_up (va_up (va_up (va_up (va_up (va_up (va_up (va_up xa 43 o1) 44 o2) 45 o3) 46 o4) 39 o5) 40 o6) 41 o7) 42 o8) (va_up (va_up (va_up mi 0 q0) 2 q1) 4 q2) (va_up (va_up (va_up (va_up ma 9 q3) 10 q4) 11 q5) 12 q6) := by
    intro r o0 o1 o2 o3 o4 o5 o6 o7 o8 q0 q1 q2 q3 q4 q5 q6 a b
    refine ⟨_, _, _, _, _, _, _, _, _, _, _, _, _, _, _, _, _, a, b, ?_⟩
    refine INV_ag hI ?_ ?_ ?_ ?_ <;> (intro k hk; simp (disch := omega) only [va_up_ne])
  have x0 := X_bits hG (k := 0) (by omega)
  have x1 := X_bits hG (k := 1) (by omega)
  have m0 := M_bits hG hB (k := 0) (by omega)
  have m1 := M_bits hG hB (k := 1) (by omega)
  have l0 := Nat.lt_of_lt_of_le (bsN_lt (xa 5) 0 nf) hp
  have l1 := Nat.lt_of_lt_of_le (bsN_lt (xa 5) 1 nf) hp
  obtain ⟨r, ro', ol', lw', hg', lo', hi', a1, -, a2⟩ := X_joinBy hG (S := bsN (xa 5) 0 nf) l0 h4 h5 (xa 43) (xa 44) (xa 45) (xa 46) (xa 39) (xa 40)
  obtain ⟨r2, mv, lo2, hi2, b1, b2⟩ := M_plain hG hB (S := bsN (xa 5) 0 nf) l0 (mi 1) (mi 3) (ma 9) (ma 10)
  rcases a2 with ⟨rfl, l, h, d1, d2, d3⟩ | ⟨rfl, d1⟩
  · rcases b2 with ⟨rfl, l2, h2, e1, e2, e3⟩ | ⟨rfl, e1⟩
    · have eq := R8_eq d1 d2 e1 e2 d3 e3
      obtain ⟨yh, yl, c1, c2, -⟩ := M_copy2L hr8 hB.1 (lo := lo2) (hi := hi2) nr 0 (by omega) FU (FU_big (by omega)) (ma 12) (ma 11)
      have c1' : f_X10_parted_L1 (ma 0) lo2 hi2 FU (ma 12) (ma 11) 0 = some (yh, yl) := c1
      obtain ⟨r3, ro3, ol3, lw3, hg3, lo3, hi3, f1, -, f2⟩ := X_joinBy hG (S := bsN (xa 5) 1 nf) l1 h4 h5 ro' ol' lw' hg' lo' hi'
      obtain ⟨r4, mv4, lo4, hi4, i1, i2⟩ := M_plain hG hB (S := bsN (xa 5) 1 nf) l1 (mi 1) (mi 3) lo2 hi2
      have cpl := cpyLit (f := lo') (g := xa 41) (n := 8) (N := 8) (by decide)
      have cph := cpyLit (f := hi') (g := xa 42) (n := 8) (N := 8) (by decide)
      generalize hcl : va_cpy lo' (xa 41) (0 : Int32).toNatClampNeg (0 : Int32).toNatClampNeg (8 : Int32).toNatClampNeg = ycl at *
      generalize hch : va_cpy hi' (xa 42) (0 : Int32).toNatClampNeg (0 : Int32).toNatClampNeg (8 : Int32).toNatClampNeg = ych at *
      have xpre : ∀ K, K = f_X9_parted (xi 2) (xi 10) 80 (xa 5) (xa 43) (xa 44) (xa 45) (xa 46) (xa 4) (xa 39) (xa 40) (xa 41) (xa 42) → K = (bd10 (if r3 = (0) then (some ((-5 : Int32), nI nf, ro3, ol3, lw3, hg3, lo3, hi3, ycl, ych)) else (nm (if (8 : Int32) < nI nr then (8 : Int32) else nI nr) (fun x31 => bd2 (f_X0_firstParted_L1 x31 ych lo3 ycl hi3 FU (0 : Int32)) (fun q42 x41 => if q42 = 0 then (some (x41, nI nf, ro3, ol3, lw3, hg3, lo3, hi3, ycl, ych)) else (some ((-1 : Int32), nI nf, ro3, ol3, lw3, hg3, lo3, hi3, ycl, ych)))))) (fun r1 x2 y3 y4 y5 y6 y7 y8 y9 y10 => some (r1, x2, y3, y4, y5, y6, y7, y8, y9, y10))) := by
        intro K hK
        rw [hK]
        unfold f_X9_parted f_X0_firstParted
        rw [s10, show f_X0_bitsOfScholar (nI nf) 80 (xa 5) 0 = _ from x0, bd1_s, a1, bd8_s, if_neg one0, show gcp (0 : Int32) 0 8 8 8 = true from by decide, chk_t, nm_s, chk_t, nm_s, hcl, hch, show f_X0_bitsOfScholar (nI nf) 80 (xa 5) 1 = _ from x1, bd1_s, f1, bd8_s, s2]
      have mpre : ∀ K, K = f_X10_parted (mi 1) (mi 3) (ma 0) (ma 9) (ma 10) (ma 11) (ma 12) → K = (if r4 = (0) then (some ((-5 : Int32), -1, -1, mv4, lo4, hi4, yl, yh)) else (chk (gin (3 : Int32) 460) (nm ((ma 0 (3 : Int32).toNatClampNeg) - (1 : Int32)) (fun x62 => bd1 (f_X10_parted_L2 hi4 yl lo4 yh FU (-1 : Int32) x62) (fun x73 => some (x73, -1, -1, mv4, lo4, hi4, yl, yh)))))) := by
        intro K hK
        rw [hK]
        unfold f_X10_parted
        rw [show f_X10_ofScholar (ma 0) 0 = _ from m0, bd1_s, b1, bd6_s, if_neg one0, c1', bd2_s, show f_X10_ofScholar (ma 0) 1 = _ from m1, bd1_s, i1, bd6_s]
      rcases f2 with ⟨rfl, l3, h3, f2, f3, f4⟩ | ⟨rfl, f2⟩
      · rcases i2 with ⟨rfl, l4, h4', i2, i3, i4⟩ | ⟨rfl, i2⟩
        · have eq2 := R8_eq f2 f3 i2 i3 f4 i4
          obtain ⟨q, x, j1, j2⟩ := XP_firstL hr8 (a := ych) (b := lo3) (c := ycl) (d := hi3) nr 0 (by omega) FU (FU_big (by omega)) (fun q hq => by omega)
          obtain ⟨x', k1, k2⟩ := M_lastL hr8 (a := yh) (b := lo4) (c := yl) (d := hi4) nr (Nat.le_refl _) FU (FU_big (by omega)) (-1) (Or.inr ⟨fun r r1 r2 => by omega, rfl⟩)
          have pe : ∀ r, r < nr → (ptP ych lo3 ycl hi3 r ↔ ptP yh lo4 yl hi4 r) := by
            intro r hr
            have w1 := c2 r (Nat.zero_le _) hr
            have w2 := eq r (by omega)
            have w3 := eq2 r (by omega)
            unfold ptP
            rw [cpl r (by omega), cph r (by omega), w1.1, w1.2, w2.1, w2.2, w3.1, w3.2]
          have e8 : (if (8 : Int32) < nI nr then (8 : Int32) else nI nr) = nI nr := if_neg (show ¬ nI 8 < nI nr from nI_nlt hr8 (by decide))
          have ml : (ma 0 (3 : Int32).toNatClampNeg) - (1 : Int32) = (if nr = 0 then (-1 : Int32) else nI (nr - 1)) := by
            rw [show ma 0 (3 : Int32).toNatClampNeg = nI nr from hB.1]
            by_cases c : nr = 0
            · rw [if_pos c, c]; rfl
            · rw [if_neg c]; exact pk_sub (b := 1) (by omega)
          have j1' : f_X0_firstParted_L1 (nI nr) ych lo3 ycl hi3 FU 0 = some (q, x) := j1
          have xx := xpre _ rfl
          have mm := mpre _ rfl
          rw [if_neg one0, e8, nm_s, j1', bd2_s] at xx
          rw [if_neg one0, show gin (3 : Int32) 460 = true from by decide, chk_t, ml, nm_s, k1, bd1_s] at mm
          rcases j2 with ⟨rfl, r, r1, r2, r3', rfl⟩ | ⟨rfl, j2⟩
          · rcases k2 with ⟨r', u1, u2, u3, rfl⟩ | ⟨k2, rfl⟩
            · have er : r = r' := by
                rcases Nat.lt_trichotomy r r' with z | z | z
                · exact absurd ((pe r r1).mp r2) (u3 r z)
                · exact z
                · exact absurd ((pe r' u1).mpr u2) (r3' r' z)
              subst er
              rw [if_pos rfl, bd10_s] at xx
              exact good xx mm
            · exact absurd ((pe r r1).mp r2) (k2 r r1)
          · rcases k2 with ⟨r', u1, u2, u3, rfl⟩ | ⟨k2, rfl⟩
            · exact absurd ((pe r' u1).mpr u2) (j2 r' u1)
            · rw [if_neg (by decide), bd10_s] at xx
              exact good xx mm
        · exact absurd ⟨l3, (SOL_iff hG).mp f4.1⟩ i2
      · rcases i2 with ⟨rfl, l4, h4', i2, i3, i4⟩ | ⟨rfl, i2⟩
        · exact absurd ⟨l4, (SOL_iff hG).mp i4.1⟩ f2
        · have xx := xpre _ rfl
          have mm := mpre _ rfl
          rw [if_pos rfl, bd10_s] at xx
          rw [if_pos rfl] at mm
          exact good xx mm
    · exact absurd ⟨l, (SOL_iff hG).mp d3.1⟩ e1
  · rcases b2 with ⟨rfl, l2, h2, e1, e2, e3⟩ | ⟨rfl, e1⟩
    · exact absurd ⟨l2, (SOL_iff hG).mp e3.1⟩ d1
    · refine good (r := -5) (o0 := nI nf) (o1 := ro') (o2 := ol') (o3 := lw') (o4 := hg') (o5 := lo') (o6 := hi') (o7 := xa 41) (o8 := xa 42) (q0 := -1) (q1 := -1) (q2 := mv) (q3 := lo2) (q4 := hi2) (q5 := ma 11) (q6 := ma 12) ?_ ?_
      · unfold f_X9_parted f_X0_firstParted
        rw [s10, show f_X0_bitsOfScholar (nI nf) 80 (xa 5) 0 = _ from x0, bd1_s, a1, bd8_s, if_pos rfl, bd10_s]
      · unfold f_X10_parted
        rw [show f_X10_ofScholar (ma 0) 0 = _ from m0, bd1_s, b1, bd6_s, if_pos rfl]
