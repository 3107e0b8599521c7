/-! ===== read ===== -/
theorem INV_rd {xi xi' : Nat → Int32} {xa xa' : Nat → Nat → Int32} {mi mi' : Nat → Int32} {ma ma' : Nat → Nat → Int32} (h : INV xi xa mi ma)
    (hF : FB (xi' 2) (xi' 3) (xi' 4) (xi' 5) (xi' 6) (xi' 7) (xi' 8) (xi' 9) (xi' 10) (xi' 11) (xi' 12) (xa' 0) (xa' 1) (xa' 2) (xa' 3) (xa' 4) (xa' 5) (xa' 6) (xa' 7) (xa' 8) (ma' 0)) (hT : TXI (xi' 60) (mi' 8) (xa' 56) (ma' 15))
    (hxi : ∀ k, (k ≤ 1 ∨ k = 14 ∨ k = 16 ∨ k = 18 ∨ k = 20 ∨ k = 22 ∨ (24 ≤ k ∧ k ≤ 57)) → xi' k = xi k) (hxa : ∀ k, (18 ≤ k ∧ k ≤ 54) → xa' k = xa k) (hma : ∀ k, (k = 1 ∨ k = 2) → ma' k = ma k) : INV xi' xa' mi' ma' := by
  obtain ⟨-, h2, h3, h4, -, h6, h7⟩ := h
  unfold INV
  refine ⟨hF, ?_, ?_, ?_, hT, ?_, ?_⟩
  · simp only [hxi 14 (by omega), hxi 16 (by omega), hxi 18 (by omega), hxi 20 (by omega), hxi 22 (by omega), hxi 25 (by omega), hxi 27 (by omega), hxi 29 (by omega), hxi 31 (by omega), hxi 33 (by omega), hxi 36 (by omega), hxi 38 (by omega), hxi 40 (by omega), hxi 42 (by omega), hxi 44 (by omega)]
    exact h2
  · simp only [hxi 0 (by omega), hxi 24 (by omega), hxi 25 (by omega), hxi 26 (by omega), hxi 27 (by omega), hxi 28 (by omega), hxi 29 (by omega), hxi 30 (by omega), hxi 31 (by omega), hxi 32 (by omega), hxi 33 (by omega), hxi 34 (by omega), hxa 18 (by omega), hxa 19 (by omega), hxa 20 (by omega), hxa 21 (by omega), hxa 22 (by omega), hxa 23 (by omega), hxa 24 (by omega), hxa 25 (by omega), hxa 26 (by omega), hma 1 (by omega), hma 2 (by omega)]
    exact h3
  · simp only [hxi 1 (by omega), hxi 35 (by omega), hxi 36 (by omega), hxi 37 (by omega), hxi 38 (by omega), hxi 39 (by omega), hxi 40 (by omega), hxi 41 (by omega), hxi 42 (by omega), hxi 43 (by omega), hxi 44 (by omega), hxi 45 (by omega), hxa 27 (by omega), hxa 28 (by omega), hxa 29 (by omega), hxa 30 (by omega), hxa 31 (by omega), hxa 32 (by omega), hxa 33 (by omega), hxa 34 (by omega), hxa 35 (by omega), hma 1 (by omega), hma 2 (by omega)]
    exact h4
  · simp only [hxi 50 (by omega), hxi 51 (by omega), hxi 47 (by omega), hxi 48 (by omega), hxi 49 (by omega), hxa 48 (by omega)]
    exact h6
  · simp only [hxi 56 (by omega), hxi 57 (by omega), hxi 55 (by omega), hxi 54 (by omega), hxa 54 (by omega), hxa 53 (by omega)]
    exact h7
section RD
variable {n : Nat} {x m : Nat → Int32} {t : Nat → Nat}
theorem readL {J : Nat} {P W : Nat → Nat} {V : Nat → Nat → Nat} (hP : PARSE n x m 0 0 J P W V) (hE : XE n x (P J)) {nums verbs : Nat → Int32} (hV : ∀ r, r < J → verbs r = nI (10 + W r) ∧ ∀ j, j < dueN (W r) → nums (4 * r + j) = nI (V r j)) {mi : Nat → Int32} : ∀ d i, i + d = J → ∀ fu fv, d < fu → d < fv → ∀ (xi : Nat → Int32) (xa ma : Nat → Nat → Int32), INV xi xa mi ma → ∀ (y : Nat → Int32) (st vv ww : Int32),
    ∃ (q c : Nat) (xi' : Nat → Int32) (xa' ma' : Nat → Nat → Int32) (y' : Nat → Int32) (st' vv' nx' ww' : Int32), f_X9_read_L1 (nI n) x (xi 3) 40 (xi 5) 50 (xi 7) 50 (xi 9) 80 (xi 11) 50 fu (xa 2) (xa 1) (xa 5) (xa 3) (xa 6) y (xi 2) (xi 6) (xi 4) (xi 10) (xi 8) (xi 12) st vv (nI (P i)) ww (nI i) = some (q, xa' 2, xa' 1, xa' 5, xa' 3, xa' 6, y', xi' 2, xi' 6, xi' 4, xi' 10, xi' 8, xi' 12, st', vv', nx', ww', nI c) ∧ f_X10_read_L2 (nI J) nums verbs fv (ma 0) (nI i) = some (q, ma' 0, nI c) ∧ INV xi' xa' mi ma' ∧ (∀ k, (k ≠ 2 ∧ k ≠ 4 ∧ k ≠ 6 ∧ k ≠ 8 ∧ k ≠ 10 ∧ k ≠ 12) → xi' k = xi k) ∧ (∀ k, (k ≠ 1 ∧ k ≠ 2 ∧ k ≠ 3 ∧ k ≠ 5 ∧ k ≠ 6) → xa' k = xa k) ∧ (∀ k, k ≠ 0 → ma' k = ma k) ∧ ((q = 1 ∧ c = J) ∨ q = 0) := by
  obtain ⟨h1, h2, h3, h4⟩ := hP
  intro d
  induction d with
  | zero =>
    intro i hi fu fv hfu hfv xi xa ma hI y st vv ww
    obtain ⟨fu, rfl⟩ : ∃ n, fu = n + 1 := ⟨fu - 1, by omega⟩
    obtain ⟨fv, rfl⟩ : ∃ n, fv = n + 1 := ⟨fv - 1, by omega⟩
    obtain rfl : i = J := by omega
    have mm : f_X10_read_L2 (nI i) nums verbs (fv + 1) (ma 0) (nI i) = some (1, ma 0, nI i) := by
      unfold f_X10_read_L2
      rw [if_pos (Int32.le_refl _)]
    by_cases c : (240 : Int32) ≤ nI i
    · refine ⟨1, i, xi, xa, ma, y, st, vv, nI (P i), ww, ?_, mm, hI, fun _ _ => rfl, fun _ _ => rfl, fun _ _ => rfl, Or.inl ⟨rfl, rfl⟩⟩
      unfold f_X9_read_L1
      rw [if_pos c]
    · obtain ⟨st', v', e', q⟩ := hE vv ww y
      refine ⟨1, i, xi, xa, ma, y, st', v', e', ww, ?_, mm, hI, fun _ _ => rfl, fun _ _ => rfl, fun _ _ => rfl, Or.inl ⟨rfl, rfl⟩⟩
      unfold f_X9_read_L1
      rw [if_neg c, q, bd6_s, if_neg (by decide)]
  | succ d ih =>
    intro i hi fu fv hfu hfv xi xa ma hI y st vv ww
    obtain ⟨fu, rfl⟩ : ∃ n, fu = n + 1 := ⟨fu - 1, by omega⟩
    obtain ⟨fv, rfl⟩ : ∃ n, fv = n + 1 := ⟨fv - 1, by omega⟩
    obtain ⟨q1, q2, q3, q4, q5⟩ := h3 i (Nat.zero_le _) (by omega)
    obtain ⟨w1, w2⟩ := hV i (by omega)
    obtain ⟨st1, v1, y1, e1, e2⟩ := q4 vv ww y
    obtain ⟨r, xi1, xa1, ma1, n1, n2, n3, n4, n5, n6⟩ := note hI q1 q2 e2 w2 w1
    have xstep : f_X9_read_L1 (nI n) x (xi 3) 40 (xi 5) 50 (xi 7) 50 (xi 9) 80 (xi 11) 50 (fu + 1) (xa 2) (xa 1) (xa 5) (xa 3) (xa 6) y (xi 2) (xi 6) (xi 4) (xi 10) (xi 8) (xi 12) st vv (nI (P i)) ww (nI i) = (if (0) ≤ r then f_X9_read_L1 (nI n) x (xi 3) 40 (xi 5) 50 (xi 7) 50 (xi 9) 80 (xi 11) 50 fu (xa1 2) (xa1 1) (xa1 5) (xa1 3) (xa1 6) y1 (xi1 2) (xi1 6) (xi1 4) (xi1 10) (xi1 8) (xi1 12) st1 v1 (nI (P (i + 1))) (nI (W i)) (nI (i + 1)) else some (0, xa1 2, xa1 1, xa1 5, xa1 3, xa1 6, y1, xi1 2, xi1 6, xi1 4, xi1 10, xi1 8, xi1 12, st1, v1, nI (P (i + 1)), nI (W i), nI i)) := by
      conv => lhs; unfold f_X9_read_L1
      rw [if_neg (show ¬ (240 : Int32) ≤ nI i from nI_ge (b := 240) q2 (by decide)), e1, bd6_s, if_pos rfl, n5, bd12_s, nI_1]
    have mstep : f_X10_read_L2 (nI J) nums verbs (fv + 1) (ma 0) (nI i) = (if (0) ≤ r then f_X10_read_L2 (nI J) nums verbs fv (ma1 0) (nI (i + 1)) else some (0, ma1 0, nI i)) := by
      conv => lhs; unfold f_X10_read_L2
      rw [if_neg (nI_ge (by omega) (by omega)), n6, bd2_s, nI_1]
    rw [xstep, mstep]
    by_cases c : (0 : Int32) ≤ r
    · rw [if_pos c, if_pos c]
      obtain ⟨q, c', xi', xa', ma', y', st', vv', nx', ww', a1, a2, a3, a4, a5, a6, a7⟩ := ih (i + 1) (by omega) fu fv (by omega) (by omega) xi1 xa1 ma1 n1 y1 st1 v1 (nI (W i))
      rw [n2 3 (by omega), n2 5 (by omega), n2 7 (by omega), n2 9 (by omega), n2 11 (by omega)] at a1
      exact ⟨q, c', xi', xa', ma', y', st', vv', nx', ww', a1, a2, a3, fun k hk => (a4 k hk).trans (n2 k hk), fun k hk => (a5 k hk).trans (n3 k hk), fun k hk => (a6 k hk).trans (n4 k hk), a7⟩
    · rw [if_neg c, if_neg c]
      exact ⟨0, i, xi1, xa1, ma1, y1, st1, v1, nI (P (i + 1)), nI (W i), rfl, rfl, n1, n2, n3, n4, Or.inr rfl⟩
theorem M_asideL {bk : Nat → Int32} : ∀ k i, i + k = 460 → ∀ fu, k < fu → ∀ y : Nat → Int32, ∃ y', f_X10_read_L1 bk fu y (nI i) = some y' ∧ (∀ q, i ≤ q → q < 460 → y' q = bk q) ∧ ∀ q, q < i → y' q = y q := by
  intro k
  induction k with
  | zero =>
    intro i hi fu hfu y
    obtain ⟨fu, rfl⟩ : ∃ n, fu = n + 1 := ⟨fu - 1, by omega⟩
    obtain rfl : i = 460 := by omega
    refine ⟨y, ?_, fun q a b => by omega, fun _ _ => rfl⟩
    unfold f_X10_read_L1
    rw [if_pos (by decide)]
  | succ k ih =>
    intro i hi fu hfu y
    obtain ⟨fu, rfl⟩ : ∃ n, fu = n + 1 := ⟨fu - 1, by omega⟩
    obtain ⟨y', a1, a2, a3⟩ := ih (i + 1) (by omega) fu (by omega) (upd y i (bk i))
    refine ⟨y', ?_, fun q q1 q2 => ?_, fun q hq => by rw [a3 q (by omega), upd_n _ _ (by omega)]⟩
    · unfold f_X10_read_L1
      rw [if_neg (show ¬ (460 : Int32) ≤ nI i from nI_ge (b := 460) (by omega) (by decide)), gin_n (by omega) (by decide), cl_n (by omega), nI_1]
      simp only [chk_t, nm_s]
      exact a1
    · by_cases e : q = i
      · subst e; rw [a3 _ (by omega), upd_s]
      · exact a2 q (by omega) q2
theorem M_backL {bk : Nat → Int32} : ∀ k i, i + k = 460 → ∀ fu, k < fu → ∀ y : Nat → Int32, ∃ y', f_X10_read_L3 bk fu y (nI i) = some y' ∧ (∀ q, i ≤ q → q < 460 → y' q = bk q) ∧ ∀ q, q < i → y' q = y q := by
  intro k
  induction k with
  | zero =>
    intro i hi fu hfu y
    obtain ⟨fu, rfl⟩ : ∃ n, fu = n + 1 := ⟨fu - 1, by omega⟩
    obtain rfl : i = 460 := by omega
    refine ⟨y, ?_, fun q a b => by omega, fun _ _ => rfl⟩
    unfold f_X10_read_L3
    rw [if_pos (by decide)]
  | succ k ih =>
    intro i hi fu hfu y
    obtain ⟨fu, rfl⟩ : ∃ n, fu = n + 1 := ⟨fu - 1, by omega⟩
    obtain ⟨y', a1, a2, a3⟩ := ih (i + 1) (by omega) fu (by omega) (upd y i (bk i))
    refine ⟨y', ?_, fun q q1 q2 => ?_, fun q hq => by rw [a3 q (by omega), upd_n _ _ (by omega)]⟩
    · unfold f_X10_read_L3
      rw [if_neg (show ¬ (460 : Int32) ≤ nI i from nI_ge (b := 460) (by omega) (by decide)), gin_n (by omega) (by decide), cl_n (by omega), nI_1]
      simp only [chk_t, nm_s]
      exact a1
    · by_cases e : q = i
      · subst e; rw [a3 _ (by omega), upd_s]
      · exact a2 q (by omega) q2
end RD
theorem q_read : PP_read INV := by
  intro xi xa mi ma hI _
  obtain ⟨n, tt, hn1, hn2, hT⟩ := txT hI.2.2.2.2.1
  have hn := hT.1
  have hL : LIM (xi 3) (xi 5) (xi 7) (xi 9) (xi 11) := by
    obtain ⟨nc, nb, nd, nr, nf, ng, q, -⟩ := FB_now hI
    exact q
  have hTX := hI.2.2.2.2.1
  obtain ⟨J, P, W, V, hP, p1, p2, p3⟩ := parse hT n 0 (by omega) 0 (Nat.le_refl _)
  have hJ := hP.2.2.2
  obtain ⟨a, st, tk, v1, hs⟩ := scans_some hT (Nat.zero_le n) (mi 12)
  have hs0 : f_X10_scans (nI n) (nI (P 0)) (mi 12) (ma 15) = some (a, st, tk, v1) := by rw [hP.2.1]; exact hs
  have hs' : f_X10_scans (nI n) 0 (mi 12) (ma 15) = some (a, st, tk, v1) := hs
  have good : ∀ {r : Int32} {o0 : Int32} {o1 : Int32} {o2 : Int32} {o3 : Int32} {o4 : Int32} {o5 : Nat → Int32} {o6 : Int32} {o7 : Int32} {o8 : Nat → Int32} {o9 : Nat → Int32} {o10 : Int32} {o11 : Int32} {o12 : Nat → Int32} {o13 : Nat → Int32} {o14 : Int32} {o15 : Int32} {o16 : Nat → Int32} {o17 : Nat → Int32} {o18 : Int32} {o19 : Int32} {o20 : Nat → Int32} {o21 : Nat → Int32} {o22 : Nat → Int32} {o23 : Nat → Int32} {o24 : Int32} {o25 : Int32} {o26 : Nat → Int32} {o27 : Nat → Int32} {o28 : Int32} {o29 : Int32} {o30 : Nat → Int32} {o31 : Nat → Int32} {o32 : Nat → Int32} {o33 : Nat → Int32} {o34 : Nat → Int32} {o35 : Nat → Int32} {q0 : Int32} {q1 : Int32} {q2 : Int32} {q3 : Int32} {q4 : Int32} {q5 : Int32} {q6 : Nat → Int32} {q7 : Nat → Int32} {q8 : Nat → Int32} {q9 : Nat → Int32}, f_X9_read (xi 60) (xi 61) (xi 62) (xi 64) (xa 56) (xa 57) (xi 2) (xi 13) (xa 9) (xa 0) (xi 14) (xi 15) (xi 3) (xi 4) 40 (xa 1) 40 (xa 10) (xi 16) (xi 17) (xi 5) (xi 6) 50 (xa 2) 50 (xa 11) (xi 18) (xi 19) (xi 7) (xi 8) 50 (xa 3) 50 (xa 12) (xa 13) (xa 4) (xi 20) (xi 21) (xi 9) (xi 10) 80 (xa 5) 80 (xa 14) (xi 22) (xi 23) (xi 11) (xi 12) 50 (xa 6) 50 (xa 15) (xa 16) (xa 7) (xa 17) (xa 8) = some (r, o0, o1, o2, o3, o4, o5, o6, o7, o8, o9, o10, o11, o12, o13, o14, o15, o16, o17, o18, o19, o20, o21, o22, o23, o24, o25, o26, o27, o28, o29, o30, o31, o32, o33, o34, o35) → f_X10_read (mi 8) (mi 12) (ma 15) (ma 17) (ma 16) (ma 0) (ma 3) = some (r, q0, q1, q2, q3, q4, q5, q6, q7, q8, q9) → INV (va_up (va_up (va_up (va_up (va_up (va_up (va_up (va_up (va_up (va_up (va_up (va_up (va_up (va_up (va_up (va_up (va_up xi 60 o0) 61 o1) 62 o2) 63 o3) 64 o4) 2 o6) 13 o7) 15 o10) 4 o11) 17 o14) 6 o15) 19 o18) 8 o19) 21 o24) 10 o25) 23 o28) 12 o29) (va_up (va_up (va_up (va_up (va_up (va_up (va_up (va_up (va_up (va_up (va_up (va_up (va_up (va_up (va_up (va_up (va_up (va_up (va_up xa 57 o5) 9 o8) 0 o9) 1 o12) 10 o13) 2 o16) 11 o17) 3 o20) 12 o21) 13 o22) 4 o23) 5 o26) 14 o27) 6 o30) 15 o31) 16 o32) 7 o33) 17 o34) 8 o35) (va_up (va_up (va_up (va_up (va_up (va_up mi 8 q0) 9 q1) 10 q2) 11 q3) 12 q4) 13 q5) (va_up (va_up (va_up (va_up ma 17 q6) 16 q7) 0 q8) 3 q9) → ∃ (r : Int32) (o0 : Int32) (o1 : Int32) (o2 : Int32) (o3 : Int32) (o4 : Int32) (o5 : (Nat → Int32)) (o6 : Int32) (o7 : Int32) (o8 : (Nat → Int32)) (o9 : (Nat → Int32)) (o10 : Int32) (o11 : Int32) (o12 : (Nat → Int32)) (o13 : (Nat → Int32)) (o14 : Int32) (o15 : Int32) (o16 : (Nat → Int32)) (o17 : (Nat → Int32)) (o18 : Int32) (o19 : Int32) (o20 : (Nat → Int32)) (o21 : (Nat → Int32)) (o22 : (Nat → Int32)) (o23 : (Nat → Int32)) (o24 : Int32) (o25 : Int32) (o26 : (Nat → Int32)) (o27 : (Nat → Int32)) (o28 : Int32) (o29 : Int32) (o30 : (Nat → Int32)) (o31 : (Nat → Int32)) (o32 : (Nat → Int32)) (o33 : (Nat → Int32)) (o34 : (Nat → Int32)) (o35 : (Nat → Int32)) (q0 : Int32) (q1 : Int32) (q2 : Int32) (q3 : Int32) (q4 : Int32) (q5 : Int32) (q6 : (Nat → Int32)) (q7 : (Nat → Int32)) (q8 : (Nat → Int32)) (q9 : (Nat → Int32)), f_X9_read (xi 60) (xi 61) (xi 62) (xi 64) (xa 56) (xa 57) (xi 2) (xi 13) (xa 9) (xa 0) (xi 14) (xi 15) (xi 3) (xi 4) 40 (xa 1) 40 (xa 10) (xi 16) (xi 17) (xi 5) (xi 6) 50 (xa 2) 50 (xa 11) (xi 18) (xi 19) (xi 7) (xi 8) 50 (xa 3) 50 (xa 12) (xa 13) (xa 4) (xi 20) (xi 21) (xi 9) (xi 10) 80 (xa 5) 80 (xa 14) (xi 22) (xi 23) (xi 11) (xi 12) 50 (xa 6) 50 (xa 15) (xa 16) (xa 7) (xa 17) (xa 8) = some (r, o0, o1, o2, o3, o4, o5, o6, o7, o8, o9, o10, o11, o12, o13, o14, o15, o16, o17, o18, o19, o20, o21, o22, o23, o24, o25, o26, o27, o28, o29, o30, o31, o32, o33, o34, o35) ∧ f_X10_read (mi 8) (mi 12) (ma 15) (ma 17) (ma 16) (ma 0) (ma 3) = some (r, q0, q1, q2, q3, q4, q5, q6, q7, q8, q9) ∧ INV (va_up (va_up (va_up (va_up (va_up (va_up (va_up (va_up (va_up (va_up (va_up (va_up (va_up (va_up (va_up (va_up (va_up xi 60 o0) 61 o1) 62 o2) 63 o3) 64 o4) 2 o6) 13 o7) 15 o10) 4 o11) 17 o14) 6 o15) 19 o18) 8 o19) 21 o24) 10 o25) 23 o28) 12 o29) (va_up (va_up (va_up (va_up (va_up (va_up (va_up (va_up (va_up (va_up (va_up (va_up (va_up (va_up (va_up (va_up (va_up (va_up (va_up xa 57 o5) 9 o8) 0 o9) 1 o12) 10 o13) 2 o16) 11 o17) 3 o20) 12 o21) 13 o22) 4 o23) 5 o26) 14 o27) 6 o30) 15 o31) 16 o32) 7 o33) 17 o34) 8 o35) (va_up (va_up (va_up (va_up (va_up (va_up mi 8 q0) 9 q1) 10 q2) 11 q3) 12 q4) 13 q5) (va_up (va_up (va_up (va_up ma 17 q6) 16 q7) 0 q8) 3 q9) := fun a b c => ⟨_, _, _, _, _, _, _, _, _, _, _, _, _, _, _, _, _, _, _, _, _, _, _, _, _, _, _, _, _, _, _, _, _, _, _, _, _, _, _, _, _, _, _, _, _, _, _, a, b, c⟩
  have xf := X_faultL hP J 0 (by omega) (Nat.le_refl _) FU (FU_big (by omega)) (xa 57) (xi 61) (xi 62) (xi 64)
  rw [hP.2.1] at xf
  rcases p3 with ⟨hE, hM⟩ | ⟨s, hs1, hs2, hE, hM⟩
  · obtain ⟨y', st', v', e', w', x1⟩ := xf.1 hE
    have x1' : f_X6_faultPlace_L1 (nI n) (xa 56) FU (xa 57) (xi 61) (xi 62) 0 (xi 64) 1 0 = some (y', st', v', e', w', 0) := x1
    obtain ⟨nums', verbs', a2, st2, tk2, v2, m1', mV, -⟩ := (M_readsL hP (Or.inr hM) J 0 (by omega) (Nat.le_refl _) FU (FU_big (by omega)) (mi 12) a st tk v1 hs0 (ma 17) (ma 16)).1 hM
    have m2' : f_X10_reads_L3 (nI n) (ma 15) FU (ma 17) (ma 16) a st tk v1 0 = some (3, nums', verbs', a2, st2, tk2, v2, nI J) := m1'
    obtain ⟨x9, y10, x11, y12, x13, y14, x15, y16, y17, x18, y19, x20, y21, y22, y23, d1, d2⟩ := copyL (FB_now hI) hI.2.1.1 (xa 9) (xa 10) (xa 11) (xa 12) (xa 13) (xa 14) (xa 15) (xa 16) (xa 17)
    obtain ⟨as', as1, as2, -⟩ := M_asideL (bk := ma 0) 460 0 rfl FU (FU_big (by decide)) (ma 3)
    have as1' : f_X10_read_L1 (ma 0) FU (ma 3) 0 = some as' := as1
    obtain ⟨q, c, xi', xa', ma', y2, st3, vv3, nx3, ww3, r1, r2, r3, r4, r5, r6, r7⟩ := readL hP hE (fun r hr => mV r (Nat.zero_le _) hr) J 0 (by omega) FU FU (FU_big (by omega)) (FU_big (by omega)) xi xa ma hI y' st' v' w'
    rw [hP.2.1] at r1
    have r1' : f_X9_read_L1 (nI n) (xa 56) (xi 3) 40 (xi 5) 50 (xi 7) 50 (xi 9) 80 (xi 11) 50 FU (xa 2) (xa 1) (xa 5) (xa 3) (xa 6) y' (xi 2) (xi 6) (xi 4) (xi 10) (xi 8) (xi 12) st' v' 0 w' 0 = some (q, xa' 2, xa' 1, xa' 5, xa' 3, xa' 6, y2, xi' 2, xi' 6, xi' 4, xi' 10, xi' 8, xi' 12, st3, vv3, nx3, ww3, nI c) := r1
    have r2' : f_X10_read_L2 (nI J) nums' verbs' FU (ma 0) 0 = some (q, ma' 0, nI c) := r2
    have hx60 : xi' 60 = xi 60 := r4 60 (by omega)
    rcases r7 with ⟨rfl, rfl⟩ | rfl
    · refine good (r := nI c) (o0 := 0) (o1 := st3) (o2 := vv3) (o3 := nx3) (o4 := ww3) (o5 := y2) (o6 := xi' 2) (o7 := x9) (o8 := y10) (o9 := xa 0) (o10 := x11) (o11 := xi' 4) (o12 := xa' 1) (o13 := y12) (o14 := x13) (o15 := xi' 6) (o16 := xa' 2) (o17 := y14) (o18 := x15) (o19 := xi' 8) (o20 := xa' 3) (o21 := y16) (o22 := y17) (o23 := xa 4) (o24 := x18) (o25 := xi' 10) (o26 := xa' 5) (o27 := y19) (o28 := x20) (o29 := xi' 12) (o30 := xa' 6) (o31 := y21) (o32 := y22) (o33 := xa 7) (o34 := y23) (o35 := xa 8) (q0 := 0) (q1 := a2) (q2 := st2) (q3 := tk2) (q4 := v2) (q5 := nI c) (q6 := nums') (q7 := verbs') (q8 := ma' 0) (q9 := as') ?_ ?_ ?_
      · unfold f_X9_read f_X6_faultPlace f_X6_goToStart f_X6_empty
        rw [hn1, bd1_s, x1', bd6_s, if_neg (by decide), bd6_s, if_pos rfl, d1, bd15_s, bd1_s, r1', bd18_s, if_neg (by decide), bd1_s]
      · unfold f_X10_read f_X10_reads
        rw [hn2, hs', bd4_s, m2', bd8_s, if_neg (by decide), if_neg (by decide), if_neg (by decide), bd8_s, if_neg one0, as1', bd1_s, r2', bd3_s, if_neg (by decide)]
      · refine INV_rd hI ?_ ?_ ?_ ?_ ?_
        · have hF := FB_now r3
          rw [r4 3 (by omega), r4 5 (by omega), r4 7 (by omega), r4 9 (by omega), r4 11 (by omega), r5 0 (by omega), r5 4 (by omega), r5 7 (by omega), r5 8 (by omega)] at hF
          simp (disch := omega) only [va_up_ne, va_up_self]
          exact hF
        · simp (disch := omega) only [va_up_ne, va_up_self]
          exact ⟨0, Nat.zero_le _, rfl, rfl, fun i hi => by omega⟩
        · intro k hk
          simp (disch := omega) only [va_up_ne]
        · intro k hk
          simp (disch := omega) only [va_up_ne]
        · intro k hk
          simp (disch := omega) only [va_up_ne]
    · have hF2 : FB x9 (xi 14) x11 (xi 16) x13 (xi 18) x15 (xi 20) x18 (xi 22) x20 y10 y12 y14 y16 y17 y19 y21 y22 y23 (ma 0) := d2
      obtain ⟨z1, z2, z4, z5, z7, z8, z10, z11, z14, z16, z17, z19, z20, z23, z26, f1, f2⟩ := copyL hF2 hL (xa 0) (xa' 1) (xa' 2) (xa' 3) (xa 4) (xa' 5) (xa' 6) (xa 7) (xa 8)
      obtain ⟨bk', bk1, bk2, -⟩ := M_backL (bk := as') 460 0 rfl FU (FU_big (by decide)) (ma' 0)
      have bk1' : f_X10_read_L3 as' FU (ma' 0) 0 = some bk' := bk1
      refine good (r := -1000 - nI c) (o0 := nI n) (o1 := st3) (o2 := vv3) (o3 := nx3) (o4 := ww3) (o5 := y2) (o6 := z1) (o7 := x9) (o8 := y10) (o9 := z2) (o10 := x11) (o11 := z4) (o12 := z5) (o13 := y12) (o14 := x13) (o15 := z7) (o16 := z8) (o17 := y14) (o18 := x15) (o19 := z10) (o20 := z11) (o21 := y16) (o22 := y17) (o23 := z14) (o24 := x18) (o25 := z16) (o26 := z17) (o27 := y19) (o28 := x20) (o29 := z19) (o30 := z20) (o31 := y21) (o32 := y22) (o33 := z23) (o34 := y23) (o35 := z26) (q0 := nI n) (q1 := a2) (q2 := st2) (q3 := tk2) (q4 := v2) (q5 := nI J) (q6 := nums') (q7 := verbs') (q8 := bk') (q9 := as') ?_ ?_ ?_
      · unfold f_X9_read f_X6_faultPlace f_X6_goToStart f_X6_empty
        rw [hn1, bd1_s, x1', bd6_s, if_neg (by decide), bd6_s, if_pos rfl, d1, bd15_s, bd1_s, r1', bd18_s, if_pos rfl, f1, bd15_s]
      · unfold f_X10_read f_X10_reads
        rw [hn2, hs', bd4_s, m2', bd8_s, if_neg (by decide), if_neg (by decide), if_neg (by decide), bd8_s, if_neg one0, as1', bd1_s, r2', bd3_s, if_pos rfl, bk1', bd1_s]
      · refine INV_rd hI ?_ ?_ ?_ ?_ ?_
        · simp (disch := omega) only [va_up_ne, va_up_self]
          exact FB_bk f2 (fun k hk => (bk2 k (Nat.zero_le _) hk).trans (as2 k (Nat.zero_le _) hk))
        · simp (disch := omega) only [va_up_ne, va_up_self]
          rw [hn1, hn2] at hTX
          exact hTX
        · intro k hk
          simp (disch := omega) only [va_up_ne]
        · intro k hk
          simp (disch := omega) only [va_up_ne]
        · intro k hk
          simp (disch := omega) only [va_up_ne]
  · obtain ⟨y', v', e', w', x1⟩ := xf.2 s hE
    have x1' : f_X6_faultPlace_L1 (nI n) (xa 56) FU (xa 57) (xi 61) (xi 62) 0 (xi 64) 1 0 = some (y', nI s, v', e', w', -1) := x1
    obtain ⟨q, nums', verbs', a2, tk2, v2, m1', m3⟩ := (M_readsL hP (Or.inl (by omega)) J 0 (by omega) (Nat.le_refl _) FU (FU_big (by omega)) (mi 12) a st tk v1 hs0 (ma 17) (ma 16)).2 s (by omega) hM
    have m2' : f_X10_reads_L3 (nI n) (ma 15) FU (ma 17) (ma 16) a st tk v1 0 = some (q, nums', verbs', a2, nI s, tk2, v2, nI J) := m1'
    have hsn : nI s ≠ -1 := nI_nm1 (by omega)
    refine good (r := -10 - nI s) (o0 := nI n) (o1 := nI s) (o2 := v') (o3 := e') (o4 := w') (o5 := y') (o6 := xi 2) (o7 := xi 13) (o8 := xa 9) (o9 := xa 0) (o10 := xi 15) (o11 := xi 4) (o12 := xa 1) (o13 := xa 10) (o14 := xi 17) (o15 := xi 6) (o16 := xa 2) (o17 := xa 11) (o18 := xi 19) (o19 := xi 8) (o20 := xa 3) (o21 := xa 12) (o22 := xa 13) (o23 := xa 4) (o24 := xi 21) (o25 := xi 10) (o26 := xa 5) (o27 := xa 14) (o28 := xi 23) (o29 := xi 12) (o30 := xa 6) (o31 := xa 15) (o32 := xa 16) (o33 := xa 7) (o34 := xa 17) (o35 := xa 8) (q0 := nI n) (q1 := a2) (q2 := nI s) (q3 := tk2) (q4 := v2) (q5 := nI J) (q6 := nums') (q7 := verbs') (q8 := ma 0) (q9 := ma 3) ?_ ?_ ?_
    · unfold f_X9_read f_X6_faultPlace f_X6_goToStart f_X6_empty
      rw [hn1, bd1_s, x1', bd6_s, if_pos rfl, bd6_s, if_neg hsn]
    · unfold f_X10_read f_X10_reads
      rw [hn2, hs', bd4_s, m2', bd8_s]
      rcases m3 with rfl | rfl | rfl
      · rw [if_pos rfl, bd8_s, if_pos rfl]
      · rw [if_neg (by decide), if_pos rfl, bd8_s, if_pos rfl]
      · rw [if_neg (by decide), if_neg (by decide), if_pos rfl, bd8_s, if_pos rfl]
    · refine INV_rd hI ?_ ?_ ?_ ?_ ?_
      · simp (disch := omega) only [va_up_ne, va_up_self]
        exact FB_now hI
      · simp (disch := omega) only [va_up_ne, va_up_self]
        rw [hn1, hn2] at hTX
        exact hTX
      · intro k hk
        simp (disch := omega) only [va_up_ne]
      · intro k hk
        simp (disch := omega) only [va_up_ne]
      · intro k hk
        simp (disch := omega) only [va_up_ne]
