/-! ===== what an item does ===== -/
theorem M_fact_c {bk : Nat → Int32} {p1 p2 p3 p4 p5 : Int32} (h : ¬ p2 = 1) : f_X10_fact bk p1 p2 p3 p4 p5 = f_X10_fact bk p1 p2 p3 p4 0 := by
  unfold f_X10_fact f_X10_isFact
  simp only [if_neg h]
theorem X_num {y : Nat → Int32} {j : Nat} (hj : j < 4) : f_X6_number y (nI j) = some (y j) := by
  unfold f_X6_number
  rw [if_neg (nI_pos (by omega)), if_neg (show ¬ (4 : Int32) ≤ nI j from nI_ge (b := 4) hj (by decide)), gin_n hj (by decide), chk_t, cl_n (by omega)]
theorem note {xi : Nat → Int32} {xa : Nat → Nat → Int32} {mi : Nat → Int32} {ma : Nat → Nat → Int32} (hI : INV xi xa mi ma) {w : Nat} (hw : w < 12) {y nums verbs : Nat → Int32} {K : Nat} (hK : K < 240) {v : Nat → Nat} (hy : ∀ j, j < dueN w → y j = nI (v j)) (hnm : ∀ j, j < dueN w → nums (4 * K + j) = nI (v j)) (hvb : verbs K = nI (10 + w)) :
    ∃ (r : Int32) (xi' : Nat → Int32) (xa' : Nat → Nat → Int32) (ma' : Nat → Nat → Int32), INV xi' xa' mi ma' ∧ (∀ k, (k ≠ 2 ∧ k ≠ 4 ∧ k ≠ 6 ∧ k ≠ 8 ∧ k ≠ 10 ∧ k ≠ 12) → xi' k = xi k) ∧ (∀ k, (k ≠ 1 ∧ k ≠ 2 ∧ k ≠ 3 ∧ k ≠ 5 ∧ k ≠ 6) → xa' k = xa k) ∧ (∀ k, k ≠ 0 → ma' k = ma k) ∧
      f_X9_noteItem (nI w) y (xi 2) (xi 3) (xi 4) 40 (xa 1) (xi 5) (xi 6) 50 (xa 2) (xi 7) (xi 8) 50 (xa 3) (xi 9) (xi 10) 80 (xa 5) (xi 11) (xi 12) 50 (xa 6) = some (r, xi' 2, xi' 4, xa' 1, xi' 6, xa' 2, xi' 8, xa' 3, xi' 10, xa' 5, xi' 12, xa' 6) ∧ f_X10_tellsItem nums verbs (ma 0) (nI K) = some (r, ma' 0) := by
  have y0 : f_X6_number y 0 = some (y 0) := X_num (j := 0) (by omega)
  have y1 : f_X6_number y 1 = some (y 1) := X_num (j := 1) (by omega)
  have y2 : f_X6_number y 2 = some (y 2) := X_num (j := 2) (by omega)
  have y3 : f_X6_number y 3 = some (y 3) := X_num (j := 3) (by omega)
  have i0 : (4 : Int32) * nI K = nI (4 * K) := pk_mul 4 K
  have i1 : nI (4 * K) + (1 : Int32) = nI (4 * K + 1) := nI_add _ 1
  have i2 : nI (4 * K) + (2 : Int32) = nI (4 * K + 2) := nI_add _ 2
  have i3 : nI (4 * K) + (3 : Int32) = nI (4 * K + 3) := nI_add _ 3
  have g0 : gin (nI (4 * K)) 960 = true := gin_n (by omega) (by decide)
  have g1 : gin (nI (4 * K + 1)) 960 = true := gin_n (by omega) (by decide)
  have g2 : gin (nI (4 * K + 2)) 960 = true := gin_n (by omega) (by decide)
  have g3 : gin (nI (4 * K + 3)) 960 = true := gin_n (by omega) (by decide)
  have gK : gin (nI K) 240 = true := gin_n hK (by decide)
  have c0 : (nI (4 * K)).toNatClampNeg = 4 * K := cl_n (by omega)
  have c1 : (nI (4 * K + 1)).toNatClampNeg = 4 * K + 1 := cl_n (by omega)
  have c2 : (nI (4 * K + 2)).toNatClampNeg = 4 * K + 2 := cl_n (by omega)
  have c3 : (nI (4 * K + 3)).toNatClampNeg = 4 * K + 3 := cl_n (by omega)
  have cK : (nI K).toNatClampNeg = K := cl_n (by omega)
  have cs : w = 0 ∨ w = 1 ∨ w = 2 ∨ w = 3 ∨ w = 4 ∨ w = 5 ∨ w = 6 ∨ w = 7 ∨ w = 8 ∨ w = 9 ∨ w = 10 ∨ w = 11 := by omega
  rcases cs with rfl | rfl | rfl | rfl | rfl | rfl | rfl | rfl | rfl | rfl | rfl | rfl
  · obtain ⟨r, o0, o1, q0, a1, a2, a3⟩ := q_cliff xi xa mi ma hI (y 0) (y 1)
    have e0 : nums (4 * K) = y 0 := by rw [hy 0 (by decide)]; exact hnm 0 (by decide)
    have e1 : nums (4 * K + 1) = y 1 := by rw [hy 1 (by decide)]; exact hnm 1 (by decide)
    refine ⟨r, va_up xi 4 o0, va_up xa 1 o1, va_up ma 0 q0, a3, ?_, ?_, ?_, ?_, ?_⟩
    · intro k hk
      simp (disch := omega) only [va_up_ne]
    · intro k hk
      simp (disch := omega) only [va_up_ne]
    · intro k hk
      simp (disch := omega) only [va_up_ne]
    · unfold f_X9_noteItem f_X6_word
      rw [bd1_s, y0, bd1_s, y1, bd1_s, y2, bd1_s, if_pos (show nI 0 < (9 : Int32) from by decide), if_pos (show nI 0 < (4 : Int32) from by decide), if_pos (show nI 0 = (0 : Int32) from rfl), a1, bd3_s]
      simp (disch := omega) only [va_up_ne, va_up_self]
    · unfold f_X10_tellsItem
      rw [i0, i1, i2, g0, chk_t, nm_s, g1, chk_t, nm_s, g2, chk_t, nm_s, gK, chk_t, nm_s, c0, c1, c2, cK, hvb, if_pos (show nI (10 + 0) = (10 : Int32) from rfl), e0, e1, a2, bd2_s, va_up_self]
  · obtain ⟨r, o0, o1, q0, a1, a2, a3⟩ := q_boulder xi xa mi ma hI (y 0) (y 1)
    have e0 : nums (4 * K) = y 0 := by rw [hy 0 (by decide)]; exact hnm 0 (by decide)
    have e1 : nums (4 * K + 1) = y 1 := by rw [hy 1 (by decide)]; exact hnm 1 (by decide)
    refine ⟨r, va_up xi 6 o0, va_up xa 2 o1, va_up ma 0 q0, a3, ?_, ?_, ?_, ?_, ?_⟩
    · intro k hk
      simp (disch := omega) only [va_up_ne]
    · intro k hk
      simp (disch := omega) only [va_up_ne]
    · intro k hk
      simp (disch := omega) only [va_up_ne]
    · unfold f_X9_noteItem f_X6_word
      rw [bd1_s, y0, bd1_s, y1, bd1_s, y2, bd1_s, if_pos (show nI 1 < (9 : Int32) from by decide), if_pos (show nI 1 < (4 : Int32) from by decide), if_neg (show ¬ nI 1 = (0 : Int32) from by decide), if_pos (show nI 1 = (1 : Int32) from rfl), a1, bd3_s]
      simp (disch := omega) only [va_up_ne, va_up_self]
    · unfold f_X10_tellsItem
      rw [i0, i1, i2, g0, chk_t, nm_s, g1, chk_t, nm_s, g2, chk_t, nm_s, gK, chk_t, nm_s, c0, c1, c2, cK, hvb, if_neg (show ¬ nI (10 + 1) = (10 : Int32) from by decide), if_pos (show nI (10 + 1) = (11 : Int32) from rfl), e0, e1, a2, bd2_s, va_up_self]
  · obtain ⟨r, o0, o1, q0, a1, a2, a3⟩ := q_scratch xi xa mi ma hI (y 0) (y 1)
    have e0 : nums (4 * K) = y 0 := by rw [hy 0 (by decide)]; exact hnm 0 (by decide)
    have e1 : nums (4 * K + 1) = y 1 := by rw [hy 1 (by decide)]; exact hnm 1 (by decide)
    refine ⟨r, va_up xi 8 o0, va_up xa 3 o1, va_up ma 0 q0, a3, ?_, ?_, ?_, ?_, ?_⟩
    · intro k hk
      simp (disch := omega) only [va_up_ne]
    · intro k hk
      simp (disch := omega) only [va_up_ne]
    · intro k hk
      simp (disch := omega) only [va_up_ne]
    · unfold f_X9_noteItem f_X6_word
      rw [bd1_s, y0, bd1_s, y1, bd1_s, y2, bd1_s, if_pos (show nI 2 < (9 : Int32) from by decide), if_pos (show nI 2 < (4 : Int32) from by decide), if_neg (show ¬ nI 2 = (0 : Int32) from by decide), if_neg (show ¬ nI 2 = (1 : Int32) from by decide), if_pos (show nI 2 = (2 : Int32) from rfl), a1, bd3_s]
      simp (disch := omega) only [va_up_ne, va_up_self]
    · unfold f_X10_tellsItem
      rw [i0, i1, i2, g0, chk_t, nm_s, g1, chk_t, nm_s, g2, chk_t, nm_s, gK, chk_t, nm_s, c0, c1, c2, cK, hvb, if_neg (show ¬ nI (10 + 2) = (10 : Int32) from by decide), if_neg (show ¬ nI (10 + 2) = (11 : Int32) from by decide), if_pos (show nI (10 + 2) = (12 : Int32) from rfl), e0, e1, a2, bd2_s, va_up_self]
  · obtain ⟨r, o0, q0, a1, a2, a3⟩ := q_ridge xi xa mi ma hI ()
    refine ⟨r, va_up xi 2 o0, xa, va_up ma 0 q0, a3, ?_, fun _ _ => rfl, ?_, ?_, ?_⟩
    · intro k hk
      simp (disch := omega) only [va_up_ne]
    · intro k hk
      simp (disch := omega) only [va_up_ne]
    · unfold f_X9_noteItem f_X6_word
      rw [bd1_s, y0, bd1_s, y1, bd1_s, y2, bd1_s, if_pos (show nI 3 < (9 : Int32) from by decide), if_pos (show nI 3 < (4 : Int32) from by decide), if_neg (show ¬ nI 3 = (0 : Int32) from by decide), if_neg (show ¬ nI 3 = (1 : Int32) from by decide), if_neg (show ¬ nI 3 = (2 : Int32) from by decide), if_pos (show nI 3 = (3 : Int32) from rfl), a1, bd2_s]
      simp (disch := omega) only [va_up_ne, va_up_self]
    · unfold f_X10_tellsItem
      rw [i0, i1, i2, g0, chk_t, nm_s, g1, chk_t, nm_s, g2, chk_t, nm_s, gK, chk_t, nm_s, c0, c1, c2, cK, hvb, if_neg (show ¬ nI (10 + 3) = (10 : Int32) from by decide), if_neg (show ¬ nI (10 + 3) = (11 : Int32) from by decide), if_neg (show ¬ nI (10 + 3) = (12 : Int32) from by decide), if_pos (show nI (10 + 3) = (13 : Int32) from rfl), a2, bd2_s, va_up_self]
  · obtain ⟨r, o0, o1, q0, a1, a2, a3⟩ := q_fact xi xa mi ma hI (y 0) 0 (y 1) (y 2) (y 3)
    have e0 : nums (4 * K) = y 0 := by rw [hy 0 (by decide)]; exact hnm 0 (by decide)
    have e1 : nums (4 * K + 1) = y 1 := by rw [hy 1 (by decide)]; exact hnm 1 (by decide)
    have e2 : nums (4 * K + 2) = y 2 := by rw [hy 2 (by decide)]; exact hnm 2 (by decide)
    refine ⟨r, va_up xi 10 o0, va_up xa 5 o1, va_up ma 0 q0, a3, ?_, ?_, ?_, ?_, ?_⟩
    · intro k hk
      simp (disch := omega) only [va_up_ne]
    · intro k hk
      simp (disch := omega) only [va_up_ne]
    · intro k hk
      simp (disch := omega) only [va_up_ne]
    · unfold f_X9_noteItem f_X6_word
      rw [bd1_s, y0, bd1_s, y1, bd1_s, y2, bd1_s, if_pos (show nI 4 < (9 : Int32) from by decide), if_neg (show ¬ nI 4 < (4 : Int32) from by decide), y3, bd1_s, show nI 4 - 4 = (0 : Int32) from by decide, a1, bd3_s]
      simp (disch := omega) only [va_up_ne, va_up_self]
    · rw [M_fact_c (show ¬ (0 : Int32) = 1 from by decide)] at a2
      unfold f_X10_tellsItem
      rw [i0, i1, i2, g0, chk_t, nm_s, g1, chk_t, nm_s, g2, chk_t, nm_s, gK, chk_t, nm_s, c0, c1, c2, cK, hvb, if_neg (show ¬ nI (10 + 4) = (10 : Int32) from by decide), if_neg (show ¬ nI (10 + 4) = (11 : Int32) from by decide), if_neg (show ¬ nI (10 + 4) = (12 : Int32) from by decide), if_neg (show ¬ nI (10 + 4) = (13 : Int32) from by decide), if_pos (show nI (10 + 4) = (14 : Int32) from rfl), if_neg (show ¬ nI (10 + 4) = (15 : Int32) from by decide), bd1_s, show nI (10 + 4) - 14 = (0 : Int32) from by decide, e0, e1, e2, a2, bd2_s, va_up_self]
  · obtain ⟨r, o0, o1, q0, a1, a2, a3⟩ := q_fact xi xa mi ma hI (y 0) 1 (y 1) (y 2) (y 3)
    have e0 : nums (4 * K) = y 0 := by rw [hy 0 (by decide)]; exact hnm 0 (by decide)
    have e1 : nums (4 * K + 1) = y 1 := by rw [hy 1 (by decide)]; exact hnm 1 (by decide)
    have e2 : nums (4 * K + 2) = y 2 := by rw [hy 2 (by decide)]; exact hnm 2 (by decide)
    have e3 : nums (4 * K + 3) = y 3 := by rw [hy 3 (by decide)]; exact hnm 3 (by decide)
    refine ⟨r, va_up xi 10 o0, va_up xa 5 o1, va_up ma 0 q0, a3, ?_, ?_, ?_, ?_, ?_⟩
    · intro k hk
      simp (disch := omega) only [va_up_ne]
    · intro k hk
      simp (disch := omega) only [va_up_ne]
    · intro k hk
      simp (disch := omega) only [va_up_ne]
    · unfold f_X9_noteItem f_X6_word
      rw [bd1_s, y0, bd1_s, y1, bd1_s, y2, bd1_s, if_pos (show nI 5 < (9 : Int32) from by decide), if_neg (show ¬ nI 5 < (4 : Int32) from by decide), y3, bd1_s, show nI 5 - 4 = (1 : Int32) from by decide, a1, bd3_s]
      simp (disch := omega) only [va_up_ne, va_up_self]
    · unfold f_X10_tellsItem
      rw [i0, i1, i2, g0, chk_t, nm_s, g1, chk_t, nm_s, g2, chk_t, nm_s, gK, chk_t, nm_s, c0, c1, c2, cK, hvb, if_neg (show ¬ nI (10 + 5) = (10 : Int32) from by decide), if_neg (show ¬ nI (10 + 5) = (11 : Int32) from by decide), if_neg (show ¬ nI (10 + 5) = (12 : Int32) from by decide), if_neg (show ¬ nI (10 + 5) = (13 : Int32) from by decide), if_neg (show ¬ nI (10 + 5) = (14 : Int32) from by decide), if_pos (show nI (10 + 5) = (15 : Int32) from rfl), i3, g3, chk_t, c3, if_pos (show nI (10 + 5) = (15 : Int32) from rfl), bd1_s, show nI (10 + 5) - 14 = (1 : Int32) from by decide, e0, e1, e2, e3, a2, bd2_s, va_up_self]
  · obtain ⟨r, o0, o1, q0, a1, a2, a3⟩ := q_fact xi xa mi ma hI (y 0) 2 (y 1) (y 2) (y 3)
    have e0 : nums (4 * K) = y 0 := by rw [hy 0 (by decide)]; exact hnm 0 (by decide)
    have e1 : nums (4 * K + 1) = y 1 := by rw [hy 1 (by decide)]; exact hnm 1 (by decide)
    have e2 : nums (4 * K + 2) = y 2 := by rw [hy 2 (by decide)]; exact hnm 2 (by decide)
    refine ⟨r, va_up xi 10 o0, va_up xa 5 o1, va_up ma 0 q0, a3, ?_, ?_, ?_, ?_, ?_⟩
    · intro k hk
      simp (disch := omega) only [va_up_ne]
    · intro k hk
      simp (disch := omega) only [va_up_ne]
    · intro k hk
      simp (disch := omega) only [va_up_ne]
    · unfold f_X9_noteItem f_X6_word
      rw [bd1_s, y0, bd1_s, y1, bd1_s, y2, bd1_s, if_pos (show nI 6 < (9 : Int32) from by decide), if_neg (show ¬ nI 6 < (4 : Int32) from by decide), y3, bd1_s, show nI 6 - 4 = (2 : Int32) from by decide, a1, bd3_s]
      simp (disch := omega) only [va_up_ne, va_up_self]
    · rw [M_fact_c (show ¬ (2 : Int32) = 1 from by decide)] at a2
      unfold f_X10_tellsItem
      rw [i0, i1, i2, g0, chk_t, nm_s, g1, chk_t, nm_s, g2, chk_t, nm_s, gK, chk_t, nm_s, c0, c1, c2, cK, hvb, if_neg (show ¬ nI (10 + 6) = (10 : Int32) from by decide), if_neg (show ¬ nI (10 + 6) = (11 : Int32) from by decide), if_neg (show ¬ nI (10 + 6) = (12 : Int32) from by decide), if_neg (show ¬ nI (10 + 6) = (13 : Int32) from by decide), if_neg (show ¬ nI (10 + 6) = (14 : Int32) from by decide), if_neg (show ¬ nI (10 + 6) = (15 : Int32) from by decide), if_pos (show nI (10 + 6) = (16 : Int32) from rfl), if_neg (show ¬ nI (10 + 6) = (15 : Int32) from by decide), bd1_s, show nI (10 + 6) - 14 = (2 : Int32) from by decide, e0, e1, e2, a2, bd2_s, va_up_self]
  · obtain ⟨r, o0, o1, q0, a1, a2, a3⟩ := q_fact xi xa mi ma hI (y 0) 3 (y 1) (y 2) (y 3)
    have e0 : nums (4 * K) = y 0 := by rw [hy 0 (by decide)]; exact hnm 0 (by decide)
    have e1 : nums (4 * K + 1) = y 1 := by rw [hy 1 (by decide)]; exact hnm 1 (by decide)
    have e2 : nums (4 * K + 2) = y 2 := by rw [hy 2 (by decide)]; exact hnm 2 (by decide)
    refine ⟨r, va_up xi 10 o0, va_up xa 5 o1, va_up ma 0 q0, a3, ?_, ?_, ?_, ?_, ?_⟩
    · intro k hk
      simp (disch := omega) only [va_up_ne]
    · intro k hk
      simp (disch := omega) only [va_up_ne]
    · intro k hk
      simp (disch := omega) only [va_up_ne]
    · unfold f_X9_noteItem f_X6_word
      rw [bd1_s, y0, bd1_s, y1, bd1_s, y2, bd1_s, if_pos (show nI 7 < (9 : Int32) from by decide), if_neg (show ¬ nI 7 < (4 : Int32) from by decide), y3, bd1_s, show nI 7 - 4 = (3 : Int32) from by decide, a1, bd3_s]
      simp (disch := omega) only [va_up_ne, va_up_self]
    · rw [M_fact_c (show ¬ (3 : Int32) = 1 from by decide)] at a2
      unfold f_X10_tellsItem
      rw [i0, i1, i2, g0, chk_t, nm_s, g1, chk_t, nm_s, g2, chk_t, nm_s, gK, chk_t, nm_s, c0, c1, c2, cK, hvb, if_neg (show ¬ nI (10 + 7) = (10 : Int32) from by decide), if_neg (show ¬ nI (10 + 7) = (11 : Int32) from by decide), if_neg (show ¬ nI (10 + 7) = (12 : Int32) from by decide), if_neg (show ¬ nI (10 + 7) = (13 : Int32) from by decide), if_neg (show ¬ nI (10 + 7) = (14 : Int32) from by decide), if_neg (show ¬ nI (10 + 7) = (15 : Int32) from by decide), if_neg (show ¬ nI (10 + 7) = (16 : Int32) from by decide), if_pos (show nI (10 + 7) = (17 : Int32) from rfl), if_neg (show ¬ nI (10 + 7) = (15 : Int32) from by decide), bd1_s, show nI (10 + 7) - 14 = (3 : Int32) from by decide, e0, e1, e2, a2, bd2_s, va_up_self]
  · obtain ⟨r, o0, o1, q0, a1, a2, a3⟩ := q_fact xi xa mi ma hI (y 0) 4 (y 1) (y 2) (y 3)
    have e0 : nums (4 * K) = y 0 := by rw [hy 0 (by decide)]; exact hnm 0 (by decide)
    have e1 : nums (4 * K + 1) = y 1 := by rw [hy 1 (by decide)]; exact hnm 1 (by decide)
    have e2 : nums (4 * K + 2) = y 2 := by rw [hy 2 (by decide)]; exact hnm 2 (by decide)
    refine ⟨r, va_up xi 10 o0, va_up xa 5 o1, va_up ma 0 q0, a3, ?_, ?_, ?_, ?_, ?_⟩
    · intro k hk
      simp (disch := omega) only [va_up_ne]
    · intro k hk
      simp (disch := omega) only [va_up_ne]
    · intro k hk
      simp (disch := omega) only [va_up_ne]
    · unfold f_X9_noteItem f_X6_word
      rw [bd1_s, y0, bd1_s, y1, bd1_s, y2, bd1_s, if_pos (show nI 8 < (9 : Int32) from by decide), if_neg (show ¬ nI 8 < (4 : Int32) from by decide), y3, bd1_s, show nI 8 - 4 = (4 : Int32) from by decide, a1, bd3_s]
      simp (disch := omega) only [va_up_ne, va_up_self]
    · rw [M_fact_c (show ¬ (4 : Int32) = 1 from by decide)] at a2
      unfold f_X10_tellsItem
      rw [i0, i1, i2, g0, chk_t, nm_s, g1, chk_t, nm_s, g2, chk_t, nm_s, gK, chk_t, nm_s, c0, c1, c2, cK, hvb, if_neg (show ¬ nI (10 + 8) = (10 : Int32) from by decide), if_neg (show ¬ nI (10 + 8) = (11 : Int32) from by decide), if_neg (show ¬ nI (10 + 8) = (12 : Int32) from by decide), if_neg (show ¬ nI (10 + 8) = (13 : Int32) from by decide), if_neg (show ¬ nI (10 + 8) = (14 : Int32) from by decide), if_neg (show ¬ nI (10 + 8) = (15 : Int32) from by decide), if_neg (show ¬ nI (10 + 8) = (16 : Int32) from by decide), if_neg (show ¬ nI (10 + 8) = (17 : Int32) from by decide), if_pos (show nI (10 + 8) = (18 : Int32) from rfl), if_neg (show ¬ nI (10 + 8) = (15 : Int32) from by decide), bd1_s, show nI (10 + 8) - 14 = (4 : Int32) from by decide, e0, e1, e2, a2, bd2_s, va_up_self]
  · obtain ⟨r, o0, o1, q0, a1, a2, a3⟩ := q_sign xi xa mi ma hI 0 (y 0) (y 1) (y 2)
    have e0 : nums (4 * K) = y 0 := by rw [hy 0 (by decide)]; exact hnm 0 (by decide)
    have e1 : nums (4 * K + 1) = y 1 := by rw [hy 1 (by decide)]; exact hnm 1 (by decide)
    have e2 : nums (4 * K + 2) = y 2 := by rw [hy 2 (by decide)]; exact hnm 2 (by decide)
    refine ⟨r, va_up xi 12 o0, va_up xa 6 o1, va_up ma 0 q0, a3, ?_, ?_, ?_, ?_, ?_⟩
    · intro k hk
      simp (disch := omega) only [va_up_ne]
    · intro k hk
      simp (disch := omega) only [va_up_ne]
    · intro k hk
      simp (disch := omega) only [va_up_ne]
    · unfold f_X9_noteItem f_X6_word
      rw [bd1_s, y0, bd1_s, y1, bd1_s, y2, bd1_s, if_neg (show ¬ nI 9 < (9 : Int32) from by decide), show nI 9 - 9 = (0 : Int32) from by decide, a1, bd3_s]
      simp (disch := omega) only [va_up_ne, va_up_self]
    · unfold f_X10_tellsItem
      rw [i0, i1, i2, g0, chk_t, nm_s, g1, chk_t, nm_s, g2, chk_t, nm_s, gK, chk_t, nm_s, c0, c1, c2, cK, hvb, if_neg (show ¬ nI (10 + 9) = (10 : Int32) from by decide), if_neg (show ¬ nI (10 + 9) = (11 : Int32) from by decide), if_neg (show ¬ nI (10 + 9) = (12 : Int32) from by decide), if_neg (show ¬ nI (10 + 9) = (13 : Int32) from by decide), if_neg (show ¬ nI (10 + 9) = (14 : Int32) from by decide), if_neg (show ¬ nI (10 + 9) = (15 : Int32) from by decide), if_neg (show ¬ nI (10 + 9) = (16 : Int32) from by decide), if_neg (show ¬ nI (10 + 9) = (17 : Int32) from by decide), if_neg (show ¬ nI (10 + 9) = (18 : Int32) from by decide), if_pos (show nI (10 + 9) = (19 : Int32) from rfl), show nI (10 + 9) - 19 = (0 : Int32) from by decide, e0, e1, e2, a2, bd2_s, va_up_self]
  · obtain ⟨r, o0, o1, q0, a1, a2, a3⟩ := q_sign xi xa mi ma hI 1 (y 0) (y 1) (y 2)
    have e0 : nums (4 * K) = y 0 := by rw [hy 0 (by decide)]; exact hnm 0 (by decide)
    have e1 : nums (4 * K + 1) = y 1 := by rw [hy 1 (by decide)]; exact hnm 1 (by decide)
    have e2 : nums (4 * K + 2) = y 2 := by rw [hy 2 (by decide)]; exact hnm 2 (by decide)
    refine ⟨r, va_up xi 12 o0, va_up xa 6 o1, va_up ma 0 q0, a3, ?_, ?_, ?_, ?_, ?_⟩
    · intro k hk
      simp (disch := omega) only [va_up_ne]
    · intro k hk
      simp (disch := omega) only [va_up_ne]
    · intro k hk
      simp (disch := omega) only [va_up_ne]
    · unfold f_X9_noteItem f_X6_word
      rw [bd1_s, y0, bd1_s, y1, bd1_s, y2, bd1_s, if_neg (show ¬ nI 10 < (9 : Int32) from by decide), show nI 10 - 9 = (1 : Int32) from by decide, a1, bd3_s]
      simp (disch := omega) only [va_up_ne, va_up_self]
    · unfold f_X10_tellsItem
      rw [i0, i1, i2, g0, chk_t, nm_s, g1, chk_t, nm_s, g2, chk_t, nm_s, gK, chk_t, nm_s, c0, c1, c2, cK, hvb, if_neg (show ¬ nI (10 + 10) = (10 : Int32) from by decide), if_neg (show ¬ nI (10 + 10) = (11 : Int32) from by decide), if_neg (show ¬ nI (10 + 10) = (12 : Int32) from by decide), if_neg (show ¬ nI (10 + 10) = (13 : Int32) from by decide), if_neg (show ¬ nI (10 + 10) = (14 : Int32) from by decide), if_neg (show ¬ nI (10 + 10) = (15 : Int32) from by decide), if_neg (show ¬ nI (10 + 10) = (16 : Int32) from by decide), if_neg (show ¬ nI (10 + 10) = (17 : Int32) from by decide), if_neg (show ¬ nI (10 + 10) = (18 : Int32) from by decide), if_neg (show ¬ nI (10 + 10) = (19 : Int32) from by decide), if_pos (show nI (10 + 10) = (20 : Int32) from rfl), show nI (10 + 10) - 19 = (1 : Int32) from by decide, e0, e1, e2, a2, bd2_s, va_up_self]
  · obtain ⟨r, o0, o1, q0, a1, a2, a3⟩ := q_sign xi xa mi ma hI 2 (y 0) (y 1) (y 2)
    have e0 : nums (4 * K) = y 0 := by rw [hy 0 (by decide)]; exact hnm 0 (by decide)
    have e1 : nums (4 * K + 1) = y 1 := by rw [hy 1 (by decide)]; exact hnm 1 (by decide)
    have e2 : nums (4 * K + 2) = y 2 := by rw [hy 2 (by decide)]; exact hnm 2 (by decide)
    refine ⟨r, va_up xi 12 o0, va_up xa 6 o1, va_up ma 0 q0, a3, ?_, ?_, ?_, ?_, ?_⟩
    · intro k hk
      simp (disch := omega) only [va_up_ne]
    · intro k hk
      simp (disch := omega) only [va_up_ne]
    · intro k hk
      simp (disch := omega) only [va_up_ne]
    · unfold f_X9_noteItem f_X6_word
      rw [bd1_s, y0, bd1_s, y1, bd1_s, y2, bd1_s, if_neg (show ¬ nI 11 < (9 : Int32) from by decide), show nI 11 - 9 = (2 : Int32) from by decide, a1, bd3_s]
      simp (disch := omega) only [va_up_ne, va_up_self]
    · unfold f_X10_tellsItem
      rw [i0, i1, i2, g0, chk_t, nm_s, g1, chk_t, nm_s, g2, chk_t, nm_s, gK, chk_t, nm_s, c0, c1, c2, cK, hvb, if_neg (show ¬ nI (10 + 11) = (10 : Int32) from by decide), if_neg (show ¬ nI (10 + 11) = (11 : Int32) from by decide), if_neg (show ¬ nI (10 + 11) = (12 : Int32) from by decide), if_neg (show ¬ nI (10 + 11) = (13 : Int32) from by decide), if_neg (show ¬ nI (10 + 11) = (14 : Int32) from by decide), if_neg (show ¬ nI (10 + 11) = (15 : Int32) from by decide), if_neg (show ¬ nI (10 + 11) = (16 : Int32) from by decide), if_neg (show ¬ nI (10 + 11) = (17 : Int32) from by decide), if_neg (show ¬ nI (10 + 11) = (18 : Int32) from by decide), if_neg (show ¬ nI (10 + 11) = (19 : Int32) from by decide), if_neg (show ¬ nI (10 + 11) = (20 : Int32) from by decide), if_pos (show nI (10 + 11) = (21 : Int32) from rfl), show nI (10 + 11) - 19 = (2 : Int32) from by decide, e0, e1, e2, a2, bd2_s, va_up_self]
