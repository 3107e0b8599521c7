/-! ===== fault, read ===== -/
theorem bd12_s {t0 t1 t2 t3 t4 t5 t6 t7 t8 t9 t10 t11 r : Type} (a0 : t0) (a1 : t1) (a2 : t2) (a3 : t3) (a4 : t4) (a5 : t5) (a6 : t6) (a7 : t7) (a8 : t8) (a9 : t9) (a10 : t10) (a11 : t11) (k : t0 → t1 → t2 → t3 → t4 → t5 → t6 → t7 → t8 → t9 → t10 → t11 → Option r) : bd12 (some (a0, a1, a2, a3, a4, a5, a6, a7, a8, a9, a10, a11)) k = k a0 a1 a2 a3 a4 a5 a6 a7 a8 a9 a10 a11 := rfl
theorem bd18_s {t0 t1 t2 t3 t4 t5 t6 t7 t8 t9 t10 t11 t12 t13 t14 t15 t16 t17 r : Type} (a0 : t0) (a1 : t1) (a2 : t2) (a3 : t3) (a4 : t4) (a5 : t5) (a6 : t6) (a7 : t7) (a8 : t8) (a9 : t9) (a10 : t10) (a11 : t11) (a12 : t12) (a13 : t13) (a14 : t14) (a15 : t15) (a16 : t16) (a17 : t17) (k : t0 → t1 → t2 → t3 → t4 → t5 → t6 → t7 → t8 → t9 → t10 → t11 → t12 → t13 → t14 → t15 → t16 → t17 → Option r) : bd18 (some (a0, a1, a2, a3, a4, a5, a6, a7, a8, a9, a10, a11, a12, a13, a14, a15, a16, a17)) k = k a0 a1 a2 a3 a4 a5 a6 a7 a8 a9 a10 a11 a12 a13 a14 a15 a16 a17 := rfl
theorem txT {t u : Int32} {x m : Nat → Int32} (h : TXI t u x m) : ∃ n tt, t = nI n ∧ u = nI n ∧ TB n x m tt := by
  obtain ⟨n, h1, h2, h3, h4⟩ := h
  refine ⟨n, fun i => vN (m i), h2, h3, h1, fun i hi => ?_⟩
  obtain ⟨e, q⟩ := h4 i hi
  have e2 := q.eq (by decide)
  exact ⟨by rw [e]; exact e2, e2, q.le (by decide)⟩
theorem q_fault : PP_fault INV := by
  intro xi xa mi ma hI _
  obtain ⟨n, tt, hn1, hn2, hT⟩ := txT hI.2.2.2.2.1
  have hn := hT.1
  obtain ⟨J, P, W, V, hP, p1, p2, p3⟩ := parse hT n 0 (by omega) 0 (Nat.le_refl _)
  obtain ⟨a, st, tk, v1, hs⟩ := scans_some hT (Nat.zero_le n) (mi 12)
  have hs0 : f_X10_scans (nI n) (nI (P 0)) (mi 12) (ma 15) = some (a, st, tk, v1) := by rw [hP.2.1]; exact hs
  have hs' : f_X10_scans (nI n) 0 (mi 12) (ma 15) = some (a, st, tk, v1) := hs
  have good : ∀ {r o0 o1 o2 o3 : Int32} {o4 : Nat → Int32} {q0 q1 q2 q3 q4 : Int32} {q5 q6 : Nat → Int32}, f_X9_fault (xi 60) (xi 61) (xi 62) (xi 64) (xa 56) (xa 57) = some (r, o0, o1, o2, o3, o4) → f_X10_fault (mi 8) (mi 12) (ma 15) (ma 17) (ma 16) = some (r, q0, q1, q2, q3, q4, q5, q6) → ∃ (r : Int32) (o0 : Int32) (o1 : Int32) (o2 : Int32) (o3 : Int32) (o4 : (Nat → Int32)) (q0 : Int32) (q1 : Int32) (q2 : Int32) (q3 : Int32) (q4 : Int32) (q5 : (Nat → Int32)) (q6 : (Nat → Int32)), f_X9_fault (xi 60) (xi 61) (xi 62) (xi 64) (xa 56) (xa 57) = some (r, o0, o1, o2, o3, o4) ∧ f_X10_fault (mi 8) (mi 12) (ma 15) (ma 17) (ma 16) = some (r, q0, q1, q2, q3, q4, q5, q6) ∧ INV (va_up (va_up (va_up (va_up xi 61 o0) 62 o1) 63 o2) 64 o3) (va_up xa 57 o4) (va_up (va_up (va_up (va_up (va_up mi 9 q0) 10 q1) 11 q2) 12 q3) 13 q4) (va_up (va_up ma 17 q5) 16 q6) := by
    intro r o0 o1 o2 o3 o4 q0 q1 q2 q3 q4 q5 q6 a b
    refine ⟨_, _, _, _, _, _, _, _, _, _, _, _, _, a, b, INV_wk hI ?_ ?_ ?_ ?_⟩
    · intro k hk
      simp (disch := omega) only [va_up_ne]
    · intro k hk
      simp (disch := omega) only [va_up_ne]
    · simp (disch := omega) only [va_up_ne]
    · intro k hk
      simp (disch := omega) only [va_up_ne]
  have xf := X_faultL hP J 0 (by omega) (Nat.le_refl _) FU (FU_big (by have := hP.2.2.2; omega)) (xa 57) (xi 61) (xi 62) (xi 64)
  rw [hP.2.1] at xf
  rcases p3 with ⟨hE, hM⟩ | ⟨s, hs1, hs2, hE, hM⟩
  · obtain ⟨y', st', v', e', w', x1⟩ := xf.1 hE
    have x1' : f_X6_faultPlace_L1 (nI n) (xa 56) FU (xa 57) (xi 61) (xi 62) 0 (xi 64) 1 0 = some (y', st', v', e', w', 0) := x1
    obtain ⟨nums', verbs', a2, st2, tk2, v2, m1', -⟩ := (M_readsL hP (Or.inr hM) J 0 (by omega) (Nat.le_refl _) FU (FU_big (by have := hP.2.2.2; omega)) (mi 12) a st tk v1 hs0 (ma 17) (ma 16)).1 hM
    have m2' : f_X10_reads_L3 (nI n) (ma 15) FU (ma 17) (ma 16) a st tk v1 0 = some (3, nums', verbs', a2, st2, tk2, v2, nI J) := m1'
    refine good (r := -1) (o0 := st') (o1 := v') (o2 := e') (o3 := w') (o4 := y') (q0 := a2) (q1 := st2) (q2 := tk2) (q3 := v2) (q4 := nI J) (q5 := nums') (q6 := verbs') ?_ ?_
    · unfold f_X9_fault f_X6_faultPlace f_X6_goToStart
      rw [hn1, bd1_s, x1', bd6_s, if_neg (by decide), bd6_s]
    · unfold f_X10_fault f_X10_reads
      rw [hn2, hs', bd4_s, m2', bd8_s, if_neg (by decide), if_neg (by decide), if_neg (by decide), bd8_s, if_neg one0]
  · obtain ⟨y', v', e', w', x1⟩ := xf.2 s hE
    have x1' : f_X6_faultPlace_L1 (nI n) (xa 56) FU (xa 57) (xi 61) (xi 62) 0 (xi 64) 1 0 = some (y', nI s, v', e', w', -1) := x1
    obtain ⟨q, nums', verbs', a2, tk2, v2, m1', m3⟩ := (M_readsL hP (Or.inl (by omega)) J 0 (by omega) (Nat.le_refl _) FU (FU_big (by have := hP.2.2.2; omega)) (mi 12) a st tk v1 hs0 (ma 17) (ma 16)).2 s (by omega) hM
    have m2' : f_X10_reads_L3 (nI n) (ma 15) FU (ma 17) (ma 16) a st tk v1 0 = some (q, nums', verbs', a2, nI s, tk2, v2, nI J) := m1'
    refine good (r := nI s) (o0 := nI s) (o1 := v') (o2 := e') (o3 := w') (o4 := y') (q0 := a2) (q1 := nI s) (q2 := tk2) (q3 := v2) (q4 := nI J) (q5 := nums') (q6 := verbs') ?_ ?_
    · unfold f_X9_fault f_X6_faultPlace f_X6_goToStart
      rw [hn1, bd1_s, x1', bd6_s, if_pos rfl, bd6_s]
    · unfold f_X10_fault f_X10_reads
      rw [hn2, hs', bd4_s, m2', bd8_s]
      rcases m3 with rfl | rfl | rfl
      · rw [if_pos rfl, bd8_s, if_pos rfl]
      · rw [if_neg (by decide), if_pos rfl, bd8_s, if_pos rfl]
      · rw [if_neg (by decide), if_neg (by decide), if_pos rfl, bd8_s, if_pos rfl]
