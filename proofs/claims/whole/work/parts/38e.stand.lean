/-! ===== stand ===== -/
theorem bd11_s {t0 t1 t2 t3 t4 t5 t6 t7 t8 t9 t10 r : Type} (a0 : t0) (a1 : t1) (a2 : t2) (a3 : t3) (a4 : t4) (a5 : t5) (a6 : t6) (a7 : t7) (a8 : t8) (a9 : t9) (a10 : t10) (k : t0 → t1 → t2 → t3 → t4 → t5 → t6 → t7 → t8 → t9 → t10 → Option r) : bd11 (some (a0, a1, a2, a3, a4, a5, a6, a7, a8, a9, a10)) k = k a0 a1 a2 a3 a4 a5 a6 a7 a8 a9 a10 := rfl
/-- work rows and the two caches have changed -/
theorem INV_x {xi xi' : Nat → Int32} {xa xa' : Nat → Nat → Int32} {mi mi' : Nat → Int32} {ma ma' : Nat → Nat → Int32} (h : INV xi xa mi ma)
    (hA : ACI (xi' 50) (xi' 51) (xi' 47) (xi' 48) (xi' 49) (xa' 48)) (hF : FCI (xi' 56) (xi' 57) (xi' 55) (xi' 54) (xa' 54) (xa' 53))
    (hxi : ∀ k, (k ≤ 45 ∨ k = 60) → xi' k = xi k) (hxa : ∀ k, (k ≤ 35 ∨ k = 56) → xa' k = xa k) (hmi : mi' 8 = mi 8) (hma : ∀ k, (k ≤ 2 ∨ k = 15) → ma' k = ma k) : INV xi' xa' mi' ma' := by
  obtain ⟨h1, h2, h3, h4, h5, -, -⟩ := h
  unfold INV
  refine ⟨?_, ?_, ?_, ?_, ?_, hA, hF⟩
  · simp only [hxi 2 (by omega), hxi 3 (by omega), hxi 4 (by omega), hxi 5 (by omega), hxi 6 (by omega), hxi 7 (by omega), hxi 8 (by omega), hxi 9 (by omega), hxi 10 (by omega), hxi 11 (by omega), hxi 12 (by omega), hxa 0 (by omega), hxa 1 (by omega), hxa 2 (by omega), hxa 3 (by omega), hxa 4 (by omega), hxa 5 (by omega), hxa 6 (by omega), hxa 7 (by omega), hxa 8 (by omega), hma 0 (by omega)]
    exact h1
  · simp only [hxi 14 (by omega), hxi 16 (by omega), hxi 18 (by omega), hxi 20 (by omega), hxi 22 (by omega), hxi 25 (by omega), hxi 27 (by omega), hxi 29 (by omega), hxi 31 (by omega), hxi 33 (by omega), hxi 36 (by omega), hxi 38 (by omega), hxi 40 (by omega), hxi 42 (by omega), hxi 44 (by omega)]
    exact h2
  · simp only [hxi 0 (by omega), hxi 24 (by omega), hxi 25 (by omega), hxi 26 (by omega), hxi 27 (by omega), hxi 28 (by omega), hxi 29 (by omega), hxi 30 (by omega), hxi 31 (by omega), hxi 32 (by omega), hxi 33 (by omega), hxi 34 (by omega), hxa 18 (by omega), hxa 19 (by omega), hxa 20 (by omega), hxa 21 (by omega), hxa 22 (by omega), hxa 23 (by omega), hxa 24 (by omega), hxa 25 (by omega), hxa 26 (by omega), hma 1 (by omega), hma 2 (by omega)]
    exact h3
  · simp only [hxi 1 (by omega), hxi 35 (by omega), hxi 36 (by omega), hxi 37 (by omega), hxi 38 (by omega), hxi 39 (by omega), hxi 40 (by omega), hxi 41 (by omega), hxi 42 (by omega), hxi 43 (by omega), hxi 44 (by omega), hxi 45 (by omega), hxa 27 (by omega), hxa 28 (by omega), hxa 29 (by omega), hxa 30 (by omega), hxa 31 (by omega), hxa 32 (by omega), hxa 33 (by omega), hxa 34 (by omega), hxa 35 (by omega), hma 1 (by omega), hma 2 (by omega)]
    exact h4
  · simp only [hxi 60 (by omega), hmi, hxa 56 (by omega), hma 15 (by omega)]
    exact h5
theorem X_draw {ng st : Nat} {g nu : Nat → Int32} (h : SGX ng g) (hs1 : 1 ≤ st) (hst : st ≤ 20) (h1 : nu 1 = nI st) {lim siz ds tv : Int32} {cells row : Nat → Int32} (hC : FCI lim siz ds tv cells row) (as0 : Int32) (lo hh se wo : Nat → Int32) :
    ∃ (as' tv' ds' : Int32) (lo' hh' se' wo' row' : Nat → Int32) (siz' : Int32) (cells' : Nat → Int32), f_X2_draw nu as0 tv ds lo hh se (nI ng) 50 g wo row lim siz 50 cells = some (as', nI st, tv', ds', lo', hh', se', wo', row', siz', cells') ∧ StandS st ng g tv' row' ∧ FCI lim siz' ds' tv' cells' row' := by
  obtain ⟨rfl, hC⟩ := hC
  have hng := h.1
  have hA := h.2.2
  obtain ⟨lo', hh', se', t1, t2⟩ := X_signs h lo hh se
  obtain ⟨wo', w1, w2⟩ := X_yearL (st := st) hst hA t2 40 (Nat.le_refl _) FU (FU_big (by decide)) wo (fun y' m' x' a b c d => by omega)
  have w1' : f_X2_draw_L1 (nI (2 ^ atN g ng - 1)) (nI st) lo' hh' se' FU wo 39 = some wo' := w1
  obtain ⟨tv', row', f1, f2⟩ := X_follow hst hA t2 w2 row
  obtain ⟨c', c1, c2⟩ := X_rowCopy (L := 10) (c := ng) (n := 50) (cells := g) (cells' := cells) hng (by decide) rfl
  have c1' : f_X4_copyFrom (10 : Int32) (nI ng) 50 g 50 cells = some (nI ng, c') := c1
  have hF : FCI 10 (nI ng) (nI st) tv' c' row' := ⟨rfl, Or.inr ⟨ng, hng, rfl, by
    rw [vN_n (by omega)]
    exact StandS_c (fun i hi j hj => c2 _ (by omega)) f2⟩⟩
  unfold f_X2_draw
  rw [show gin (1 : Int32) 6 = true from by decide, chk_t, show (1 : Int32).toNatClampNeg = 1 from by decide, h1, nm_s]
  by_cases c : nI st = ds
  · rw [if_pos c]
    rcases hC with z | ⟨ng', n1, n2, n3⟩
    · exact absurd (c.trans z) (nI_ne0 (by omega) (by omega))
    · obtain ⟨r, r1, r2⟩ := likeAll (A := cells) (B := g) (a := ng') (b := ng) (n0 := 50) (m0 := 50) (by omega) (by omega) (by omega) (by omega) (by decide) (by decide)
      rw [n2, r1, bd1_s]
      rcases r2 with rfl | ⟨rfl, rfl, e⟩
      · rw [if_pos rfl, t1, bd4_s, draw12, w1', bd1_s, f1, bd2_s, c1', bd2_s]
        exact ⟨_, _, _, _, _, _, _, _, _, _, rfl, f2, hF⟩
      · rw [if_neg one0]
        rw [← c, vN_n (by omega)] at n3
        refine ⟨_, _, _, _, _, _, _, _, _, _, rfl, StandS_c (fun i hi j hj => (e i hi j (by omega)).symm) n3, rfl, Or.inr ⟨ng', n1, rfl, ?_⟩⟩
        rw [← c, vN_n (by omega)]
        exact n3
  · rw [if_neg c, t1, bd4_s, w1', bd1_s, f1, bd2_s, c1', bd2_s]
    exact ⟨_, _, _, _, _, _, _, _, _, _, rfl, f2, hF⟩
theorem q_stand : PP_stand INV := by
  intro xi xa mi ma hI p1
  obtain ⟨nc, nb, nd, nr, nf, ng, hF⟩ := FB_now hI
  obtain ⟨-, ⟨⟨n1, n2, n3, n4, n5, n6⟩, k0, k1, k2, k3, k4, k5⟩, ⟨s1, s2, s3, s4, s5, s6⟩, -, -, -, -, g5, -, g7, -, -⟩ := hF
  obtain ⟨sg, hat⟩ := g7
  have eat := ats_at (fun i hi j hj => (sg i hi).1 j hj) (fun i hi => (sg i hi).2) ng (Nat.le_refl _)
  have c0 : ∀ i, i < ng → xa 6 (5 * i) = ma 0 (370 + 4 * i) := fun i hi => (sg i hi).1 0 (by omega)
  have hX : SGX ng (xa 6) := ⟨n6, fun i hi => by
    obtain ⟨o1, o2, o3, o4, -⟩ := (sg i hi).2
    rw [c0 i hi, (sg i hi).1 1 (by omega), (sg i hi).1 2 (by omega), (sg i hi).1 3 (by omega)]
    exact ⟨o1, o2, o3, o4⟩, by rw [← eat]; exact hat⟩
  have hM : SG2 ng (xa 6) (ma 0) := ⟨n6, k5, fun i hi j hj => ((sg i hi).1 j hj).symm, hX.2.1, hX.2.2⟩
  obtain ⟨e0, -, ⟨⟨st, t1, t2⟩, t3⟩, -, -, -, -⟩ := g5
  rw [t2, vN_n (by omega)] at t3
  have hnu : xa 4 1 = nI st := by rw [e0 1 (by omega)]; exact t2
  have hpl : f_X10_places (ma 0) = some (nI (atN (xa 6) ng)) := by
    rw [← eat]
    exact M_places n6 k5 (fun i hi => (sg i hi).2.1)
  have hA : ACI (xi 50) (xi 51) (xi 47) (xi 48) (xi 49) (xa 48) := hI.2.2.2.2.2.1
  obtain ⟨as', tv', ds', lo', hh', se', wo', row', siz', cells', d1, ⟨d2, d2b⟩, d3⟩ := X_draw hX t3 t1 hnu hI.2.2.2.2.2.2 (xi 52) (xa 50) (xa 51) (xa 52) (xa 49)
  obtain ⟨m1, m2⟩ := M_stand hM t2 t1 hpl (mi 5) (ma 13)
  have hINV : ∀ q0 q1, INV (va_up (va_up (va_up (va_up (va_up xi 52 as') 53 (nI st)) 54 tv') 55 ds') 57 siz') (va_up (va_up (va_up (va_up (va_up (va_up xa 50 lo') 51 hh') 52 se') 49 wo') 53 row') 54 cells') (va_up mi 5 q0) (va_up ma 13 q1) := by
    intro q0 q1
    refine INV_x hI ?_ ?_ ?_ ?_ ?_ ?_
    · simp (disch := omega) only [va_up_ne]
      exact hA
    · simp (disch := omega) only [va_up_ne, va_up_self]
      exact d3
    · intro k hk
      simp (disch := omega) only [va_up_ne]
    · intro k hk
      simp (disch := omega) only [va_up_ne]
    · simp (disch := omega) only [va_up_ne]
    · intro k hk
      simp (disch := omega) only [va_up_ne]
  have tm : tvN st ng (xa 6) ≤ 1000000 := mnF_m _ _
  by_cases cm : p1 = -1
  · subst cm
    obtain ⟨q0, q1, m1⟩ := m1
    by_cases c : tvN st ng (xa 6) < 1000000
    · rw [if_pos c] at d2 m1
      refine ⟨_, _, _, _, _, _, _, _, _, _, _, _, q0, q1, ?_, m1, hINV q0 q1⟩
      unfold f_X9_stand f_X2_travel
      rw [if_pos rfl, s6, d1, bd11_s, bd1_s, d2, if_neg (nI_nm1 (by omega)), if_pos rfl, bd1_s]
    · rw [if_neg c] at d2 m1
      refine ⟨_, _, _, _, _, _, _, _, _, _, _, _, q0, q1, ?_, m1, hINV q0 q1⟩
      unfold f_X9_stand f_X2_travel
      rw [if_pos rfl, s6, d1, bd11_s, bd1_s, d2, if_pos rfl]
  · rcases rc p1 39 (by decide) with ⟨Y, hY, rfl⟩ | c1
    · obtain ⟨q0, q1, m3⟩ := m2 Y (by omega)
      have hw : f_X9_within (nI Y) 0 39 = some (bI ((0 : Int32) ≤ nI Y ∧ nI Y ≤ 39)) := within_eq _ _ _
      have hb : bI ((0 : Int32) ≤ nI Y ∧ nI Y ≤ 39) = 1 := bI_t ⟨nI_pos' (by omega), nI_le (b := 39) (by omega) (by decide)⟩
      by_cases c : tvN st ng (xa 6) < 1000000
      · rw [if_pos c] at d2 m3
        refine ⟨_, _, _, _, _, _, _, _, _, _, _, _, q0, q1, ?_, m3, hINV q0 q1⟩
        unfold f_X9_stand f_X2_travel f_X2_frontIn
        rw [if_neg cm, hw, bd1_s, hb, if_neg one0, s6, d1, bd11_s, bd1_s, d2, if_neg (nI_nm1 (by omega)), if_neg cm, if_neg (nI_pos (by omega)), if_neg (show ¬ (40 : Int32) ≤ nI Y from nI_ge (b := 40) (by omega) (by decide)), gin_n (by omega) (by decide), chk_t, cl_n (by omega), d2b c Y (by omega), bd1_s]
      · rw [if_neg c] at d2 m3
        refine ⟨_, _, _, _, _, _, _, _, _, _, _, _, q0, q1, ?_, m3, hINV q0 q1⟩
        unfold f_X9_stand f_X2_travel
        rw [if_neg cm, hw, bd1_s, hb, if_neg one0, s6, d1, bd11_s, bd1_s, d2, if_pos rfl]
    · have c1' : ¬ ((0 : Int32) ≤ p1 ∧ p1 ≤ 39) := c1
      refine ⟨-10, xi 52, xi 53, xi 54, xi 55, xa 50, xa 51, xa 52, xa 49, xa 53, xi 57, xa 54, mi 5, ma 13, ?_, ?_, ?_⟩
      · unfold f_X9_stand
        rw [if_neg cm, within_eq, bd1_s, bI_f c1', if_pos rfl]
      · unfold f_X10_stand
        rw [if_neg cm, in_0_39, bd1_s, bI_f c1', if_pos rfl]
      · simp only [va_id]
        exact hI
