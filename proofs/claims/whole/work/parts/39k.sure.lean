/-! ===== sure ===== -/
theorem nI_n5 {o : Nat} (h : o < 2 ^ 31) : nI o ≠ -5 := fun z => by
  have := congrArg Int32.toInt z
  rw [nI_toInt h, show (-5 : Int32).toInt = -5 from by decide] at this
  omega
theorem bd14_s {t0 t1 t2 t3 t4 t5 t6 t7 t8 t9 t10 t11 t12 t13 r : Type} (a0 : t0) (a1 : t1) (a2 : t2) (a3 : t3) (a4 : t4) (a5 : t5) (a6 : t6) (a7 : t7) (a8 : t8) (a9 : t9) (a10 : t10) (a11 : t11) (a12 : t12) (a13 : t13) (k : t0 → t1 → t2 → t3 → t4 → t5 → t6 → t7 → t8 → t9 → t10 → t11 → t12 → t13 → Option r) : bd14 (some (a0, a1, a2, a3, a4, a5, a6, a7, a8, a9, a10, a11, a12, a13)) k = k a0 a1 a2 a3 a4 a5 a6 a7 a8 a9 a10 a11 a12 a13 := rfl
section SU
variable {sl fa nf nr : Nat} {g : Nat → Int32}
/-- what joinBest leaves: the bounds and the cuts -/
def JB (sl fa nf : Nat) (g : Nat → Int32) (o : Nat) (le gr cb : Nat → Int32) (L H : Nat → Int) (D : Nat → Nat → Nat) : Prop := R8 40000 le L ∧ R8 40000 gr H ∧ pB sl fa nf g (2 ^ nf - 1 - o) L H ∧ DR cb D ∧ CUT nf g (2 ^ nf - 1 - o) (fSol sl fa nf g (2 ^ nf - 1 - o) z0 z9 noX) D
theorem X_joinBest (hG : FG sl fa nf nr g) (hsl : 1 ≤ sl) {nu : Nat → Int32} (h4 : nu 4 = nI sl) (h5 : nu 5 = nI fa) {lim siz sS sF out : Int32} {cells : Nat → Int32} (hA : ACI lim siz sS sF out cells) (tk : Int32) (ro ol lw hg le gr cb : Nat → Int32) :
    ∃ (r tk' sS' sF' out' : Int32) (ro' ol' lw' hg' le' gr' : Nat → Int32) (siz' : Int32) (cells' cb' : Nat → Int32), f_X0_joinBest nu tk sS sF out (nI nf) 80 g ro ol lw hg le gr lim siz 80 cells cb = some (r, tk', sS', sF', out', ro', ol', lw', hg', le', gr', siz', cells', cb') ∧ ACI lim siz' sS' sF' out' cells' ∧ FewS sl fa nf g out' ∧ ((r = 0 ∧ out' = -5) ∨ (r = 1 ∧ ∃ o, o < 2 ^ nf ∧ out' = nI o ∧ ∃ L H D, JB sl fa nf g o le' gr' cb' L H D)) := by
  have hn := hG.1
  have hp := pw16 hn
  obtain ⟨r, tk1, sS1, sF1, ro1, ol1, lw1, hg1, le1, gr1, siz1, cells1, a1, a2, a3⟩ := X_leftOut hG hsl h4 h5 hA tk ro ol lw hg le gr
  unfold f_X0_joinBest
  rw [a1, bd13_s]
  rcases a2 with ⟨o, o1, rfl, o2, o3, o4⟩ | ⟨rfl, o1⟩
  · obtain ⟨r2, ro2, ol2, lw2, hg2, le2, gr2, b1, b2, b3⟩ := X_joinBy hG (S := 2 ^ nf - 1 - o) (by omega) h4 h5 ro1 ol1 lw1 hg1 le1 gr1
    obtain ⟨cb', D, c1, c2, c3⟩ := X_countCuts hG (S := 2 ^ nf - 1 - o) (by omega) b2 ((CONS_iff hG).mpr o3) cb
    rw [if_neg (nI_n5 (by omega)), bitsAll hn, bd1_s, cmpl hn o1, nm_s, b1, bd8_s, c1, bd1_s]
    rcases b3 with ⟨rfl, L, H, d1, d2, d3⟩ | ⟨rfl, d1⟩
    · exact ⟨1, _, _, _, _, _, _, _, _, _, _, _, _, _, rfl, a3, Or.inl ⟨o, o1, rfl, o2, o3, o4⟩, Or.inr ⟨rfl, o, o1, rfl, L, H, D, d1, d2, d3, c2, c3⟩⟩
    · exact absurd o3 d1
  · rw [if_pos rfl]
    exact ⟨0, _, _, _, _, _, _, _, _, _, _, _, _, _, rfl, a3, Or.inr ⟨rfl, o1⟩, Or.inl ⟨rfl, rfl⟩⟩
theorem X_leastOf {B : Int} {y : Nat → Int32} {l : Nat → Int} (h : R8 B y l) {a : Nat} (ha : a < 8) : f_X0_leastOf y (nI a) = some (iI (l a)) := by
  unfold f_X0_leastOf
  rw [if_neg (nI_pos (by omega)), if_neg (show ¬ (8 : Int32) ≤ nI a from nI_ge (b := 8) (by omega) (by decide)), gin_n (by omega) (by decide), chk_t, cl_n (by omega), (h a ha).1]
theorem X_greatestOf {B : Int} {y : Nat → Int32} {l : Nat → Int} (h : R8 B y l) {a : Nat} (ha : a < 8) : f_X0_greatestOf y (nI a) = some (iI (l a)) := by
  unfold f_X0_greatestOf
  rw [if_neg (nI_pos (by omega)), if_neg (show ¬ (8 : Int32) ≤ nI a from nI_ge (b := 8) (by omega) (by decide)), gin_n (by omega) (by decide), chk_t, cl_n (by omega), (h a ha).1]
theorem X_younger {o : Nat} {le gr cb : Nat → Int32} {L H : Nat → Int} {D : Nat → Nat → Nat} (h : JB sl fa nf g o le gr cb L H D) {a b : Nat} (ha : a < 8) (hb : b < 8) (hD : D a b ≤ 999) : (f_X0_isYounger cb gr le (nI a) (nI b) = some 1 ∧ (0 < D a b ∨ H a < L b)) ∨ (f_X0_isYounger cb gr le (nI a) (nI b) = some 0 ∧ ¬ (0 < D a b ∨ H a < L b)) := by
  obtain ⟨j1, j2, j3, j4, j5⟩ := h
  unfold f_X0_isYounger
  rw [X_cuts j4 ha hb, bd1_s]
  by_cases c : D a b = 0
  · have e1 := (j1 b hb).2
    have e2 := (j2 a ha).2
    rw [if_neg (show ¬ (0 : Int32) < nI (D a b) from nI_nlt (a := 0) (by omega) (by decide)), X_greatestOf j2 ha, bd1_s, X_leastOf j1 hb, bd1_s]
    have hle : iI (L b) ≤ iI (H a) ↔ L b ≤ H a := by rw [iI_le (by omega) (by omega) (by omega) (by omega)]
    by_cases d : L b ≤ H a
    · rw [if_pos (hle.mpr d)]
      exact Or.inr ⟨rfl, by omega⟩
    · rw [if_neg (fun z => d (hle.mp z))]
      exact Or.inl ⟨rfl, by omega⟩
  · rw [if_pos (show (0 : Int32) < nI (D a b) from nI_lt (a := 0) (by omega) (by omega))]
    exact Or.inl ⟨rfl, Or.inl (by omega)⟩
theorem sure_iff (hG : FG sl fa nf nr g) {S : Nat} {L H : Nat → Int} {D : Nat → Nat → Nat} (hB : pB sl fa nf g S L H) (hD : CUT nf g S (fSol sl fa nf g S z0 z9 noX) D) {a b : Nat} (ha : a < 8) (hb : b < 8) (hab : a ≠ b) : (∃ s, fSol sl fa nf g S z0 z9 (fun u v => u = b ∧ v = a) s) ↔ ¬ (0 < D a b ∨ H a < L b) := by
  constructor
  · rintro ⟨s, hs⟩ q
    obtain ⟨s1, s2, s3⟩ := (fSol_iff hG).mp hs
    have hs' : fSol sl fa nf g S z0 z9 noX s := (fSol_iff hG).mpr ⟨s1, s2, fun _ _ z => z.elim⟩
    have e := s3 b a ⟨rfl, rfl⟩
    rcases q with q | q
    · have := hD.1 a b ha hb q s hs'
      omega
    · have e1 := (hB.2.2 s hs' a ha).2
      have e2 := (hB.2.2 s hs' b hb).1
      omega
  · intro q
    have hm := hB.2.2 _ hB.1 a ha
    obtain ⟨x, x1, x2, x3⟩ : ∃ x : Int, L a ≤ x ∧ x ≤ H a ∧ L b ≤ x := by
      by_cases c : L a ≤ L b
      · exact ⟨L b, c, by omega, Int.le_refl _⟩
      · exact ⟨L a, Int.le_refl _, hm.2, by omega⟩
    have hs := upS_ok hG hB hD ha x1 x2
    obtain ⟨s1, s2, -⟩ := (fSol_iff hG).mp hs
    refine ⟨_, (fSol_iff hG).mpr ⟨s1, s2, ?_⟩⟩
    rintro u v ⟨rfl, rfl⟩
    unfold upS
    rw [if_neg (fun z => hab z.symm), if_neg (by omega), if_pos rfl]
    exact x3
end SU
theorem q_sure : PP_sure INV := by
  intro xi xa mi ma hI p1 p2
  obtain ⟨nr, nf, sl, fa, s2, s10, h4, h5, hsl, hG, hB⟩ := ageS hI
  have hn := hG.1
  have hr8 := hG.2.1
  have hp := pw16 hn
  have hAC : ACI (xi 50) (xi 51) (xi 47) (xi 48) (xi 49) (xa 48) := hI.2.2.2.2.2.1
  have good : ∀ {p1 p2 r o0 o1 o2 o3 : Int32} {o4 o5 o6 o7 o8 o9 : Nat → Int32} {o10 : Int32} {o11 o12 : Nat → Int32} {q0 q1 q2 q3 : Int32} {q4 q5 : Nat → Int32}, f_X9_sure (xi 2) (xa 4) (xi 46) (xi 47) (xi 48) (xi 49) (xi 10) 80 (xa 5) (xa 43) (xa 44) (xa 45) (xa 46) (xa 39) (xa 40) (xi 50) (xi 51) 80 (xa 48) (xa 47) p1 p2 = some (r, o0, o1, o2, o3, o4, o5, o6, o7, o8, o9, o10, o11, o12) → f_X10_sure (mi 0) (mi 1) (mi 2) (mi 3) (mi 4) (ma 0) (ma 9) (ma 10) p1 p2 = some (r, q0, q1, q2, q3, q4, q5) → ACI (xi 50) o10 o1 o2 o3 o11 → ∃ (r : Int32) (o0 : Int32) (o1 : Int32) (o2 : Int32) (o3 : Int32) (o4 : (Nat → Int32)) (o5 : (Nat → Int32)) (o6 : (Nat → Int32)) (o7 : (Nat → Int32)) (o8 : (Nat → Int32)) (o9 : (Nat → Int32)) (o10 : Int32) (o11 : (Nat → Int32)) (o12 : (Nat → Int32)) (q0 : Int32) (q1 : Int32) (q2 : Int32) (q3 : Int32) (q4 : (Nat → Int32)) (q5 : (Nat → Int32)), f_X9_sure (xi 2) (xa 4) (xi 46) (xi 47) (xi 48) (xi 49) (xi 10) 80 (xa 5) (xa 43) (xa 44) (xa 45) (xa 46) (xa 39) (xa 40) (xi 50) (xi 51) 80 (xa 48) (xa 47) p1 p2 = some (r, o0, o1, o2, o3, o4, o5, o6, o7, o8, o9, o10, o11, o12) ∧ f_X10_sure (mi 0) (mi 1) (mi 2) (mi 3) (mi 4) (ma 0) (ma 9) (ma 10) p1 p2 = some (r, q0, q1, q2, q3, q4, q5) ∧ INV (va_up (va_up (va_up (va_up (va_up xi 46 o0) 47 o1) 48 o2) 49 o3) 51 o10) (va_up (va_up (va_up (va_up (va_up (va_up (va_up (va_up xa 43 o4) 44 o5) 45 o6) 46 o7) 39 o8) 40 o9) 48 o11) 47 o12) (va_up (va_up (va_up (va_up mi 0 q0) 1 q1) 2 q2) 4 q3) (va_up (va_up ma 9 q4) 10 q5) := by
    intro p1 p2 r o0 o1 o2 o3 o4 o5 o6 o7 o8 o9 o10 o11 o12 q0 q1 q2 q3 q4 q5 a b c
    refine ⟨_, _, _, _, _, _, _, _, _, _, _, _, _, _, _, _, _, _, _, _, a, b, INV_x hI ?_ ?_ ?_ ?_ ?_ ?_⟩
    · simp (disch := omega) only [va_up_ne, va_up_self]
      exact c
    · simp (disch := omega) only [va_up_ne, va_up_self]
      exact hI.2.2.2.2.2.2
    · intro k hk
      simp (disch := omega) only [va_up_ne]
    · intro k hk
      simp (disch := omega) only [va_up_ne]
    · simp (disch := omega) only [va_up_ne]
    · intro k hk
      simp (disch := omega) only [va_up_ne]
  rcases rcR p1 nr (by omega) with ⟨a, ha, rfl⟩ | c1
  · have x1 := isRid_t ha (by omega)
    have m1 : f_X10_is (ma 0) 3 (nI a) = some (nI 1) := M_is_t (bk := ma 0) (k := 3) (by decide) hB.1 ha (by omega)
    rcases rcR p2 nr (by omega) with ⟨b, hb, rfl⟩ | c2
    · have x2 := isRid_t hb (by omega)
      have m2 : f_X10_is (ma 0) 3 (nI b) = some (nI 1) := M_is_t (bk := ma 0) (k := 3) (by decide) hB.1 hb (by omega)
      by_cases e : a = b
      · subst e
        refine good (r := -2) (o0 := xi 46) (o1 := xi 47) (o2 := xi 48) (o3 := xi 49) (o4 := xa 43) (o5 := xa 44) (o6 := xa 45) (o7 := xa 46) (o8 := xa 39) (o9 := xa 40) (o10 := xi 51) (o11 := xa 48) (o12 := xa 47) (q0 := mi 0) (q1 := mi 1) (q2 := mi 2) (q3 := mi 4) (q4 := ma 9) (q5 := ma 10) ?_ ?_ hAC
        · unfold f_X9_sure
          rw [s2, x1, bd1_s, if_neg n10, bd1_s, if_neg n10, if_pos rfl]
        · unfold f_X10_sure
          rw [m1, bd1_s, if_neg n10, bd1_s, if_neg n10, if_pos rfl]
      · have ne : ¬ nI a = nI b := fun z => e ((nI_eq (by omega) (by omega)).mp z)
        obtain ⟨r, tk', sS', sF', out', ro', ol', lw', hg', le', gr', siz', cells', cb', a1, a2, a3, a4⟩ := X_joinBest hG hsl h4 h5 hAC (xi 46) (xa 43) (xa 44) (xa 45) (xa 46) (xa 39) (xa 40) (xa 47)
        obtain ⟨r2, no', kn', mv', lo', hi', b1, b2⟩ := M_few hG hB (mi 0) (mi 1) (mi 2) (mi 3) (mi 4) (ma 9) (ma 10)
        have e2 := FewS_u a3 b2
        subst e2
        have xx : ∀ K, K = f_X9_sure (xi 2) (xa 4) (xi 46) (xi 47) (xi 48) (xi 49) (xi 10) 80 (xa 5) (xa 43) (xa 44) (xa 45) (xa 46) (xa 39) (xa 40) (xi 50) (xi 51) 80 (xa 48) (xa 47) (nI a) (nI b) → K = (if r = (0) then (some ((-5 : Int32), tk', sS', sF', out', ro', ol', lw', hg', le', gr', siz', cells', cb')) else (bd1 (f_X0_isYounger cb' gr' le' (nI a) (nI b)) (fun r24 => if r24 = (0) then (some ((0 : Int32), tk', sS', sF', out', ro', ol', lw', hg', le', gr', siz', cells', cb')) else (some ((1 : Int32), tk', sS', sF', out', ro', ol', lw', hg', le', gr', siz', cells', cb'))))) := by
          intro K hK
          rw [hK]
          unfold f_X9_sure
          rw [s2, x1, bd1_s, if_neg n10, x2, bd1_s, if_neg n10, if_neg ne, s10, a1, bd14_s]
        have mm : ∀ K, K = f_X10_sure (mi 0) (mi 1) (mi 2) (mi 3) (mi 4) (ma 0) (ma 9) (ma 10) (nI a) (nI b) → K = (if (0) ≤ out' then (bd1 (f_X10_all (ma 0)) (fun r16 => bd4 (f_X10_bounds (nI b) (nI a) (-1 : Int32) (mi 3) lo' hi' (ma 0) (r16 &&& (out' ^^^ (-1 : Int32)))) (fun r18 x19 y20 y21 => if r18 = (0) then (some ((1 : Int32), nI b, nI a, (-1 : Int32), x19, y20, y21)) else (some ((0 : Int32), nI b, nI a, (-1 : Int32), x19, y20, y21))))) else (some ((-5 : Int32), no', mi 1, kn', mv', lo', hi'))) := by
          intro K hK
          rw [hK]
          unfold f_X10_sure
          rw [m1, bd1_s, if_neg n10, m2, bd1_s, if_neg n10, if_neg ne, b1, bd6_s]
        have xx := xx _ rfl
        have mm := mm _ rfl
        rcases a4 with ⟨rfl, rfl⟩ | ⟨rfl, o, o1, rfl, L, H, D, j⟩
        · rw [if_pos rfl] at xx
          rw [if_neg (by decide)] at mm
          exact good xx mm a2
        · have jj := j
          obtain ⟨j1, j2, j3, j4, j5⟩ := j
          have hDB := (SND_b j5.1 ⟨L, j3.1, ((fSol_iff hG).mp j3.1).1⟩).1
          have iff := sure_iff hG j3 j5 (show a < 8 by omega) (show b < 8 by omega) e
          obtain ⟨r3, mv3, lo3, hi3, d1, d2⟩ := M_bounds hG hB (S := 2 ^ nf - 1 - o) (by omega) (no := nI b) (th := nI a) (known := -1) (kage := mi 3) (X := fun u v => u = b ∧ v = a) (lo0 := z0) (hi0 := z9) (Or.inr ⟨b, a, hb, ha, rfl, rfl, fun _ _ => Iff.rfl⟩) z09 (fun r hr => by
            rw [if_neg (nI_nm1 (by omega)), if_neg (nI_nm1 (by omega))]
            exact ⟨rfl, rfl⟩) lo' hi'
          rw [if_neg one0] at xx
          rw [if_pos (nI_pos' (by omega)), M_all hn hB.2.1, bd1_s, cmpl hn o1, d1, bd4_s] at mm
          rcases X_younger jj (show a < 8 by omega) (show b < 8 by omega) (hDB a b (by omega) (by omega)) with ⟨y1, y2⟩ | ⟨y1, y2⟩
          · rw [y1, bd1_s, if_neg one0] at xx
            rcases d2 with ⟨rfl, l', h', -, -, w⟩ | ⟨rfl, d2⟩
            · exact absurd y2 (iff.mp ⟨l', w.1⟩)
            · rw [if_pos rfl] at mm
              exact good xx mm a2
          · rw [y1, bd1_s, if_pos rfl] at xx
            rcases d2 with ⟨rfl, l', h', -, -, w⟩ | ⟨rfl, d2⟩
            · rw [if_neg one0] at mm
              exact good xx mm a2
            · exact absurd (iff.mpr y2) d2
    · refine good (r := -2) (o0 := xi 46) (o1 := xi 47) (o2 := xi 48) (o3 := xi 49) (o4 := xa 43) (o5 := xa 44) (o6 := xa 45) (o7 := xa 46) (o8 := xa 39) (o9 := xa 40) (o10 := xi 51) (o11 := xa 48) (o12 := xa 47) (q0 := mi 0) (q1 := mi 1) (q2 := mi 2) (q3 := mi 4) (q4 := ma 9) (q5 := ma 10) ?_ ?_ hAC
      · unfold f_X9_sure
        rw [s2, x1, bd1_s, if_neg n10, isRid_f c2, bd1_s, if_pos (by rfl)]
      · unfold f_X10_sure
        rw [m1, bd1_s, if_neg n10, show f_X10_is (ma 0) 3 p2 = some (nI 0) from M_is_f (k := 3) (by decide) hB.1 c2, bd1_s, if_pos (by rfl)]
  · refine good (r := -2) (o0 := xi 46) (o1 := xi 47) (o2 := xi 48) (o3 := xi 49) (o4 := xa 43) (o5 := xa 44) (o6 := xa 45) (o7 := xa 46) (o8 := xa 39) (o9 := xa 40) (o10 := xi 51) (o11 := xa 48) (o12 := xa 47) (q0 := mi 0) (q1 := mi 1) (q2 := mi 2) (q3 := mi 4) (q4 := ma 9) (q5 := ma 10) ?_ ?_ hAC
    · unfold f_X9_sure
      rw [s2, isRid_f c1, bd1_s, if_pos (by rfl)]
    · unfold f_X10_sure
      rw [show f_X10_is (ma 0) 3 p1 = some (nI 0) from M_is_f (k := 3) (by decide) hB.1 c1, bd1_s, if_pos (by rfl)]
