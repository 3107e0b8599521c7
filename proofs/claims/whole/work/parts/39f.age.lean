/-! ===== age, parted ===== -/
/-- what the invariant says of facts -/
theorem ageS {xi : Nat → Int32} {xa : Nat → Nat → Int32} {mi : Nat → Int32} {ma : Nat → Nat → Int32} (hI : INV xi xa mi ma) : ∃ nr nf sl fa : Nat, xi 2 = nI nr ∧ xi 10 = nI nf ∧ xa 4 4 = nI sl ∧ xa 4 5 = nI fa ∧ 1 ≤ sl ∧ FG sl fa nf nr (xa 5) ∧ FBK sl fa nf nr (xa 5) (ma 0) := by
  obtain ⟨nc, nb, nd, nr, nf, ng, hF⟩ := FB_now hI
  obtain ⟨-, ⟨⟨n1, n2, n3, n4, n5, n6⟩, k0, k1, k2, k3, k4, k5⟩, ⟨s1, s2, s3, s4, s5, s6⟩, -, -, -, -, g5, g6, -, -, -⟩ := hF
  obtain ⟨e0, -, -, -, -, ⟨⟨sl, a1, a2⟩, a3⟩, ⟨fa, b1, b2⟩, b3⟩ := g5
  rw [a2, vN_n (by omega)] at a3
  refine ⟨nr, nf, sl, fa, s4, s5, by rw [e0 4 (by omega)]; exact a2, by rw [e0 5 (by omega)]; exact b2, a3, ⟨n5, n4, a1, b1, fun i hi => OKf_c (g6 i hi).2 (fun j hj => ?_)⟩, k3, k4, a2, b2, fun i hi j hj => ((g6 i hi).1 j hj).symm⟩
  exact (g6 i hi).1 j hj
theorem bitsAll {nf : Nat} (hn : nf ≤ 16) : f_X0_bitsOfAll (nI nf) = some (nI (2 ^ nf - 1)) := by
  unfold f_X0_bitsOfAll f_X4_size
  rw [bd1_s, shl1 _ (by omega), show nI (2 ^ nf) - 1 = nI (2 ^ nf - 1) from pk_sub (b := 1) (Nat.two_pow_pos _)]
theorem pw16 {nf : Nat} (hn : nf ≤ 16) : 2 ^ nf ≤ 65536 := by
  have := Nat.pow_le_pow_right (n := 2) (by omega) hn
  omega
theorem R8_eq {sl fa nf S : Nat} {g : Nat → Int32} {lo lo' hi hi' : Nat → Int32} {l l' h h' : Nat → Int} (a : R8 40000 lo l) (b : R8 40000 hi h) (c : R8 40000 lo' l') (d : R8 40000 hi' h') (e : pB sl fa nf g S l h) (e' : pB sl fa nf g S l' h') : ∀ r, r < 8 → lo r = lo' r ∧ hi r = hi' r := fun r hr => by
  have := BST_u e e' r hr
  rw [(a r hr).1, (b r hr).1, (c r hr).1, (d r hr).1, this.1, this.2]
  exact ⟨rfl, rfl⟩
/-- the work rows of ages alone have changed -/
theorem INV_ag {xi xi' : Nat → Int32} {xa xa' : Nat → Nat → Int32} {mi mi' : Nat → Int32} {ma ma' : Nat → Nat → Int32} (h : INV xi xa mi ma) (hxi : ∀ k, k ≠ 46 → xi' k = xi k) (hxa : ∀ k, (k ≤ 38 ∨ 48 ≤ k) → xa' k = xa k) (hmi : ∀ k, 5 ≤ k → mi' k = mi k) (hma : ∀ k, (k ≤ 8 ∨ 13 ≤ k) → ma' k = ma k) : INV xi' xa' mi' ma' :=
  INV_wk h (fun k hk => hxi k (by omega)) (fun k hk => hxa k (by omega)) (hmi 8 (by omega)) (fun k hk => hma k (by omega))
theorem q_age : PP_age INV := by
  intro xi xa mi ma hI p1 p2 p3
  obtain ⟨nr, nf, sl, fa, s2, s10, h4, h5, hsl, hG, hB⟩ := ageS hI
  have hn := hG.1
  have hr8 := hG.2.1
  have hp := pw16 hn
  have hp1 := Nat.two_pow_pos nf
  have fin : ∀ o0 o1 o2 o3 o4 o5 o6 q0 q1 q2 q3 q4, INV (va_up xi 46 o0) (va_up (va_up (va_up (va_up (va_up (va_up xa 43 o1) 44 o2) 45 o3) 46 o4) 39 o5) 40 o6) (va_up (va_up (va_up mi 0 q0) 2 q1) 4 q2) (va_up (va_up ma 9 q3) 10 q4) := by
    intro o0 o1 o2 o3 o4 o5 o6 q0 q1 q2 q3 q4
    refine INV_ag hI ?_ ?_ ?_ ?_ <;> (intro k hk; simp (disch := omega) only [va_up_ne])
  have ball : f_X0_bitsOfAll (xi 10) = some (nI (2 ^ nf - 1)) := by rw [s10]; exact bitsAll hn
  have mall : ((1 : Int32) <<< (ma 0 (4 : Int32).toNatClampNeg &&& 31)) - 1 = nI (2 ^ nf - 1) := by
    rw [show ma 0 (4 : Int32).toNatClampNeg = nI nf from hB.2.1, shl1 _ (by omega)]
    exact pk_sub (b := 1) hp1
  have good : ∀ {p1 p2 p3 r o0 : Int32} {o1 o2 o3 o4 o5 o6 : Nat → Int32} {q0 q1 q2 : Int32} {q3 q4 : Nat → Int32}, f_X9_age (xi 2) (xi 10) (xi 46) 80 (xa 5) (xa 43) (xa 44) (xa 45) (xa 46) (xa 4) (xa 39) (xa 40) p1 p2 p3 = some (r, o0, o1, o2, o3, o4, o5, o6) → f_X10_age (mi 0) (mi 1) (mi 2) (mi 3) (mi 4) (ma 0) (ma 9) (ma 10) p1 p2 p3 = some (r, q0, q1, q2, q3, q4) → ∃ (r : Int32) (o0 : Int32) (o1 o2 o3 o4 o5 o6 : Nat → Int32) (q0 q1 q2 : Int32) (q3 q4 : Nat → Int32), f_X9_age (xi 2) (xi 10) (xi 46) 80 (xa 5) (xa 43) (xa 44) (xa 45) (xa 46) (xa 4) (xa 39) (xa 40) p1 p2 p3 = some (r, o0, o1, o2, o3, o4, o5, o6) ∧ f_X10_age (mi 0) (mi 1) (mi 2) (mi 3) (mi 4) (ma 0) (ma 9) (ma 10) p1 p2 p3 = some (r, q0, q1, q2, q3, q4) ∧ INV (va_up xi 46 o0) (va_up (va_up (va_up (va_up (va_up (va_up xa 43 o1) 44 o2) 45 o3) 46 o4) 39 o5) 40 o6) (va_up (va_up (va_up mi 0 q0) 2 q1) 4 q2) (va_up (va_up ma 9 q3) 10 q4) := fun a b => ⟨_, _, _, _, _, _, _, _, _, _, _, _, _, a, b, fin _ _ _ _ _ _ _ _ _ _ _ _⟩
  rcases rcR p1 nr (by omega) with ⟨a, ha, rfl⟩ | c1
  · have x1 := isRid_t ha (by omega)
    have m1 := M_is_t (bk := ma 0) (k := 3) (by decide) hB.1 ha (by omega)
    rcases rc p2 (2 ^ nf - 1) (by omega) with ⟨S, hS, rfl⟩ | c2
    · have x2 : f_X9_within (nI S) 0 (nI (2 ^ nf - 1)) = some 1 := by rw [within_eq, bI_t ⟨nI_pos' (by omega), nI_le hS (by omega)⟩]
      have m2 : f_X10_in (nI S).toInt64 0 (nI (2 ^ nf - 1)).toInt64 = some 1 := by rw [in_0y, bI_t ⟨nI_pos' (by omega), nI_le hS (by omega)⟩]
      rcases rc p3 1 (by decide) with ⟨w, hw, rfl⟩ | c3
      · have x3 : f_X9_within (nI w) 0 1 = some 1 := by rw [within_eq, bI_t ⟨nI_pos' (by omega), nI_le (b := 1) hw (by decide)⟩]
        have m3 : f_X10_in (nI w).toInt64 0 1 = some 1 := by rw [in_0_1, bI_t ⟨nI_pos' (by omega), nI_le (b := 1) hw (by decide)⟩]
        obtain ⟨r, ro', ol', lw', hg', lo', hi', a1, -, a2⟩ := X_joinBy hG (S := S) (by omega) h4 h5 (xa 43) (xa 44) (xa 45) (xa 46) (xa 39) (xa 40)
        obtain ⟨r2, mv, lo2, hi2, b1, b2⟩ := M_plain hG hB (S := S) (by omega) (mi 1) (mi 3) (ma 9) (ma 10)
        rcases a2 with ⟨rfl, l, h, d1, d2, d3⟩ | ⟨rfl, d1⟩
        · rcases b2 with ⟨rfl, l2, h2, e1, e2, e3⟩ | ⟨rfl, e1⟩
          · have eq := R8_eq d1 d2 e1 e2 d3 e3 a (by omega)
            have cs : w = 0 ∨ w = 1 := by omega
            rcases cs with rfl | rfl
            · refine good (r := lo' a) (o0 := nI nf) (o1 := ro') (o2 := ol') (o3 := lw') (o4 := hg') (o5 := lo') (o6 := hi') (q0 := -1) (q1 := -1) (q2 := mv) (q3 := lo2) (q4 := hi2) ?_ ?_
              · unfold f_X9_age
                rw [s2, x1, bd1_s, if_neg n10, ball, bd1_s, x2, bd1_s, if_neg one0, x3, bd1_s, if_neg one0, s10, a1, bd8_s, if_neg one0, if_pos (by rfl)]
                unfold f_X0_leastOf
                rw [if_neg (nI_pos (by omega)), if_neg (show ¬ (8 : Int32) ≤ nI a from nI_ge (b := 8) (by omega) (by decide)), gin_n (by omega) (by decide), chk_t, cl_n (by omega), bd1_s]
              · unfold f_X10_age
                rw [show f_X10_is (ma 0) 3 (nI a) = some (nI 1) from m1, bd1_s, if_neg n10, show gin (4 : Int32) 460 = true from by decide, chk_t, mall, m2, bd1_s, if_neg one0, m3, bd1_s, if_neg one0, b1, bd6_s, if_neg one0, if_pos (by rfl), gin_n (by omega) (by decide), chk_t, cl_n (by omega), eq.1]
            · refine good (r := hi' a) (o0 := nI nf) (o1 := ro') (o2 := ol') (o3 := lw') (o4 := hg') (o5 := lo') (o6 := hi') (q0 := -1) (q1 := -1) (q2 := mv) (q3 := lo2) (q4 := hi2) ?_ ?_
              · unfold f_X9_age
                rw [s2, x1, bd1_s, if_neg n10, ball, bd1_s, x2, bd1_s, if_neg one0, x3, bd1_s, if_neg one0, s10, a1, bd8_s, if_neg one0, if_neg n10]
                unfold f_X0_greatestOf
                rw [if_neg (nI_pos (by omega)), if_neg (show ¬ (8 : Int32) ≤ nI a from nI_ge (b := 8) (by omega) (by decide)), gin_n (by omega) (by decide), chk_t, cl_n (by omega), bd1_s]
              · unfold f_X10_age
                rw [show f_X10_is (ma 0) 3 (nI a) = some (nI 1) from m1, bd1_s, if_neg n10, show gin (4 : Int32) 460 = true from by decide, chk_t, mall, m2, bd1_s, if_neg one0, m3, bd1_s, if_neg one0, b1, bd6_s, if_neg one0, if_neg n10, gin_n (by omega) (by decide), chk_t, cl_n (by omega), eq.2]
          · exact absurd ⟨l, (SOL_iff hG).mp d3.1⟩ e1
        · rcases b2 with ⟨rfl, l2, h2, e1, e2, e3⟩ | ⟨rfl, e1⟩
          · exact absurd ⟨l2, (SOL_iff hG).mp e3.1⟩ d1
          · refine good (r := -5) (o0 := nI nf) (o1 := ro') (o2 := ol') (o3 := lw') (o4 := hg') (o5 := lo') (o6 := hi') (q0 := -1) (q1 := -1) (q2 := mv) (q3 := lo2) (q4 := hi2) ?_ ?_
            · unfold f_X9_age
              rw [s2, x1, bd1_s, if_neg n10, ball, bd1_s, x2, bd1_s, if_neg one0, x3, bd1_s, if_neg one0, s10, a1, bd8_s, if_pos rfl]
            · unfold f_X10_age
              rw [show f_X10_is (ma 0) 3 (nI a) = some (nI 1) from m1, bd1_s, if_neg n10, show gin (4 : Int32) 460 = true from by decide, chk_t, mall, m2, bd1_s, if_neg one0, m3, bd1_s, if_neg one0, b1, bd6_s, if_pos rfl]
      · have c3' : ¬ ((0 : Int32) ≤ p3 ∧ p3 ≤ 1) := c3
        refine good (r := -10) (o0 := xi 46) (o1 := xa 43) (o2 := xa 44) (o3 := xa 45) (o4 := xa 46) (o5 := xa 39) (o6 := xa 40) (q0 := mi 0) (q1 := mi 2) (q2 := mi 4) (q3 := ma 9) (q4 := ma 10) ?_ ?_
        · unfold f_X9_age
          rw [s2, x1, bd1_s, if_neg n10, ball, bd1_s, x2, bd1_s, if_neg one0, within_eq, bd1_s, bI_f c3', if_pos rfl]
        · unfold f_X10_age
          rw [show f_X10_is (ma 0) 3 (nI a) = some (nI 1) from m1, bd1_s, if_neg n10, show gin (4 : Int32) 460 = true from by decide, chk_t, mall, m2, bd1_s, if_neg one0, in_0_1, bd1_s, bI_f c3', if_pos rfl]
    · have c2' : ¬ ((0 : Int32) ≤ p2 ∧ p2 ≤ nI (2 ^ nf - 1)) := c2
      refine good (r := -10) (o0 := xi 46) (o1 := xa 43) (o2 := xa 44) (o3 := xa 45) (o4 := xa 46) (o5 := xa 39) (o6 := xa 40) (q0 := mi 0) (q1 := mi 2) (q2 := mi 4) (q3 := ma 9) (q4 := ma 10) ?_ ?_
      · unfold f_X9_age
        rw [s2, x1, bd1_s, if_neg n10, ball, bd1_s, within_eq, bd1_s, bI_f c2', if_pos rfl]
      · unfold f_X10_age
        rw [show f_X10_is (ma 0) 3 (nI a) = some (nI 1) from m1, bd1_s, if_neg n10, show gin (4 : Int32) 460 = true from by decide, chk_t, mall, in_0y, bd1_s, bI_f c2', if_pos rfl]
  · refine good (r := -10) (o0 := xi 46) (o1 := xa 43) (o2 := xa 44) (o3 := xa 45) (o4 := xa 46) (o5 := xa 39) (o6 := xa 40) (q0 := mi 0) (q1 := mi 2) (q2 := mi 4) (q3 := ma 9) (q4 := ma 10) ?_ ?_
    · unfold f_X9_age
      rw [s2, isRid_f c1, bd1_s, if_pos (by rfl)]
    · unfold f_X10_age
      rw [show f_X10_is (ma 0) 3 p1 = some (nI 0) from M_is_f (k := 3) (by decide) hB.1 c1, bd1_s, if_pos (by rfl)]
