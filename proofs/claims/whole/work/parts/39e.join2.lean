/-! ===== ages: the class's rounds ===== -/
section JN2
variable {sl fa nf nr S : Nat} {g : Nat → Int32}
theorem X_movesL (hG : FG sl fa nf nr g) (hS : S < 2 ^ 16) {ro ol lw hg : Nat → Int32} (hT : ∀ q, q < nf → TK sl fa g ro ol lw hg q) : ∀ n i, i + n = nf → ∀ fu, n < fu → ∀ (B : Int) (lo hi : Nat → Int32) (l h : Nat → Int) (m : Int32), 30000 ≤ B → B + n ≤ 900000 → (m = 0 ∨ m = 1) → R8 B lo l → R8 B hi h →
    ∃ m1 lo1 hi1 l1 h1, f_X0_moveByCuts_L1 (nI nf) ol (nI S) ro fu hi lo m (nI i) = some (hi1, lo1, m1) ∧ R8 (B + n) lo1 l1 ∧ R8 (B + n) hi1 h1 ∧ STEP (fSol sl fa nf g S z0 z9 noX) nr l h m l1 h1 m1 ∧ ∀ q, i ≤ q → q < nf → S.testBit q = true → vN (g (5 * q + 1)) = 0 → l (vN (g (5 * q + 2))) + 1 ≤ l1 (vN (g (5 * q + 3))) ∧ h1 (vN (g (5 * q + 2))) + 1 ≤ h (vN (g (5 * q + 3))) := by
  have hn := hG.1
  intro n
  induction n with
  | zero =>
    intro i hi fu hfu B lo hi' l h m h1 h2 hm hl hh
    obtain ⟨fu, rfl⟩ : ∃ n, fu = n + 1 := ⟨fu - 1, by omega⟩
    obtain rfl : i = nf := by omega
    refine ⟨m, lo, hi', l, h, ?_, hl.mono (by omega), hh.mono (by omega), STEP.rf hm, fun q a b => by omega⟩
    unfold f_X0_moveByCuts_L1
    rw [if_pos (Int32.le_refl _)]
  | succ n ih =>
    intro i hi fu hfu B lo hi' l h m h1 h2 hm hl hh
    obtain ⟨fu, rfl⟩ : ∃ n, fu = n + 1 := ⟨fu - 1, by omega⟩
    obtain ⟨t1, t2, t3, t4⟩ := hT i (by omega)
    obtain ⟨k1, k2, k3, k4, k5, k6, k7⟩ := fg_k hG (show i < nf by omega)
    have skip : (S.testBit i = true → vN (g (5 * i + 1)) ≠ 0) → f_X0_moveByCuts_L1 (nI nf) ol (nI S) ro (fu + 1) hi' lo m (nI i) = f_X0_moveByCuts_L1 (nI nf) ol (nI S) ro fu hi' lo m (nI (i + 1)) := by
      intro hsk
      conv => lhs; unfold f_X0_moveByCuts_L1
      rw [if_neg (nI_ge (by omega) (by omega)), gin_n (by omega) (by decide), chk_t, nm_s, cl_n (by omega), bitI hS (by omega), nI_1]
      by_cases c : S.testBit i = true
      · rw [if_pos c, if_neg n10, t2, if_neg (hsk c), if_pos rfl]
      · rw [if_neg c, if_pos (by rfl)]
    by_cases c : S.testBit i = true ∧ vN (g (5 * i + 1)) = 0
    · obtain ⟨e1, e2, e3⟩ := k6 c.2
      rw [if_pos c.2] at t2
      have hF : ∀ s, fSol sl fa nf g S z0 z9 noX s → s (vN (g (5 * i + 2))) + 1 ≤ s (vN (g (5 * i + 3))) := fun s hs => (((fSol_iff hG).mp hs).2.1 i (by omega) c.1).1 c.2
      generalize hA : vN (g (5 * i + 2)) = A at *
      generalize hV : vN (g (5 * i + 3)) = V at *
      have lA := hl A k3
      have lV := hl V e2
      have hA' := hh A k3
      have hV' := hh V e2
      have s1 : ∃ m1 lo1, (if lo A < lo V then some (lo, m) else some (upd lo V (lo A + 1), (1 : Int32))) = some (lo1, m1) ∧ R8 (B + 1) lo1 (upI l V (l A + 1)) ∧ (m1 = 0 ∨ m1 = 1) ∧ (m1 = 0 → m = 0 ∧ l A + 1 ≤ l V) ∧ (m1 = 1 → m = 1 ∨ l V < l A + 1) := by
        have hlt : lo A < lo V ↔ l A < l V := by rw [lA.1, lV.1, iI_lt (by omega) (by omega) (by omega) (by omega)]
        by_cases d : l A < l V
        · rw [if_pos (hlt.mpr d)]
          refine ⟨m, lo, rfl, ?_, hm, fun z => ⟨z, by omega⟩, fun z => Or.inl z⟩
          intro q hq
          unfold upI
          have := hl q hq
          by_cases e : q = V
          · subst e; rw [if_pos rfl, if_pos (by omega)]; exact ⟨this.1, by omega, by omega⟩
          · rw [if_neg e]; exact ⟨this.1, by omega, by omega⟩
        · rw [if_neg (fun z => d (hlt.mp z))]
          refine ⟨1, _, rfl, ?_, Or.inr rfl, fun z => absurd z (by decide), fun z => Or.inr (by omega)⟩
          intro q hq
          unfold upI
          have := hl q hq
          by_cases e : q = V
          · subst e; rw [if_pos rfl, if_neg (by omega), upd_s, lA.1, show (1 : Int32) = iI 1 from rfl, iI_add]; exact ⟨rfl, by omega, by omega⟩
          · rw [if_neg e, upd_n _ _ e]; exact ⟨this.1, by omega, by omega⟩
      obtain ⟨m1, lo1, a1, a2, a3, a4, a5⟩ := s1
      have s2 : ∃ m2 hi1, (if hi' A < hi' V then f_X0_moveByCuts_L1 (nI nf) ol (nI S) ro fu hi' lo1 m1 (nI (i + 1)) else f_X0_moveByCuts_L1 (nI nf) ol (nI S) ro fu (upd hi' A (hi' V - 1)) lo1 1 (nI (i + 1))) = f_X0_moveByCuts_L1 (nI nf) ol (nI S) ro fu hi1 lo1 m2 (nI (i + 1)) ∧ R8 (B + 1) hi1 (dnI h A (h V - 1)) ∧ (m2 = 0 ∨ m2 = 1) ∧ (m2 = 0 → m1 = 0 ∧ h A ≤ h V - 1) ∧ (m2 = 1 → m1 = 1 ∨ h V - 1 < h A) := by
        have hlt : hi' A < hi' V ↔ h A < h V := by rw [hA'.1, hV'.1, iI_lt (by omega) (by omega) (by omega) (by omega)]
        by_cases d : h A < h V
        · rw [if_pos (hlt.mpr d)]
          refine ⟨m1, hi', rfl, ?_, a3, fun z => ⟨z, by omega⟩, fun z => Or.inl z⟩
          intro q hq
          unfold dnI
          have := hh q hq
          by_cases e : q = A
          · subst e; rw [if_pos rfl, if_pos (by omega)]; exact ⟨this.1, by omega, by omega⟩
          · rw [if_neg e]; exact ⟨this.1, by omega, by omega⟩
        · rw [if_neg (fun z => d (hlt.mp z))]
          refine ⟨1, _, rfl, ?_, Or.inr rfl, fun z => absurd z (by decide), fun z => Or.inr (by omega)⟩
          intro q hq
          unfold dnI
          have := hh q hq
          by_cases e : q = A
          · subst e; rw [if_pos rfl, if_neg (by omega), upd_s, hV'.1, show (1 : Int32) = iI 1 from rfl, iI_sub]; exact ⟨rfl, by omega, by omega⟩
          · rw [if_neg e, upd_n _ _ e]; exact ⟨this.1, by omega, by omega⟩
      obtain ⟨m2, hi1, b1, b2, b3, b4, b5⟩ := s2
      have st : STEP (fSol sl fa nf g S z0 z9 noX) nr l h m (upI l V (l A + 1)) (dnI h A (h V - 1)) m2 :=
        (STEP_up e1 e2 (fun s hs q => by have := hF s hs; have := (q A k3).1; omega) a3 a4 a5).tr (STEP_dn k2 k3 (fun s hs q => by have := hF s hs; have := (q V e2).2; omega) b3 b4 b5)
      obtain ⟨m3, lo2, hi2, l2, h2', c1, c2, c3, c4, c5⟩ := ih (i + 1) (by omega) fu (by omega) (B + 1) lo1 hi1 _ _ m2 (by omega) (by omega) b3 a2 b2
      refine ⟨m3, lo2, hi2, l2, h2', ?_, c2.mono (by omega), c3.mono (by omega), st.tr c4, fun q q1 q2 q3 q4 => ?_⟩
      · unfold f_X0_moveByCuts_L1
        rw [if_neg (nI_ge (by omega) (by omega)), gin_n (by omega) (by decide), chk_t, nm_s, cl_n (by omega), bitI hS (by omega), nI_1, if_pos c.1, if_neg n10, t2, if_neg (nI_nm1 (by omega)), chk_t, nm_s, t1, gin_n e2 (by decide), gin_n k3 (by decide), chk_t, chk_t, cl_n (by omega), cl_n (by omega)]
        simp only [chk_t, nm_s]
        rw [a1, bd2_s, b1]
        exact c1
      · by_cases e : q = i
        · subst e
          rw [hA, hV]
          have w1 := upI_r l V (l A + 1)
          have w2 := dnI_r h A (h V - 1)
          have w3 := c4.1 V e2
          have w4 := c4.1 A k3
          omega
        · have z := c5 q (by omega) q2 q3 q4
          obtain ⟨u1, u2, u3, u4, u5, u6, u7⟩ := fg_k hG q2
          have w1 := upI_le l V (l A + 1) (vN (g (5 * q + 2)))
          have w2 := dnI_le h A (h V - 1) (vN (g (5 * q + 3)))
          omega
    · obtain ⟨m3, lo2, hi2, l2, h2', c1, c2, c3, c4, c5⟩ := ih (i + 1) (by omega) fu (by omega) B lo hi' l h m (by omega) (by omega) hm hl hh
      refine ⟨m3, lo2, hi2, l2, h2', ?_, c2.mono (by omega), c3.mono (by omega), c4, fun q q1 q2 q3 q4 => ?_⟩
      · rw [skip (fun z w => c ⟨z, w⟩)]
        exact c1
      · by_cases e : q = i
        · subst e; exact absurd ⟨q3, q4⟩ c
        · exact c5 q (by omega) q2 q3 q4
theorem ACC_of {l h l' h' : Nat → Int} {i : Nat} (h0 : vN (g (5 * i + 1)) = 0 → l (vN (g (5 * i + 2))) + 1 ≤ l' (vN (g (5 * i + 3))) ∧ h' (vN (g (5 * i + 2))) + 1 ≤ h (vN (g (5 * i + 3)))) (h1 : (lowN sl g i : Int) ≤ l' (vN (g (5 * i + 2))) ∧ h' (vN (g (5 * i + 2))) ≤ (highN fa g i : Int)) : ACC sl fa g l h l' h' i := by
  unfold lowN highN at h1
  refine ⟨h0, fun c => ?_, fun c => ?_, fun c => ?_, fun c => ?_⟩
  · rw [c] at h1; exact h1
  · rw [c] at h1; exact h1
  · rw [c] at h1; exact h1.2
  · rw [c] at h1; exact h1.1
theorem X_roundsL (hG : FG sl fa nf nr g) (hS : S < 2 ^ 16) {ro ol lw hg : Nat → Int32} (hT : ∀ q, q < nf → TK sl fa g ro ol lw hg q) : ∀ n k : Nat, k + n = 8 → ∀ fu, n < fu → ∀ (lo hi : Nat → Int32) (l h : Nat → Int) (mv : Int32), R8 (30000 + 17 * (k : Int)) lo l → R8 (30000 + 17 * (k : Int)) hi h → (∀ s, fSol sl fa nf g S z0 z9 noX s → ∀ r, r < 8 → l r ≤ s r ∧ s r ≤ h r) → (∀ r, r < 8 → z0 r ≤ l r ∧ h r ≤ z9 r) → (∀ q, q < nf → S.testBit q = true → (lowN sl g q : Int) ≤ l (vN (g (5 * q + 2))) ∧ h (vN (g (5 * q + 2))) ≤ (highN fa g q : Int)) → (mv = 0 ∨ mv = 1) →
    (mv = 0 → RND (fE nf g S noX) (fLo sl nf g S z0) (fHi fa nf g S z9) l h l h) → PG (fE nf g S noX) (fLo sl nf g S z0) (fHi fa nf g S z9) (k + 1) l h → (mv = 1 → (∃ s, fSol sl fa nf g S z0 z9 noX s) → k ≤ 7) →
    ∃ lo' hi' l' h' mv', f_X0_join_L2 (nI nf) ol ro (nI S) fu hi lo mv (nI k) = some (hi', lo', mv') ∧ R8 40000 lo' l' ∧ R8 40000 hi' h' ∧ (∀ s, fSol sl fa nf g S z0 z9 noX s → ∀ r, r < 8 → l' r ≤ s r ∧ s r ≤ h' r) ∧ ((mv' = 0 ∧ RND (fE nf g S noX) (fLo sl nf g S z0) (fHi fa nf g S z9) l' h' l' h') ∨ (mv' = 1 ∧ ¬ ∃ s, fSol sl fa nf g S z0 z9 noX s)) := by
  have hr8 := hG.2.1
  have hn := hG.1
  have hE : EOK (fE nf g S noX) := fE_ok hG (fun _ _ z => z.elim)
  have h09 : ∀ s, fSol sl fa nf g S z0 z9 noX s → ∀ r, r < 8 → 0 ≤ s r ∧ s r ≤ 999 := fun s hs r hr => ((fSol_iff hG).mp hs).1 r hr
  intro n
  induction n with
  | zero =>
    intro k hk fu hfu lo hi l h mv i1 i2 i3 i4 i5 i6 i7 i8 i9
    obtain ⟨fu, rfl⟩ : ∃ n, fu = n + 1 := ⟨fu - 1, by omega⟩
    obtain rfl : k = 8 := by omega
    refine ⟨lo, hi, l, h, mv, ?_, i1.mono (by decide), i2.mono (by decide), i3, ?_⟩
    · unfold f_X0_join_L2
      rw [if_pos (by decide)]
    · rcases i6 with rfl | rfl
      · exact Or.inl ⟨rfl, i7 rfl⟩
      · exact Or.inr ⟨rfl, fun z => by have := i9 rfl z; omega⟩
  | succ n ih =>
    intro k hk fu hfu lo hi l h mv i1 i2 i3 i4 i5 i6 i7 i8 i9
    obtain ⟨fu, rfl⟩ : ∃ n, fu = n + 1 := ⟨fu - 1, by omega⟩
    have iB : (30000 : Int) + 17 * (k : Int) ≤ 40000 := by omega
    rcases i6 with rfl | rfl
    · refine ⟨lo, hi, l, h, 0, ?_, i1.mono iB, i2.mono iB, i3, Or.inl ⟨rfl, i7 rfl⟩⟩
      unfold f_X0_join_L2
      rw [if_neg (show ¬ (8 : Int32) ≤ nI k from nI_ge (b := 8) (by omega) (by decide)), if_pos rfl]
    · obtain ⟨m1, lo1, hi1, l1, h1, a1, a2, a3, a4, a5⟩ := X_movesL hG hS hT nf 0 (by omega) FU (FU_big (by omega)) (30000 + 17 * (k : Int)) lo hi l h 0 (by omega) (by omega) (Or.inl rfl) i1 i2
      have a1' : f_X0_moveByCuts_L1 (nI nf) ol (nI S) ro FU hi lo 0 0 = some (hi1, lo1, m1) := a1
      have hcc : ∀ q, q < nf → S.testBit q = true → (lowN sl g q : Int) ≤ l1 (vN (g (5 * q + 2))) ∧ h1 (vN (g (5 * q + 2))) ≤ (highN fa g q : Int) := fun q q1 q2 => by
        have := i5 q q1 q2
        have := a4.1 _ (fg_k hG q1).2.2.1
        omega
      have hR : RND (fE nf g S noX) (fLo sl nf g S z0) (fHi fa nf g S z9) l h l1 h1 := RND_of hG a4.1 (fun s hs => a4.2.1 s hs (i3 s hs)) i4 (fun q q1 q2 => ACC_of (fun z => a5 q (Nat.zero_le _) q1 q2 z) (hcc q q1 q2)) (fun _ _ z => z.elim)
      have eB : (30000 : Int) + 17 * ((k + 1 : Nat) : Int) = 30000 + 17 * (k : Int) + 17 := by omega
      obtain ⟨lo', hi', l', h', mv', d1, d2⟩ := ih (k + 1) (by omega) fu (by omega) lo1 hi1 l1 h1 m1 (by rw [eB]; exact a2.mono (by omega)) (by rw [eB]; exact a3.mono (by omega)) hR.2.1 (fun r hr => by have := i4 r hr; have := a4.1 r hr; omega) hcc a4.2.2.1 (fun z => RND_fix hE hR (a4.2.2.2.1 z).2) (PG_s hE hR i8) (fun z hs => by
        obtain ⟨L, H, hLH⟩ := BST_ex h09 hs
        rcases a4.2.2.2.2.1 z with z | z
        · exact absurd z (by decide)
        · have := PG_8 hR i8 hLH z
          omega)
      refine ⟨lo', hi', l', h', mv', ?_, d2⟩
      unfold f_X0_join_L2 f_X0_moveByCuts
      rw [if_neg (show ¬ (8 : Int32) ≤ nI k from nI_ge (b := 8) (by omega) (by decide)), if_neg one0, a1', bd3_s, show gz m1 = true from by rcases a4.2.2.1 with z | z <;> (rw [z]; rfl), chk_t, bd3_s, nI_1]
      exact d1
theorem X_haveL {B : Int} (hB : B ≤ 1000000) {lo hi : Nat → Int32} {l h : Nat → Int} (hl : R8 B lo l) (hh : R8 B hi h) : ∀ n i, i + n = 8 → ∀ fu, n < fu → ∃ q, f_X0_haveAllAges_L1 lo hi fu (nI i) = some q ∧ ((q = 1 ∧ ∀ r, i ≤ r → r < 8 → l r ≤ h r) ∨ (q = 0 ∧ ∃ r, r < 8 ∧ h r < l r)) := by
  intro n
  induction n with
  | zero =>
    intro i hi' fu hfu
    obtain ⟨fu, rfl⟩ : ∃ n, fu = n + 1 := ⟨fu - 1, by omega⟩
    obtain rfl : i = 8 := by omega
    refine ⟨1, ?_, Or.inl ⟨rfl, fun r a b => by omega⟩⟩
    unfold f_X0_haveAllAges_L1
    rw [if_pos (by decide)]
  | succ n ih =>
    intro i hi' fu hfu
    obtain ⟨fu, rfl⟩ : ∃ n, fu = n + 1 := ⟨fu - 1, by omega⟩
    have li := hl i (by omega)
    have hhi := hh i (by omega)
    have hle : lo i ≤ hi i ↔ l i ≤ h i := by rw [li.1, hhi.1, iI_le (by omega) (by omega) (by omega) (by omega)]
    unfold f_X0_haveAllAges_L1
    rw [if_neg (show ¬ (8 : Int32) ≤ nI i from nI_ge (b := 8) (by omega) (by decide)), gin_n (by omega) (by decide), chk_t, chk_t, cl_n (by omega), nI_1]
    by_cases c : l i ≤ h i
    · obtain ⟨q, a1, a2⟩ := ih (i + 1) (by omega) fu (by omega)
      rw [if_pos (hle.mpr c)]
      refine ⟨q, a1, ?_⟩
      rcases a2 with ⟨b1, b2⟩ | b
      · refine Or.inl ⟨b1, fun r r1 r2 => ?_⟩
        by_cases e : r = i
        · subst e; exact c
        · exact b2 r (by omega) r2
      · exact Or.inr b
    · rw [if_neg (fun z => c (hle.mp z))]
      exact ⟨0, rfl, Or.inr ⟨rfl, i, by omega, by omega⟩⟩
theorem X_join (hG : FG sl fa nf nr g) (hS : S < 2 ^ 16) {ro ol lw hg : Nat → Int32} (hT : ∀ q, q < nf → TK sl fa g ro ol lw hg q) (le0 gr0 : Nat → Int32) :
    ∃ r lo' hi', f_X0_join (nI nf) le0 gr0 ro lw hg ol (nI S) = some (r, lo', hi') ∧ ((r = 1 ∧ ∃ l' h', R8 40000 lo' l' ∧ R8 40000 hi' h' ∧ pB sl fa nf g S l' h') ∨ (r = 0 ∧ ¬ CONS sl fa nf g S)) := by
  have hn := hG.1
  have hE : EOK (fE nf g S noX) := fE_ok hG (fun _ _ z => z.elim)
  obtain ⟨l0, a1, a2⟩ := fillA (n := 8) 0 (by decide) (by decide) le0
  obtain ⟨h0, b1, b2⟩ := fillA (n := 8) 999 (by decide) (by decide) gr0
  have hb : ∀ s, fSol sl fa nf g S z0 z9 noX s → ∀ r, r < 8 → z0 r ≤ s r ∧ s r ≤ z9 r := fun s hs => ((fSol_iff hG).mp hs).1
  obtain ⟨lo1, hi1, l1, h1, c1, c2, c3, c4, c5, c6⟩ := X_constL hG hS hT nf 0 (by omega) FU (FU_big (by omega)) l0 h0 z0 z9 (fun r hr => ⟨a2 r hr, by show (-30000 : Int) ≤ 0; decide, by show (0 : Int) ≤ 30000; decide⟩) (fun r hr => ⟨b2 r hr, by show (-30000 : Int) ≤ 999; decide, by show (999 : Int) ≤ 30000; decide⟩) (fun r hr => ⟨Int.le_refl _, Int.le_refl _⟩) hb
  have c1' : f_X0_join_L1 (nI nf) (nI S) ro lw hg FU h0 l0 0 = some (hi1, lo1) := c1
  have hPG : PG (fE nf g S noX) (fLo sl nf g S z0) (fHi fa nf g S z9) (0 + 1) l1 h1 := by
    refine PG_s hE (l := fun _ => -1000) (h := fun _ => 2000) ⟨fun r hr => ?_, c5, ?_, ?_, ?_⟩ (PG_0 _ _)
    · have := c4 r hr
      have e1 : z0 r = 0 := rfl
      have e2 : z9 r = 999 := rfl
      show (-1000 : Int) ≤ l1 r ∧ h1 r ≤ 2000
      omega
    · intro r c hr hc
      rcases hc with rfl | ⟨i, i1, i2, rfl, z⟩
      · exact (c4 r hr).1
      · have w := (c6 i (Nat.zero_le _) i1 i2).1
        unfold lowN at w
        rcases z with ⟨z, rfl⟩ | ⟨z, rfl⟩ | ⟨z, rfl⟩ <;> (rw [z] at w; exact w)
    · intro r c hr hc
      rcases hc with rfl | ⟨i, i1, i2, rfl, z⟩
      · exact (c4 r hr).2
      · have w := (c6 i (Nat.zero_le _) i1 i2).2
        unfold highN at w
        rcases z with ⟨z, rfl⟩ | ⟨z, rfl⟩ | ⟨z, rfl⟩ <;> (rw [z] at w; exact w)
    · intro a b w e
      obtain ⟨ha, hb'⟩ := hE a b w e
      have w1 := c4 a ha
      have w2 := c4 b hb'
      have e1 : z0 b = 0 := rfl
      have e2 : z9 a = 999 := rfl
      show (-1000 : Int) + w ≤ l1 b ∧ h1 a + w ≤ 2000
      rcases e with ⟨i, -, -, -, -, -, rfl⟩ | ⟨z, -⟩
      · omega
      · exact z.elim
  obtain ⟨lo', hi', l', h', mv', d1, d2, d3, d4, d5⟩ := X_roundsL hG hS hT 8 0 rfl FU (FU_big (by decide)) lo1 hi1 l1 h1 1 (c2.mono (by decide)) (c3.mono (by decide)) c5 c4 (fun q q1 q2 => c6 q (Nat.zero_le _) q1 q2) (Or.inr rfl) (fun z => absurd z (by decide)) hPG (fun _ _ => by omega)
  have d1' : f_X0_join_L2 (nI nf) ol ro (nI S) FU hi1 lo1 1 0 = some (hi', lo', mv') := d1
  unfold f_X0_join
  rw [a1, bd1_s, b1, bd1_s, c1', bd2_s, d1', bd3_s]
  rcases d5 with ⟨rfl, hR⟩ | ⟨rfl, hN⟩
  · obtain ⟨q, e1, e2⟩ := X_haveL (by decide) d2 d3 8 0 rfl FU (FU_big (by decide))
    have e1' : f_X0_haveAllAges_L1 lo' hi' FU 0 = some q := e1
    unfold f_X0_haveAllAges
    rw [if_pos rfl, e1', bd1_s]
    rcases e2 with ⟨rfl, e⟩ | ⟨rfl, r, hr, e⟩
    · rw [if_neg (by decide), bd1_s, if_neg one0]
      exact ⟨1, lo', hi', rfl, Or.inl ⟨rfl, l', h', d2, d3, FIX_B hE hR (fun r hr => e r (Nat.zero_le _) hr)⟩⟩
    · rw [if_pos rfl, bd1_s, if_pos rfl]
      refine ⟨0, lo', hi', rfl, Or.inr ⟨rfl, fun z => ?_⟩⟩
      obtain ⟨s, hs⟩ := (CONS_iff hG).mpr z
      have := d4 s hs r hr
      omega
  · rw [if_neg one0]
    exact ⟨0, lo', hi', rfl, Or.inr ⟨rfl, fun z => hN ((CONS_iff hG).mpr z)⟩⟩
theorem bd5_s {a b c d e r : Type} (x1 : a) (x2 : b) (x3 : c) (x4 : d) (x5 : e) (k : a → b → c → d → e → Option r) : bd5 (some (x1, x2, x3, x4, x5)) k = k x1 x2 x3 x4 x5 := rfl
theorem bd7_s {a b c d e f g r : Type} (x1 : a) (x2 : b) (x3 : c) (x4 : d) (x5 : e) (x6 : f) (x7 : g) (k : a → b → c → d → e → f → g → Option r) : bd7 (some (x1, x2, x3, x4, x5, x6, x7)) k = k x1 x2 x3 x4 x5 x6 x7 := rfl
theorem bd8_s {a b c d e f g h r : Type} (x1 : a) (x2 : b) (x3 : c) (x4 : d) (x5 : e) (x6 : f) (x7 : g) (x8 : h) (k : a → b → c → d → e → f → g → h → Option r) : bd8 (some (x1, x2, x3, x4, x5, x6, x7, x8)) k = k x1 x2 x3 x4 x5 x6 x7 x8 := rfl
theorem X_joinBy (hG : FG sl fa nf nr g) (hS : S < 2 ^ 16) {nu : Nat → Int32} (h4 : nu 4 = nI sl) (h5 : nu 5 = nI fa) (ro ol lw hg le0 gr0 : Nat → Int32) :
    ∃ r ro' ol' lw' hg' lo' hi', f_X0_joinBy (nI nf) 80 g ro ol lw hg nu le0 gr0 (nI S) = some (r, nI nf, ro', ol', lw', hg', lo', hi') ∧ (∀ q, q < nf → TK sl fa g ro' ol' lw' hg' q) ∧ ((r = 1 ∧ ∃ l' h', R8 40000 lo' l' ∧ R8 40000 hi' h' ∧ pB sl fa nf g S l' h') ∨ (r = 0 ∧ ¬ CONS sl fa nf g S)) := by
  obtain ⟨ro', ol', lw', hg', a1, a2⟩ := X_take hG h4 h5 ro ol lw hg
  obtain ⟨r, lo', hi', b1, b2⟩ := X_join hG hS a2 le0 gr0
  refine ⟨r, ro', ol', lw', hg', lo', hi', ?_, a2, b2⟩
  unfold f_X0_joinBy
  rw [a1, bd5_s, b1, bd3_s, show gz r = true from by rcases b2 with ⟨z, -⟩ | ⟨z, -⟩ <;> (rw [z]; rfl), chk_t]
end JN2
