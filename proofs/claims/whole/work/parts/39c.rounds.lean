/-! ===== ages: the reference's bounds ===== -/
section RDS
variable {sl fa nf nr S : Nat} {g : Nat → Int32} {lo0 hi0 : Nat → Int} {X : Nat → Nat → Prop}
def XOK (nr : Nat) (no th : Int32) (X : Nat → Nat → Prop) : Prop := (no = -1 ∧ ∀ a b, ¬ X a b) ∨ ∃ x y, x < nr ∧ y < nr ∧ no = nI x ∧ th = nI y ∧ ∀ a b, X a b ↔ (a = x ∧ b = y)
theorem XOK.lt {no th : Int32} (h : XOK nr no th X) (hn : nr ≤ 8) : ∀ a b, X a b → a < 8 ∧ b < 8 := by
  intro a b hx
  rcases h with ⟨-, h⟩ | ⟨x, y, h1, h2, -, -, h3⟩
  · exact absurd hx (h a b)
  · obtain ⟨rfl, rfl⟩ := (h3 a b).mp hx
    omega
/-- accumulated facts give the round's bounds -/
theorem RND_of (hG : FG sl fa nf nr g) {l h l' h' : Nat → Int} (h1 : ∀ r, r < 8 → l r ≤ l' r ∧ h' r ≤ h r) (h2 : ∀ s, fSol sl fa nf g S lo0 hi0 X s → ∀ r, r < 8 → l' r ≤ s r ∧ s r ≤ h' r) (h3 : ∀ r, r < 8 → lo0 r ≤ l r ∧ h r ≤ hi0 r) (h4 : ∀ q, q < nf → S.testBit q = true → ACC sl fa g l h l' h' q) (h5 : ∀ a b, X a b → l a ≤ l' b ∧ h' a ≤ h b) : RND (fE nf g S X) (fLo sl nf g S lo0) (fHi fa nf g S hi0) l h l' h' := by
  refine ⟨h1, h2, fun r c hr hc => ?_, fun r c hr hc => ?_, fun a b w e => ?_⟩
  · rcases hc with rfl | ⟨i, i1, i2, rfl, ⟨z, rfl⟩ | ⟨z, rfl⟩ | ⟨z, rfl⟩⟩
    · have := h3 r hr; have := h1 r hr; omega
    · exact ((h4 i i1 i2).2.1 z).1
    · exact ((h4 i i1 i2).2.2.1 z).1
    · exact (h4 i i1 i2).2.2.2.2 z
  · rcases hc with rfl | ⟨i, i1, i2, rfl, ⟨z, rfl⟩ | ⟨z, rfl⟩ | ⟨z, rfl⟩⟩
    · have := h3 r hr; have := h1 r hr; omega
    · exact ((h4 i i1 i2).2.1 z).2
    · exact ((h4 i i1 i2).2.2.1 z).2
    · exact (h4 i i1 i2).2.2.2.1 z
  · rcases e with ⟨i, i1, i2, z, rfl, rfl, rfl⟩ | ⟨hx, rfl⟩
    · exact (h4 i i1 i2).1 z
    · have := h5 a b hx; omega
theorem RND_fix {E : Nat → Nat → Int → Prop} {Lo Hi : Nat → Int → Prop} (hE : EOK E) {l h l' h' : Nat → Int} (hR : RND E Lo Hi l h l' h') (e : ∀ r, r < 8 → l' r = l r ∧ h' r = h r) : RND E Lo Hi l' h' l' h' := by
  obtain ⟨r1, r2, r3, r4, r5⟩ := hR
  refine ⟨fun _ _ => ⟨Int.le_refl _, Int.le_refl _⟩, r2, r3, r4, fun a b w z => ?_⟩
  obtain ⟨ha, hb⟩ := hE a b w z
  have := r5 a b w z
  have := e a ha
  have := e b hb
  omega
theorem M_rightL (hn : nr ≤ 8) {bk : Nat → Int32} (h3 : bk 3 = nI nr) {B : Int} (hB : B ≤ 1000000) {lo hi : Nat → Int32} {l h : Nat → Int} (hl : R8 B lo l) (hh : R8 B hi h) : ∀ n i, i + n = nr → ∀ fu, n < fu → ∀ rt : Int32, (rt = 0 ∨ rt = 1) → ∃ rt', f_X10_bounds_L8 bk hi lo fu rt (nI i) = some rt' ∧ (rt' = 0 ∨ rt' = 1) ∧ (rt' = 1 → rt = 1 ∧ ∀ q, i ≤ q → q < nr → l q ≤ h q) ∧ (rt' = 0 → rt = 0 ∨ ∃ q, q < nr ∧ h q < l q) := by
  have b3 : bk (3 : Int32).toNatClampNeg = nI nr := h3
  intro n
  induction n with
  | zero =>
    intro i hi' fu hfu rt hrt
    obtain ⟨fu, rfl⟩ : ∃ n, fu = n + 1 := ⟨fu - 1, by omega⟩
    obtain rfl : i = nr := by omega
    refine ⟨rt, ?_, hrt, fun z => ⟨z, fun q a b => by omega⟩, fun z => Or.inl z⟩
    unfold f_X10_bounds_L8
    rw [show gin (3 : Int32) 460 = true from by decide, chk_t, b3, if_pos (Int32.le_refl _)]
  | succ n ih =>
    intro i hi' fu hfu rt hrt
    obtain ⟨fu, rfl⟩ : ∃ n, fu = n + 1 := ⟨fu - 1, by omega⟩
    have li := hl i (by omega)
    have hhi := hh i (by omega)
    have hlt : hi i < lo i ↔ h i < l i := by rw [li.1, hhi.1, iI_lt (by omega) (by omega) (by omega) (by omega)]
    unfold f_X10_bounds_L8
    rw [show gin (3 : Int32) 460 = true from by decide, chk_t, b3, if_neg (nI_ge (by omega) (by omega)), gin_n (by omega) (by decide), chk_t, chk_t, cl_n (by omega), nI_1]
    rcases hrt with rfl | rfl
    · obtain ⟨r, a1, a2, a3, a4⟩ := ih (i + 1) (by omega) fu (by omega) 0 (Or.inl rfl)
      rw [if_pos rfl]
      exact ⟨r, a1, a2, fun z => absurd (a3 z).1 (by decide), fun _ => Or.inl rfl⟩
    · rw [if_neg one0]
      by_cases c : h i < l i
      · obtain ⟨r, a1, a2, a3, a4⟩ := ih (i + 1) (by omega) fu (by omega) 0 (Or.inl rfl)
        rw [if_pos (hlt.mpr c)]
        exact ⟨r, a1, a2, fun z => absurd (a3 z).1 (by decide), fun _ => Or.inr ⟨i, by omega, c⟩⟩
      · obtain ⟨r, a1, a2, a3, a4⟩ := ih (i + 1) (by omega) fu (by omega) 1 (Or.inr rfl)
        rw [if_neg (fun z => c (hlt.mp z))]
        refine ⟨r, a1, a2, fun z => ⟨rfl, fun q q1 q2 => ?_⟩, fun z => ?_⟩
        · by_cases e : q = i
          · subst e; omega
          · exact (a3 z).2 q (by omega) q2
        · rcases a4 z with z | z
          · exact absurd z (by decide)
          · exact Or.inr z
theorem M_initL {known kage : Int32} (hk : ∀ r, r < 8 → (if nI r = known then some kage else some 0) = some (iI (lo0 r)) ∧ (if nI r = known then some kage else some 999) = some (iI (hi0 r))) : ∀ n i, i + n = 8 → ∀ fu, n < fu → ∀ lo hi : Nat → Int32, ∃ lo' hi', f_X10_bounds_L1 known kage fu hi lo (nI i) = some (hi', lo') ∧ (∀ r, i ≤ r → r < 8 → lo' r = iI (lo0 r) ∧ hi' r = iI (hi0 r)) ∧ ∀ r, r < i → lo' r = lo r ∧ hi' r = hi r := by
  intro n
  induction n with
  | zero =>
    intro i hi' fu hfu lo hi
    obtain ⟨fu, rfl⟩ : ∃ n, fu = n + 1 := ⟨fu - 1, by omega⟩
    obtain rfl : i = 8 := by omega
    refine ⟨lo, hi, ?_, fun r a b => by omega, fun _ _ => ⟨rfl, rfl⟩⟩
    unfold f_X10_bounds_L1
    rw [if_pos (by decide)]
  | succ n ih =>
    intro i hi' fu hfu lo hi
    obtain ⟨fu, rfl⟩ : ∃ n, fu = n + 1 := ⟨fu - 1, by omega⟩
    obtain ⟨k1, k2⟩ := hk i (by omega)
    obtain ⟨lo', h', a1, a2, a3⟩ := ih (i + 1) (by omega) fu (by omega) (upd lo i (iI (lo0 i))) (upd hi i (iI (hi0 i)))
    refine ⟨lo', h', ?_, fun r r1 r2 => ?_, fun r hr => ?_⟩
    · unfold f_X10_bounds_L1
      rw [if_neg (show ¬ (8 : Int32) ≤ nI i from nI_ge (b := 8) (by omega) (by decide)), k1, bd1_s, gin_n (by omega) (by decide), chk_t, nm_s, k2, bd1_s, chk_t, nm_s, cl_n (by omega), nI_1]
      exact a1
    · by_cases e : r = i
      · subst e
        obtain ⟨c1, c2⟩ := a3 r (by omega)
        rw [c1, c2, upd_s, upd_s]
        exact ⟨rfl, rfl⟩
      · exact a2 r (by omega) r2
    · obtain ⟨c1, c2⟩ := a3 r (by omega)
      rw [c1, c2, upd_n _ _ (by omega), upd_n _ _ (by omega)]
      exact ⟨rfl, rfl⟩
theorem M_round (hG : FG sl fa nf nr g) {bk : Nat → Int32} (hB : FBK sl fa nf nr g bk) (hS : S < 2 ^ 16) {no th : Int32} (hX : XOK nr no th X) {B : Int} {lo hi : Nat → Int32} {l h : Nat → Int} (h1 : 30000 ≤ B) (h2 : B ≤ 800000) (hl : R8 B lo l) (hh : R8 B hi h) (hsd : ∀ s, fSol sl fa nf g S lo0 hi0 X s → ∀ r, r < 8 → l r ≤ s r ∧ s r ≤ h r) (h3 : ∀ r, r < 8 → lo0 r ≤ l r ∧ h r ≤ hi0 r) :
    ∃ m1 lo1 hi1 m2 lo2 hi2 l2 h2, f_X10_bounds_L7 bk (nI S) FU hi lo 0 0 = some (hi1, lo1, m1) ∧ (if no = (-1 : Int32) then (some (hi1, lo1, m1)) else (chk (gin no 8) (bd2 (f_X10_atLeast m1 lo1 th (lo1 no.toNatClampNeg)) (fun x181 y182 => chk (gin th 8) (bd2 (f_X10_atMost x181 hi1 no (hi1 th.toNatClampNeg)) (fun x185 y186 => some (y186, y182, x185))))))) = some (hi2, lo2, m2) ∧ R8 (B + 17) lo2 l2 ∧ R8 (B + 17) hi2 h2 ∧ STEP (fSol sl fa nf g S lo0 hi0 X) nr l h 0 l2 h2 m2 ∧ RND (fE nf g S X) (fLo sl nf g S lo0) (fHi fa nf g S hi0) l h l2 h2 := by
  have hn := hG.1
  have hr8 := hG.2.1
  obtain ⟨m1, lo1, hi1, l1, h1', a1, a2, a3, a4, a5⟩ := M_factsL hG hB hS (C := fSol sl fa nf g S lo0 hi0 X) (fun i hi hb s hs => ((fSol_iff hG).mp hs).2.1 i hi hb) nf 0 (by omega) FU (FU_big (by omega)) B lo hi l h 0 h1 (by omega) (Or.inl rfl) hl hh
  rcases hX with ⟨rfl, hx⟩ | ⟨x, y, x1, y1, rfl, rfl, hx⟩
  · refine ⟨m1, lo1, hi1, m1, lo1, hi1, l1, h1', a1, ?_, a2.mono (by omega), a3.mono (by omega), a4, RND_of hG a4.1 (fun s hs => a4.2.1 s hs (hsd s hs)) h3 (fun q q1 q2 => a5 q (Nat.zero_le _) q1 q2) (fun a b z => absurd z (hx a b))⟩
    rw [if_pos rfl]
  · have a2' : R8 (B + 17) lo1 l1 := a2.mono (by omega)
    have a3' : R8 (B + 17) hi1 h1' := a3.mono (by omega)
    have lx := a2' x (by omega)
    have hy := a3' y (by omega)
    obtain ⟨m2, lo2, c1, c2, c3, c4, c5⟩ := M_atLeast (r := y) (v := l1 x) (B' := B + 17) a4.2.2.1 (by omega) a2' (Int.le_refl _) (by omega) lx.2
    obtain ⟨m3, hi2, d1, d2, d3, d4, d5⟩ := M_atMost (r := x) (v := h1' y) (B' := B + 17) c3 (by omega) a3' (Int.le_refl _) (by omega) hy.2
    have sx : ∀ s, fSol sl fa nf g S lo0 hi0 X s → s x ≤ s y := fun s hs => ((fSol_iff hG).mp hs).2.2 x y ((hx x y).mpr ⟨rfl, rfl⟩)
    have st : STEP (fSol sl fa nf g S lo0 hi0 X) nr l1 h1' m1 (upI l1 y (l1 x)) (dnI h1' x (h1' y)) m3 :=
      (STEP_up y1 (by omega) (fun s hs q => Int.le_trans (q x (by omega)).1 (sx s hs)) c3 c4 c5).tr (STEP_dn x1 (by omega) (fun s hs q => Int.le_trans (sx s hs) (q y (by omega)).2) d3 d4 d5)
    have st2 := a4.tr st
    refine ⟨m1, lo1, hi1, m3, lo2, hi2, _, _, a1, ?_, c2, d2, st2, RND_of hG st2.1 (fun s hs => st2.2.1 s hs (hsd s hs)) h3 (fun q q1 q2 => (a5 q (Nat.zero_le _) q1 q2).mono hG q1 (fun _ _ => ⟨Int.le_refl _, Int.le_refl _⟩) st.1) (fun a b z => ?_)⟩
    · rw [if_neg (nI_nm1 (by omega)), gin_n (by omega) (by decide), chk_t, cl_n (by omega), lx.1, c1, bd2_s, gin_n (by omega) (by decide), chk_t, cl_n (by omega), hy.1, d1, bd2_s]
    · obtain ⟨rfl, rfl⟩ := (hx a b).mp z
      have e1 := upI_r l1 b (l1 a)
      have e2 := dnI_r h1' a (h1' b)
      have e3 := a4.1 a (by omega)
      have e4 := a4.1 b (by omega)
      omega
theorem M_roundsL (hG : FG sl fa nf nr g) {bk : Nat → Int32} (hB : FBK sl fa nf nr g bk) (hS : S < 2 ^ 16) {no th : Int32} (hX : XOK nr no th X) (hb0 : ∀ r, r < 8 → 0 ≤ lo0 r ∧ lo0 r ≤ hi0 r ∧ hi0 r ≤ 999) : ∀ n k : Nat, k + n = 20 → ∀ fu, n < fu → ∀ (lo hi : Nat → Int32) (l h : Nat → Int) (mv rt : Int32), R8 (30000 + 17 * (k : Int)) lo l → R8 (30000 + 17 * (k : Int)) hi h → (∀ s, fSol sl fa nf g S lo0 hi0 X s → ∀ r, r < 8 → l r ≤ s r ∧ s r ≤ h r) → (∀ r, r < 8 → lo0 r ≤ l r ∧ h r ≤ hi0 r) → (mv = 0 ∨ mv = 1) → (rt = 0 ∨ rt = 1) → (∀ r, nr ≤ r → r < 8 → l r = lo0 r ∧ h r = hi0 r) → (rt = 0 → ¬ ∃ s, fSol sl fa nf g S lo0 hi0 X s) → (rt = 1 → ∀ r, r < nr → l r ≤ h r) →
    (mv = 0 → RND (fE nf g S X) (fLo sl nf g S lo0) (fHi fa nf g S hi0) l h l h) → PG (fE nf g S X) (fLo sl nf g S lo0) (fHi fa nf g S hi0) k l h → (mv = 1 → (∃ s, fSol sl fa nf g S lo0 hi0 X s) → k ≤ 8) →
    ∃ lo' hi' l' h' mv' rt', f_X10_bounds_L6 bk (nI S) no th fu hi lo mv rt (nI k) = some (hi', lo', mv', rt') ∧ R8 40000 lo' l' ∧ R8 40000 hi' h' ∧ ((rt' = 1 ∧ mv' = 0 ∧ BST (fE nf g S X) (fLo sl nf g S lo0) (fHi fa nf g S hi0) l' h') ∨ ((rt' = 0 ∨ mv' = 1) ∧ ¬ ∃ s, fSol sl fa nf g S lo0 hi0 X s)) := by
  have hr8 := hG.2.1
  have hE : EOK (fE nf g S X) := fE_ok hG (hX.lt hr8)
  have h09 : ∀ s, fSol sl fa nf g S lo0 hi0 X s → ∀ r, r < 8 → 0 ≤ s r ∧ s r ≤ 999 := fun s hs r hr => by
    have := ((fSol_iff hG).mp hs).1 r hr
    have := hb0 r hr
    omega
  intro n
  induction n with
  | zero =>
    intro k hk fu hfu lo hi l h mv rt i1 i2 i3 i4 i5 i6 i7 i8 i9 i10 i11 i12
    obtain ⟨fu, rfl⟩ : ∃ n, fu = n + 1 := ⟨fu - 1, by omega⟩
    obtain rfl : k = 20 := by omega
    refine ⟨lo, hi, l, h, mv, rt, ?_, i1.mono (by decide), i2.mono (by decide), ?_⟩
    · unfold f_X10_bounds_L6
      rw [if_pos (by decide)]
    · rcases i6 with rfl | rfl
      · exact Or.inr ⟨Or.inl rfl, i8 rfl⟩
      · rcases i5 with rfl | rfl
        · refine Or.inl ⟨rfl, rfl, FIX_B hE (i10 rfl) (fun r hr => ?_)⟩
          by_cases c : r < nr
          · exact i9 rfl r c
          · have := i7 r (by omega) hr
            have := hb0 r hr
            omega
        · exact Or.inr ⟨Or.inr rfl, fun z => by have := i12 rfl z; omega⟩
  | succ n ih =>
    intro k hk fu hfu lo hi l h mv rt i1 i2 i3 i4 i5 i6 i7 i8 i9 i10 i11 i12
    obtain ⟨fu, rfl⟩ : ∃ n, fu = n + 1 := ⟨fu - 1, by omega⟩
    have iB : (30000 : Int) + 17 * (k : Int) ≤ 40000 := by omega
    rcases i5 with rfl | rfl
    · refine ⟨lo, hi, l, h, 0, rt, ?_, i1.mono iB, i2.mono iB, ?_⟩
      · unfold f_X10_bounds_L6
        rw [if_neg (show ¬ (20 : Int32) ≤ nI k from nI_ge (b := 20) (by omega) (by decide)), if_pos rfl]
      · rcases i6 with rfl | rfl
        · exact Or.inr ⟨Or.inl rfl, i8 rfl⟩
        · refine Or.inl ⟨rfl, rfl, FIX_B hE (i10 rfl) (fun r hr => ?_)⟩
          by_cases c : r < nr
          · exact i9 rfl r c
          · have := i7 r (by omega) hr
            have := hb0 r hr
            omega
    · rcases i6 with rfl | rfl
      · refine ⟨lo, hi, l, h, 1, 0, ?_, i1.mono iB, i2.mono iB, Or.inr ⟨Or.inl rfl, i8 rfl⟩⟩
        unfold f_X10_bounds_L6
        rw [if_neg (show ¬ (20 : Int32) ≤ nI k from nI_ge (b := 20) (by omega) (by decide)), if_neg one0, if_pos rfl]
      · obtain ⟨m1, lo1, hi1, m2, lo2, hi2, l2, h2, a1, a2, a3, a4, a5, a6⟩ := M_round hG hB hS hX (lo0 := lo0) (hi0 := hi0) (by omega) (by omega) i1 i2 i3 i4
        obtain ⟨rt', c1, c2, c3, c4⟩ := M_rightL hr8 hB.1 (B := 30000 + 17 * (k : Int) + 17) (by omega) a3 a4 nr 0 (by omega) FU (FU_big (by omega)) 1 (Or.inr rfl)
        have c1' : f_X10_bounds_L8 bk hi2 lo2 FU 1 0 = some rt' := c1
        have eB : (30000 : Int) + 17 * ((k + 1 : Nat) : Int) = 30000 + 17 * (k : Int) + 17 := by omega
        obtain ⟨lo', hi', l', h', mv', rt2, d1, d2⟩ := ih (k + 1) (by omega) fu (by omega) lo2 hi2 l2 h2 m2 rt' (by rw [eB]; exact a3) (by rw [eB]; exact a4) a6.2.1 (fun r hr => by have := i4 r hr; have := a5.1 r hr; omega) a5.2.2.1 c2 (fun r r1 r2 => by have := i7 r r1 r2; have := a5.2.2.2.2.2 r r1 r2; omega) (fun z => by
            rcases c4 z with z | ⟨q, q1, q2⟩
            · exact absurd z (by decide)
            · rintro ⟨s, hs⟩
              have := a6.2.1 s hs q (by omega)
              omega) (fun z r hr => (c3 z).2 r (Nat.zero_le _) hr) (fun z => RND_fix hE a6 (a5.2.2.2.1 z).2) (PG_s hE a6 i11) (fun z hs => by
            obtain ⟨L, H, hLH⟩ := BST_ex h09 hs
            rcases a5.2.2.2.2.1 z with z | z
            · exact absurd z (by decide)
            · have := PG_8 a6 i11 hLH z
              omega)
        refine ⟨lo', hi', l', h', mv', rt2, ?_, d2⟩
        unfold f_X10_bounds_L6
        rw [if_neg (show ¬ (20 : Int32) ≤ nI k from nI_ge (b := 20) (by omega) (by decide)), if_neg one0, if_neg one0, a1, bd3_s, a2, bd3_s, c1', bd1_s, nI_1]
        exact d1
/-- what the reference's bounds answers -/
theorem M_bounds (hG : FG sl fa nf nr g) {bk : Nat → Int32} (hB : FBK sl fa nf nr g bk) (hS : S < 2 ^ 16) {no th known kage : Int32} (hX : XOK nr no th X) (hb0 : ∀ r, r < 8 → 0 ≤ lo0 r ∧ lo0 r ≤ hi0 r ∧ hi0 r ≤ 999) (hk : ∀ r, r < 8 → (if nI r = known then some kage else some 0) = some (iI (lo0 r)) ∧ (if nI r = known then some kage else some 999) = some (iI (hi0 r))) (lo hi : Nat → Int32) :
    ∃ r mv lo' hi', f_X10_bounds no th known kage lo hi bk (nI S) = some (r, mv, lo', hi') ∧ ((r = 1 ∧ ∃ l' h', R8 40000 lo' l' ∧ R8 40000 hi' h' ∧ BST (fE nf g S X) (fLo sl nf g S lo0) (fHi fa nf g S hi0) l' h') ∨ (r = 0 ∧ ¬ ∃ s, fSol sl fa nf g S lo0 hi0 X s)) := by
  obtain ⟨lo1, hi1, a1, a2, -⟩ := M_initL hk 8 0 rfl FU (FU_big (by decide)) lo hi
  have a1' : f_X10_bounds_L1 known kage FU hi lo 0 = some (hi1, lo1) := a1
  obtain ⟨lo', hi', l', h', mv', rt', c1, c2, c3, c4⟩ := M_roundsL hG hB hS hX hb0 20 0 rfl FU (FU_big (by decide)) lo1 hi1 lo0 hi0 1 1 (fun r hr => ⟨(a2 r (Nat.zero_le _) hr).1, by have := hb0 r hr; omega, by have := hb0 r hr; omega⟩) (fun r hr => ⟨(a2 r (Nat.zero_le _) hr).2, by have := hb0 r hr; omega, by have := hb0 r hr; omega⟩) (fun s hs => ((fSol_iff hG).mp hs).1) (fun r hr => ⟨Int.le_refl _, Int.le_refl _⟩) (Or.inr rfl) (Or.inr rfl) (fun _ _ _ => ⟨rfl, rfl⟩) (fun z => absurd z (by decide)) (fun _ r hr => (hb0 r (by have := hG.2.1; omega)).2.1) (fun z => absurd z (by decide)) (PG_0 _ _) (fun _ _ => by omega)
  have c1' : f_X10_bounds_L6 bk (nI S) no th FU hi1 lo1 1 1 0 = some (hi', lo', mv', rt') := c1
  unfold f_X10_bounds
  rw [a1', bd2_s, c1', bd4_s]
  rcases c4 with ⟨rfl, rfl, h⟩ | ⟨rfl | rfl, h⟩
  · rw [if_neg one0, if_pos rfl]
    exact ⟨_, _, _, _, rfl, Or.inl ⟨rfl, l', h', c2, c3, h⟩⟩
  · rw [if_pos rfl]
    exact ⟨_, _, _, _, rfl, Or.inr ⟨rfl, h⟩⟩
  · by_cases z : rt' = 0
    · rw [if_pos z]
      exact ⟨_, _, _, _, rfl, Or.inr ⟨rfl, h⟩⟩
    · rw [if_neg z, if_neg one0]
      exact ⟨_, _, _, _, rfl, Or.inr ⟨rfl, h⟩⟩
abbrev noX : Nat → Nat → Prop := fun _ _ => False
abbrev z0 : Nat → Int := fun _ => 0
abbrev z9 : Nat → Int := fun _ => 999
abbrev pB (sl fa nf : Nat) (g : Nat → Int32) (S : Nat) (l h : Nat → Int) : Prop := BST (fE nf g S noX) (fLo sl nf g S z0) (fHi fa nf g S z9) l h
theorem SOL_iff (hG : FG sl fa nf nr g) {s : Nat → Int} : fSol sl fa nf g S z0 z9 noX s ↔ SOL sl fa nf g S s := by
  rw [fSol_iff hG]
  exact ⟨fun h => ⟨h.1, h.2.1⟩, fun h => ⟨h.1, h.2, fun _ _ z => z.elim⟩⟩
theorem CONS_iff (hG : FG sl fa nf nr g) : (∃ s, fSol sl fa nf g S z0 z9 noX s) ↔ CONS sl fa nf g S := ⟨fun ⟨s, h⟩ => ⟨s, (SOL_iff hG).mp h⟩, fun ⟨s, h⟩ => ⟨s, (SOL_iff hG).mpr h⟩⟩
theorem z09 : ∀ r, r < 8 → 0 ≤ z0 r ∧ z0 r ≤ z9 r ∧ z9 r ≤ 999 := fun _ _ => ⟨by show (0 : Int) ≤ 0; decide, by show (0 : Int) ≤ 999; decide, by show (999 : Int) ≤ 999; decide⟩
theorem bd6_s {a b c d e f r : Type} (x1 : a) (x2 : b) (x3 : c) (x4 : d) (x5 : e) (x6 : f) (k : a → b → c → d → e → f → Option r) : bd6 (some (x1, x2, x3, x4, x5, x6)) k = k x1 x2 x3 x4 x5 x6 := rfl
theorem M_plain (hG : FG sl fa nf nr g) {bk : Nat → Int32} (hB : FBK sl fa nf nr g bk) (hS : S < 2 ^ 16) (th kage : Int32) (lo hi : Nat → Int32) :
    ∃ r mv lo' hi', f_X10_plain th kage lo hi bk (nI S) = some (r, -1, -1, mv, lo', hi') ∧ ((r = 1 ∧ ∃ l' h', R8 40000 lo' l' ∧ R8 40000 hi' h' ∧ pB sl fa nf g S l' h') ∨ (r = 0 ∧ ¬ CONS sl fa nf g S)) := by
  obtain ⟨r, mv, lo', hi', a1, a2⟩ := M_bounds hG hB hS (no := -1) (th := th) (known := -1) (kage := kage) (X := noX) (lo0 := z0) (hi0 := z9) (Or.inl ⟨rfl, fun _ _ z => z⟩) z09 (fun r hr => by
    rw [if_neg (nI_nm1 (by omega)), if_neg (nI_nm1 (by omega))]
    exact ⟨rfl, rfl⟩) lo hi
  refine ⟨r, mv, lo', hi', ?_, ?_⟩
  · unfold f_X10_plain
    rw [a1, bd4_s]
    rcases a2 with ⟨rfl, -⟩ | ⟨rfl, -⟩ <;> rfl
  · rcases a2 with h | ⟨h1, h2⟩
    · exact Or.inl h
    · exact Or.inr ⟨h1, fun z => h2 ((CONS_iff hG).mpr z)⟩
end RDS
