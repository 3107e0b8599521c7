/-! ===== ages: the longest rows of cuts ===== -/
section CT
variable {sl fa nf nr S : Nat} {g : Nat → Int32}
def DR (y : Nat → Int32) (D : Nat → Nat → Nat) : Prop := ∀ a b, a < 8 → b < 8 → y (8 * a + b) = nI (D a b)
def DB (D : Nat → Nat → Nat) : Prop := ∀ a b, a < 8 → b < 8 → D a b ≤ 999
def SND (C : (Nat → Int) → Prop) (D : Nat → Nat → Nat) : Prop := ∀ a b, a < 8 → b < 8 → 0 < D a b → ∀ s, C s → s a + (D a b : Int) ≤ s b
theorem X_cuts {y : Nat → Int32} {D : Nat → Nat → Nat} (h : DR y D) {a b : Nat} (ha : a < 8) (hb : b < 8) : f_X0_cuts y (nI a) (nI b) = some (nI (D a b)) := by
  unfold f_X0_cuts
  rw [show (8 : Int32) * nI a + nI b = nI (8 * a + b) from by simp (disch := omega) only [↓lm1, ln0, ln1, ln2, ln3, ln4, ln5, ln6, ln7, ln8, ln9, ln10, ln11, ln12, ln13, ln14, ln15, ln16, ln17, ln18, ln19, ln20, ln21, ln22, ln26, ln30, ln31, ln32, ln36, ln39, ln40, ln48, ln50, ln59, ln60, ln61, ln63, ln64, ln80, ln97, ln99, ln100, ln103, ln122, ln192, ln220, ln240, ln255, ln260, ln290, ln300, ln370, ln410, ln430, ln460, ln920, ln960, ln999, ln1000, ln2000, ln26880, ln1000000, ofNat_nI, nI_add, pk_mul, pk_sub, nI_leP, nI_ltP, nI_eqP, nI_clamp, gin_n, chk_t, nm_s, bd1_s, bd2_s, bd3_s, bd4_s, bI_n0, bI_1, chk_gz_bI, if_pos, if_neg, if_true, if_false, ite_some, nI_m1, m1_nI, m1_le, le_m1, m1_lt, lt_m1, m1_1, n_m1, n0_m1, m1_m1, not_true_eq_false, not_false_eq_true], nm_s, if_neg (nI_pos (by omega)), if_neg (show ¬ (64 : Int32) ≤ nI (8 * a + b) from nI_ge (b := 64) (by omega) (by decide)), gin_n (by omega) (by decide), chk_t, cl_n (by omega), h a b ha hb]
def one2 (D : Nat → Nat → Nat) (u v a b : Nat) : Nat := if a = u ∧ b = v then 1 else D a b
theorem one2_t {D : Nat → Nat → Nat} {u v a b : Nat} (h : a = u ∧ b = v) : one2 D u v a b = 1 := if_pos h
theorem one2_f {D : Nat → Nat → Nat} {u v a b : Nat} (h : ¬ (a = u ∧ b = v)) : one2 D u v a b = D a b := if_neg h
theorem X_cut1L (hG : FG sl fa nf nr g) (hS : S < 2 ^ 16) {ro ol lw hg : Nat → Int32} (hT : ∀ q, q < nf → TK sl fa g ro ol lw hg q) : ∀ n i, i + n = nf → ∀ fu, n < fu → ∀ (y : Nat → Int32) (D : Nat → Nat → Nat), DR y D → (∀ a b, a < 8 → b < 8 → D a b ≤ 1) → SND (fSol sl fa nf g S z0 z9 noX) D → ∃ y' D', f_X0_countCuts_L1 (nI nf) (nI S) ol ro fu y (nI i) = some y' ∧ DR y' D' ∧ (∀ a b, a < 8 → b < 8 → D' a b ≤ 1) ∧ SND (fSol sl fa nf g S z0 z9 noX) D' ∧ (∀ a b, a < 8 → b < 8 → D a b ≤ D' a b) ∧ ∀ q, i ≤ q → q < nf → S.testBit q = true → vN (g (5 * q + 1)) = 0 → 1 ≤ D' (vN (g (5 * q + 2))) (vN (g (5 * q + 3))) := by
  have hn := hG.1
  intro n
  induction n with
  | zero =>
    intro i hi fu hfu y D h1 h2 h3
    obtain ⟨fu, rfl⟩ : ∃ n, fu = n + 1 := ⟨fu - 1, by omega⟩
    obtain rfl : i = nf := by omega
    refine ⟨y, D, ?_, h1, h2, h3, fun _ _ _ _ => Nat.le_refl _, fun q a b => by omega⟩
    unfold f_X0_countCuts_L1
    rw [if_pos (Int32.le_refl _)]
  | succ n ih =>
    intro i hi fu hfu y D h1 h2 h3
    obtain ⟨fu, rfl⟩ : ∃ n, fu = n + 1 := ⟨fu - 1, by omega⟩
    obtain ⟨t1, t2, t3, t4⟩ := hT i (by omega)
    obtain ⟨k1, k2, k3, k4, k5, k6, k7⟩ := fg_k hG (show i < nf by omega)
    by_cases c : S.testBit i = true ∧ vN (g (5 * i + 1)) = 0
    · obtain ⟨e1, e2, e3⟩ := k6 c.2
      rw [if_pos c.2] at t2
      have hF : ∀ s, fSol sl fa nf g S z0 z9 noX s → s (vN (g (5 * i + 2))) + 1 ≤ s (vN (g (5 * i + 3))) := fun s hs => (((fSol_iff hG).mp hs).2.1 i (by omega) c.1).1 c.2
      obtain ⟨y', D', a1, a2, a3, a4, a5, a6⟩ := ih (i + 1) (by omega) fu (by omega) (upd y (8 * vN (g (5 * i + 2)) + vN (g (5 * i + 3))) (nI 1)) (one2 D (vN (g (5 * i + 2))) (vN (g (5 * i + 3)))) (fun a b ha hb => by
          by_cases e : a = vN (g (5 * i + 2)) ∧ b = vN (g (5 * i + 3))
          · rw [one2_t e, e.1, e.2, upd_s]
          · rw [one2_f e, upd_n _ _ (by omega)]
            exact h1 a b ha hb) (fun a b ha hb => by
          by_cases e : a = vN (g (5 * i + 2)) ∧ b = vN (g (5 * i + 3))
          · rw [one2_t e]; omega
          · rw [one2_f e]; exact h2 a b ha hb) (fun a b ha hb => by
          by_cases e : a = vN (g (5 * i + 2)) ∧ b = vN (g (5 * i + 3))
          · rw [one2_t e, e.1, e.2]
            intro _ s hs
            exact hF s hs
          · rw [one2_f e]; exact h3 a b ha hb)
      refine ⟨y', D', ?_, a2, a3, a4, fun a b ha hb => ?_, fun q q1 q2 q3 q4 => ?_⟩
      · unfold f_X0_countCuts_L1
        rw [if_neg (nI_ge (by omega) (by omega)), bitI hS (by omega), if_pos c.1, if_neg n10, gin_n (by omega) (by decide), chk_t, cl_n (by omega), t2, if_neg (nI_nm1 (by omega)), chk_t, chk_t, t1, show (8 : Int32) * nI (vN (g (5 * i + 2))) + nI (vN (g (5 * i + 3))) = nI (8 * vN (g (5 * i + 2)) + vN (g (5 * i + 3))) from by simp (disch := omega) only [↓lm1, ln0, ln1, ln2, ln3, ln4, ln5, ln6, ln7, ln8, ln9, ln10, ln11, ln12, ln13, ln14, ln15, ln16, ln17, ln18, ln19, ln20, ln21, ln22, ln26, ln30, ln31, ln32, ln36, ln39, ln40, ln48, ln50, ln59, ln60, ln61, ln63, ln64, ln80, ln97, ln99, ln100, ln103, ln122, ln192, ln220, ln240, ln255, ln260, ln290, ln300, ln370, ln410, ln430, ln460, ln920, ln960, ln999, ln1000, ln2000, ln26880, ln1000000, ofNat_nI, nI_add, pk_mul, pk_sub, nI_leP, nI_ltP, nI_eqP, nI_clamp, gin_n, chk_t, nm_s, bd1_s, bd2_s, bd3_s, bd4_s, bI_n0, bI_1, chk_gz_bI, if_pos, if_neg, if_true, if_false, ite_some, nI_m1, m1_nI, m1_le, le_m1, m1_lt, lt_m1, m1_1, n_m1, n0_m1, m1_m1, not_true_eq_false, not_false_eq_true], gin_n (by omega) (by decide), chk_t, nm_s, cl_n (by omega), nI_1]
        exact a1
      · have := a5 a b ha hb
        by_cases e : a = vN (g (5 * i + 2)) ∧ b = vN (g (5 * i + 3))
        · rw [one2_t e] at this
          have := h2 a b ha hb
          omega
        · rw [one2_f e] at this; exact this
      · by_cases e : q = i
        · subst e
          have := a5 _ _ k3 e2
          rw [one2_t ⟨rfl, rfl⟩] at this
          exact this
        · exact a6 q (by omega) q2 q3 q4
    · obtain ⟨y', D', a1, a2, a3, a4, a5, a6⟩ := ih (i + 1) (by omega) fu (by omega) y D h1 h2 h3
      refine ⟨y', D', ?_, a2, a3, a4, a5, fun q q1 q2 q3 q4 => ?_⟩
      · unfold f_X0_countCuts_L1
        rw [if_neg (nI_ge (by omega) (by omega)), bitI hS (by omega)]
        by_cases d : S.testBit i = true
        · rw [if_pos d, if_neg n10, gin_n (by omega) (by decide), chk_t, cl_n (by omega), t2, if_neg (fun z => c ⟨d, z⟩), if_pos rfl, nI_1]
          exact a1
        · rw [if_neg d, if_pos (by rfl), nI_1]
          exact a1
      · by_cases e : q = i
        · subst e; exact absurd ⟨q3, q4⟩ c
        · exact a6 q (by omega) q2 q3 q4
/-- one step by a ridge -/
def FF (D : Nat → Nat → Nat) (k a b : Nat) : Nat := if 0 < D a k ∧ 0 < D k b then (if D a b < D a k + D k b then D a k + D k b else D a b) else D a b
def MX (D : Nat → Nat → Nat) (k a b a' b' : Nat) : Nat := if a' < a ∨ (a' = a ∧ b' < b) then FF D k a' b' else D a' b'
theorem FF_k {D : Nat → Nat → Nat} {k : Nat} (h : D k k = 0) (a : Nat) : FF D k a k = D a k ∧ FF D k k a = D k a := by
  unfold FF
  rw [if_neg (by omega), if_neg (by omega)]
  exact ⟨rfl, rfl⟩
theorem MX_k {D : Nat → Nat → Nat} {k : Nat} (h : D k k = 0) (a b c : Nat) : MX D k a b c k = D c k ∧ MX D k a b k c = D k c := by
  unfold MX
  rw [(FF_k h c).1, (FF_k h c).2]
  constructor
  · split <;> rfl
  · split <;> rfl
theorem X_cutsBL {D : Nat → Nat → Nat} {k a : Nat} (hD : D k k = 0) (hb : DB D) (hk : k < 8) (ha : a < 8) : ∀ n b, b + n = 8 → ∀ fu, n < fu → ∀ y, DR y (MX D k a b) → ∃ y', f_X0_countCuts_L14 (nI a) (nI k) fu y (nI b) = some y' ∧ DR y' (MX D k (a + 1) 0) := by
  intro n
  induction n with
  | zero =>
    intro b hb' fu hfu y hy
    obtain ⟨fu, rfl⟩ : ∃ n, fu = n + 1 := ⟨fu - 1, by omega⟩
    obtain rfl : b = 8 := by omega
    refine ⟨y, ?_, fun a' b' h1 h2 => ?_⟩
    · unfold f_X0_countCuts_L14
      rw [if_pos (by decide)]
    · rw [hy a' b' h1 h2]
      unfold MX
      by_cases c : a' < a ∨ a' = a ∧ b' < 8
      · rw [if_pos c, if_pos (by omega)]
      · rw [if_neg c, if_neg (by omega)]
  | succ n ih =>
    intro b hb' fu hfu y hy
    obtain ⟨fu, rfl⟩ : ∃ n, fu = n + 1 := ⟨fu - 1, by omega⟩
    have c1 : f_X0_cuts y (nI a) (nI k) = some (nI (D a k)) := by rw [X_cuts hy ha hk, (MX_k hD a b a).1]
    have c2 : f_X0_cuts y (nI k) (nI b) = some (nI (D k b)) := by rw [X_cuts hy hk (by omega), (MX_k hD a b b).2]
    have c3 : f_X0_cuts y (nI a) (nI b) = some (nI (D a b)) := by
      rw [X_cuts hy ha (by omega)]
      unfold MX
      rw [if_neg (by omega)]
    have b1 := hb a k ha hk
    have b2 := hb k b hk (by omega)
    have b3 := hb a b ha (by omega)
    have same : FF D k a b = D a b → DR y (MX D k a (b + 1)) := fun e a' b' h1 h2 => by
      rw [hy a' b' h1 h2]
      unfold MX
      by_cases z : a' = a ∧ b' = b
      · rw [if_neg (by omega), if_pos (by omega), z.1, z.2, e]
      · by_cases w : a' < a ∨ a' = a ∧ b' < b
        · rw [if_pos w, if_pos (by omega)]
        · rw [if_neg w, if_neg (by omega)]
    unfold f_X0_countCuts_L14
    rw [if_neg (show ¬ (8 : Int32) ≤ nI b from nI_ge (b := 8) (by omega) (by decide)), c1, bd1_s, nI_1]
    by_cases d1 : D a k = 0
    · rw [if_pos (show nI (D a k) ≤ 0 from nI_le (b := 0) (by omega) (by decide))]
      exact ih (b + 1) (by omega) fu (by omega) y (same (by unfold FF; rw [if_neg (by omega)]))
    · rw [if_neg (nI_nle (by omega) (by omega)), c2, bd1_s]
      by_cases d2 : D k b = 0
      · rw [if_pos (show nI (D k b) ≤ 0 from nI_le (b := 0) (by omega) (by decide))]
        exact ih (b + 1) (by omega) fu (by omega) y (same (by unfold FF; rw [if_neg (by omega)]))
      · have eF : (if nI (D a b) < nI (D a k + D k b) then nI (D a k + D k b) else nI (D a b)) = nI (FF D k a b) := by
          unfold FF
          rw [if_pos (show 0 < D a k ∧ 0 < D k b by omega)]
          by_cases w : D a b < D a k + D k b
          · rw [if_pos w, if_pos (nI_lt w (by omega))]
          · rw [if_neg w, if_neg (nI_nlt (by omega) (by omega))]
        rw [if_neg (nI_nle (by omega) (by omega)), bd1_s, bd1_s, nI_add, nm_s, c3, bd1_s, eF, nm_s, show (8 : Int32) * nI a + nI b = nI (8 * a + b) from by simp (disch := omega) only [↓lm1, ln0, ln1, ln2, ln3, ln4, ln5, ln6, ln7, ln8, ln9, ln10, ln11, ln12, ln13, ln14, ln15, ln16, ln17, ln18, ln19, ln20, ln21, ln22, ln26, ln30, ln31, ln32, ln36, ln39, ln40, ln48, ln50, ln59, ln60, ln61, ln63, ln64, ln80, ln97, ln99, ln100, ln103, ln122, ln192, ln220, ln240, ln255, ln260, ln290, ln300, ln370, ln410, ln430, ln460, ln920, ln960, ln999, ln1000, ln2000, ln26880, ln1000000, ofNat_nI, nI_add, pk_mul, pk_sub, nI_leP, nI_ltP, nI_eqP, nI_clamp, gin_n, chk_t, nm_s, bd1_s, bd2_s, bd3_s, bd4_s, bI_n0, bI_1, chk_gz_bI, if_pos, if_neg, if_true, if_false, ite_some, nI_m1, m1_nI, m1_le, le_m1, m1_lt, lt_m1, m1_1, n_m1, n0_m1, m1_m1, not_true_eq_false, not_false_eq_true], gin_n (by omega) (by decide), chk_t, nm_s, cl_n (by omega)]
        refine ih (b + 1) (by omega) fu (by omega) _ (fun a' b' h1 h2 => ?_)
        by_cases z : a' = a ∧ b' = b
        · rw [z.1, z.2, upd_s]
          unfold MX
          rw [if_pos (by omega)]
        · rw [upd_n _ _ (by omega), hy a' b' h1 h2]
          unfold MX
          by_cases w : a' < a ∨ a' = a ∧ b' < b
          · rw [if_pos w, if_pos (by omega)]
          · rw [if_neg w, if_neg (by omega)]
theorem X_cutsAL {D : Nat → Nat → Nat} {k : Nat} (hD : D k k = 0) (hb : DB D) (hk : k < 8) : ∀ n a, a + n = 8 → ∀ fu, n < fu → ∀ y, DR y (MX D k a 0) → ∃ y', f_X0_countCuts_L13 (nI k) fu y (nI a) = some y' ∧ DR y' (FF D k) := by
  intro n
  induction n with
  | zero =>
    intro a ha fu hfu y hy
    obtain ⟨fu, rfl⟩ : ∃ n, fu = n + 1 := ⟨fu - 1, by omega⟩
    obtain rfl : a = 8 := by omega
    refine ⟨y, ?_, fun a' b' h1 h2 => ?_⟩
    · unfold f_X0_countCuts_L13
      rw [if_pos (by decide)]
    · rw [hy a' b' h1 h2]
      unfold MX
      rw [if_pos (Or.inl h1)]
  | succ n ih =>
    intro a ha fu hfu y hy
    obtain ⟨fu, rfl⟩ : ∃ n, fu = n + 1 := ⟨fu - 1, by omega⟩
    obtain ⟨y1, a1, a2⟩ := X_cutsBL hD hb hk (show a < 8 by omega) 8 0 rfl FU (FU_big (by decide)) y hy
    have a1' : f_X0_countCuts_L14 (nI a) (nI k) FU y 0 = some y1 := a1
    obtain ⟨y2, b1, b2⟩ := ih (a + 1) (by omega) fu (by omega) y1 a2
    refine ⟨y2, ?_, b2⟩
    unfold f_X0_countCuts_L13
    rw [if_neg (show ¬ (8 : Int32) ≤ nI a from nI_ge (b := 8) (by omega) (by decide)), a1', bd1_s, nI_1]
    exact b1
theorem FF_le (D : Nat → Nat → Nat) (k a b : Nat) : D a b ≤ FF D k a b := by
  unfold FF
  split
  · split <;> omega
  · exact Nat.le_refl _
theorem FF_snd {C : (Nat → Int) → Prop} {D : Nat → Nat → Nat} (h : SND C D) {k : Nat} (hk : k < 8) : SND C (FF D k) := by
  intro a b ha hb hp s hs
  unfold FF at hp ⊢
  by_cases c : 0 < D a k ∧ 0 < D k b
  · rw [if_pos c] at hp ⊢
    have e1 := h a k ha hk c.1 s hs
    have e2 := h k b hk hb c.2 s hs
    by_cases d : D a b < D a k + D k b
    · rw [if_pos d]
      omega
    · rw [if_neg d] at hp ⊢
      exact h a b ha hb (by omega) s hs
  · rw [if_neg c] at hp ⊢
    exact h a b ha hb hp s hs
theorem SND_b {C : (Nat → Int) → Prop} {D : Nat → Nat → Nat} (h : SND C D) (hC : ∃ s, C s ∧ ∀ r, r < 8 → 0 ≤ s r ∧ s r ≤ 999) : DB D ∧ ∀ k, k < 8 → D k k = 0 := by
  obtain ⟨s, hs, hb⟩ := hC
  refine ⟨fun a b ha hb' => ?_, fun k hk => ?_⟩
  · by_cases c : D a b = 0
    · omega
    · have e := h a b ha hb' (by omega) s hs
      have e1 := hb a ha
      have e2 := hb b hb'
      omega
  · by_cases c : D k k = 0
    · exact c
    · have e := h k k hk hk (by omega) s hs
      omega
theorem FF_tr {D : Nat → Nat → Nat} {k : Nat} (hD : D k k = 0) (h : ∀ j, j < k → ∀ a b, a < 8 → b < 8 → 0 < D a j → 0 < D j b → D a j + D j b ≤ D a b) (hk : k < 8) : ∀ j, j < k + 1 → ∀ a b, a < 8 → b < 8 → 0 < FF D k a j → 0 < FF D k j b → FF D k a j + FF D k j b ≤ FF D k a b := by
  intro j hj a b ha hb h1 h2
  by_cases e : j = k
  · subst e
    rw [(FF_k hD a).1] at h1 ⊢
    rw [(FF_k hD b).2] at h2 ⊢
    unfold FF
    rw [if_pos ⟨h1, h2⟩]
    split <;> omega
  · have hj8 : j < 8 := by omega
    have hjk : j < k := by omega
    have gr := FF_le D k a b
    have thr : 0 < D a k → 0 < D k b → D a k + D k b ≤ FF D k a b := fun p q => by
      unfold FF
      rw [if_pos ⟨p, q⟩]
      split <;> omega
    -- the first part
    have p1 : (FF D k a j = D a j ∧ 0 < D a j) ∨ (0 < D a k ∧ 0 < D k j ∧ FF D k a j = D a k + D k j) := by
      unfold FF at h1 ⊢
      by_cases c : 0 < D a k ∧ 0 < D k j
      · rw [if_pos c] at h1 ⊢
        by_cases d : D a j < D a k + D k j
        · rw [if_pos d]; exact Or.inr ⟨c.1, c.2, rfl⟩
        · rw [if_neg d]; exact Or.inl ⟨rfl, by omega⟩
      · rw [if_neg c] at h1 ⊢
        exact Or.inl ⟨rfl, h1⟩
    have p2 : (FF D k j b = D j b ∧ 0 < D j b) ∨ (0 < D j k ∧ 0 < D k b ∧ FF D k j b = D j k + D k b) := by
      unfold FF at h2 ⊢
      by_cases c : 0 < D j k ∧ 0 < D k b
      · rw [if_pos c] at h2 ⊢
        by_cases d : D j b < D j k + D k b
        · rw [if_pos d]; exact Or.inr ⟨c.1, c.2, rfl⟩
        · rw [if_neg d]; exact Or.inl ⟨rfl, by omega⟩
      · rw [if_neg c] at h2 ⊢
        exact Or.inl ⟨rfl, h2⟩
    rcases p1 with ⟨e1, q1⟩ | ⟨q1, q2, e1⟩
    · rcases p2 with ⟨e2, q3⟩ | ⟨q3, q4, e2⟩
      · have := h j hjk a b ha hb q1 q3
        omega
      · have t1 := h j hjk a k ha hk q1 q3
        have t2 := thr (by omega) q4
        omega
    · rcases p2 with ⟨e2, q3⟩ | ⟨q3, q4, e2⟩
      · have t1 := h j hjk k b hk hb q2 q3
        have t2 := thr q1 (by omega)
        omega
      · have t1 := h j hjk k k hk hk q2 q3
        omega
theorem X_cutsKL {C : (Nat → Int) → Prop} (hC : ∃ s, C s ∧ ∀ r, r < 8 → 0 ≤ s r ∧ s r ≤ 999) : ∀ n k, k + n = 8 → ∀ fu, n < fu → ∀ y D, DR y D → SND C D → (∀ j, j < k → ∀ a b, a < 8 → b < 8 → 0 < D a j → 0 < D j b → D a j + D j b ≤ D a b) → ∃ y' D', f_X0_countCuts_L10 fu y (nI k) = some y' ∧ DR y' D' ∧ SND C D' ∧ (∀ j, j < 8 → ∀ a b, a < 8 → b < 8 → 0 < D' a j → 0 < D' j b → D' a j + D' j b ≤ D' a b) ∧ ∀ a b, D a b ≤ D' a b := by
  intro n
  induction n with
  | zero =>
    intro k hk fu hfu y D h1 h2 h3
    obtain ⟨fu, rfl⟩ : ∃ n, fu = n + 1 := ⟨fu - 1, by omega⟩
    obtain rfl : k = 8 := by omega
    refine ⟨y, D, ?_, h1, h2, h3, fun _ _ => Nat.le_refl _⟩
    unfold f_X0_countCuts_L10
    rw [if_pos (by decide)]
  | succ n ih =>
    intro k hk fu hfu y D h1 h2 h3
    obtain ⟨fu, rfl⟩ : ∃ n, fu = n + 1 := ⟨fu - 1, by omega⟩
    obtain ⟨b1, b2⟩ := SND_b h2 hC
    have hD := b2 k (by omega)
    obtain ⟨y1, a1, a2⟩ := X_cutsAL hD b1 (show k < 8 by omega) 8 0 rfl FU (FU_big (by decide)) y (fun a b ha hb => by
      rw [h1 a b ha hb]
      unfold MX
      rw [if_neg (by omega)])
    have a1' : f_X0_countCuts_L13 (nI k) FU y 0 = some y1 := a1
    obtain ⟨y2, D2, c1, c2, c3, c4, c5⟩ := ih (k + 1) (by omega) fu (by omega) y1 (FF D k) a2 (FF_snd h2 (by omega)) (FF_tr hD h3 (by omega))
    refine ⟨y2, D2, ?_, c2, c3, c4, fun a b => Nat.le_trans (FF_le D k a b) (c5 a b)⟩
    unfold f_X0_countCuts_L10
    rw [if_neg (show ¬ (8 : Int32) ≤ nI k from nI_ge (b := 8) (by omega) (by decide)), a1', bd1_s, nI_1]
    exact c1
/-- what the class knows of cuts -/
def CUT (nf : Nat) (g : Nat → Int32) (S : Nat) (C : (Nat → Int) → Prop) (D : Nat → Nat → Nat) : Prop := SND C D ∧ (∀ j, j < 8 → ∀ a b, a < 8 → b < 8 → 0 < D a j → 0 < D j b → D a j + D j b ≤ D a b) ∧ ∀ q, q < nf → S.testBit q = true → vN (g (5 * q + 1)) = 0 → 1 ≤ D (vN (g (5 * q + 2))) (vN (g (5 * q + 3)))
theorem X_countCuts (hG : FG sl fa nf nr g) (hS : S < 2 ^ 16) {ro ol lw hg : Nat → Int32} (hT : ∀ q, q < nf → TK sl fa g ro ol lw hg q) (hC : ∃ s, fSol sl fa nf g S z0 z9 noX s) (cb : Nat → Int32) : ∃ y' D, f_X0_countCuts (nI nf) cb ol ro (nI S) = some y' ∧ DR y' D ∧ CUT nf g S (fSol sl fa nf g S z0 z9 noX) D := by
  have hn := hG.1
  obtain ⟨c0, a1, a2⟩ := fillA (n := 64) 0 (by decide) (by decide) cb
  obtain ⟨y1, D1, b1, b2, b3, b4, b5, b6⟩ := X_cut1L hG hS hT nf 0 (by omega) FU (FU_big (by omega)) c0 (fun _ _ => 0) (fun a b ha hb => a2 _ (by omega)) (fun _ _ _ _ => Nat.zero_le _) (fun a b _ _ h => absurd h (Nat.lt_irrefl 0))
  have b1' : f_X0_countCuts_L1 (nI nf) (nI S) ol ro FU c0 0 = some y1 := b1
  obtain ⟨y2, D2, c1, c2, c3, c4, c5⟩ := X_cutsKL (C := fSol sl fa nf g S z0 z9 noX) (by
    obtain ⟨s, hs⟩ := hC
    exact ⟨s, hs, ((fSol_iff hG).mp hs).1⟩) 8 0 rfl FU (FU_big (by decide)) y1 D1 b2 b4 (fun j hj => by omega)
  have c1' : f_X0_countCuts_L10 FU y1 0 = some y2 := c1
  refine ⟨y2, D2, ?_, c2, c3, c4, fun q q1 q2 q3 => Nat.le_trans (b6 q (Nat.zero_le _) q1 q2 q3) (c5 _ _)⟩
  unfold f_X0_countCuts
  rw [a1, bd1_s, b1', bd1_s, c1', bd1_s]
/-! ages with one ridge's age given -/
def upS (L : Nat → Int) (D : Nat → Nat → Nat) (a : Nat) (x : Int) (r : Nat) : Int := if r = a then x else if 0 < D a r then (if L r < x + (D a r : Int) then x + (D a r : Int) else L r) else L r
def dnS (H : Nat → Int) (D : Nat → Nat → Nat) (a : Nat) (x : Int) (r : Nat) : Int := if r = a then x else if 0 < D r a then (if x - (D r a : Int) < H r then x - (D r a : Int) else H r) else H r
theorem upS_ok (hG : FG sl fa nf nr g) {L H : Nat → Int} {D : Nat → Nat → Nat} (hB : pB sl fa nf g S L H) (hD : CUT nf g S (fSol sl fa nf g S z0 z9 noX) D) {a : Nat} {x : Int} (ha : a < 8) (h1 : L a ≤ x) (h2 : x ≤ H a) : fSol sl fa nf g S z0 z9 noX (upS L D a x) := by
  obtain ⟨⟨l1, l2, l3⟩, ⟨g1, g2, g3⟩, hm⟩ := hB
  obtain ⟨d1, d2, d3⟩ := hD
  have lo : ∀ r, L r ≤ upS L D a x r := fun r => by
    unfold upS
    by_cases e : r = a
    · subst e; rw [if_pos rfl]; exact h1
    · rw [if_neg e]
      split
      · split <;> omega
      · exact Int.le_refl _
  have up : ∀ r, r < 8 → upS L D a x r ≤ H r := fun r hr => by
    have m := hm H ⟨g1, g2, g3⟩ r hr
    unfold upS
    by_cases e : r = a
    · subst e; rw [if_pos rfl]; exact h2
    · rw [if_neg e]
      by_cases c : 0 < D a r
      · have := d1 a r ha hr c H ⟨g1, g2, g3⟩
        rw [if_pos c]
        split <;> omega
      · rw [if_neg c]; exact m.1
  have daa : D a a = 0 := by
    by_cases c : D a a = 0
    · exact c
    · have := d1 a a ha ha (by omega) L ⟨l1, l2, l3⟩
      omega
  refine ⟨fun r c hr hc => Int.le_trans (l1 r c hr hc) (lo r), fun r c hr hc => Int.le_trans (up r hr) (g2 r c hr hc), fun u v w e => ?_⟩
  rcases e with ⟨i, i1, i2, i3, rfl, rfl, rfl⟩ | ⟨z, -⟩
  · obtain ⟨k1, k2, k3, k4, k5, k6, k7⟩ := fg_k hG i1
    obtain ⟨e1, e2, e3⟩ := k6 i3
    have hL := l3 _ _ 1 (Or.inl ⟨i, i1, i2, i3, rfl, rfl, rfl⟩)
    have hd := d3 i i1 i2 i3
    generalize vN (g (5 * i + 2)) = u at *
    generalize vN (g (5 * i + 3)) = v at *
    unfold upS
    by_cases eu : u = a
    · subst eu
      rw [if_pos rfl, if_neg e3, if_pos (by omega)]
      split <;> omega
    · rw [if_neg eu]
      by_cases cu : 0 < D a u
      · have ht := d2 u k3 a v ha e2 cu (by omega)
        by_cases ev : v = a
        · subst ev; omega
        · rw [if_pos cu, if_neg ev, if_pos (show 0 < D a v by omega)]
          split <;> split <;> omega
      · rw [if_neg cu]
        by_cases ev : v = a
        · subst ev; rw [if_pos rfl]; omega
        · rw [if_neg ev]
          split
          · split <;> omega
          · omega
  · exact z.elim
theorem dnS_ok (hG : FG sl fa nf nr g) {L H : Nat → Int} {D : Nat → Nat → Nat} (hB : pB sl fa nf g S L H) (hD : CUT nf g S (fSol sl fa nf g S z0 z9 noX) D) {a : Nat} {x : Int} (ha : a < 8) (h1 : L a ≤ x) (h2 : x ≤ H a) : fSol sl fa nf g S z0 z9 noX (dnS H D a x) := by
  obtain ⟨⟨l1, l2, l3⟩, ⟨g1, g2, g3⟩, hm⟩ := hB
  obtain ⟨d1, d2, d3⟩ := hD
  have up : ∀ r, dnS H D a x r ≤ H r := fun r => by
    unfold dnS
    by_cases e : r = a
    · subst e; rw [if_pos rfl]; exact h2
    · rw [if_neg e]
      split
      · split <;> omega
      · exact Int.le_refl _
  have lo : ∀ r, r < 8 → L r ≤ dnS H D a x r := fun r hr => by
    have m := hm L ⟨l1, l2, l3⟩ r hr
    unfold dnS
    by_cases e : r = a
    · subst e; rw [if_pos rfl]; exact h1
    · rw [if_neg e]
      by_cases c : 0 < D r a
      · have := d1 r a hr ha c L ⟨l1, l2, l3⟩
        rw [if_pos c]
        split <;> omega
      · rw [if_neg c]; exact m.2
  have daa : D a a = 0 := by
    by_cases c : D a a = 0
    · exact c
    · have := d1 a a ha ha (by omega) L ⟨l1, l2, l3⟩
      omega
  refine ⟨fun r c hr hc => Int.le_trans (l1 r c hr hc) (lo r hr), fun r c hr hc => Int.le_trans (up r) (g2 r c hr hc), fun u v w e => ?_⟩
  rcases e with ⟨i, i1, i2, i3, rfl, rfl, rfl⟩ | ⟨z, -⟩
  · obtain ⟨k1, k2, k3, k4, k5, k6, k7⟩ := fg_k hG i1
    obtain ⟨e1, e2, e3⟩ := k6 i3
    have hH := g3 _ _ 1 (Or.inl ⟨i, i1, i2, i3, rfl, rfl, rfl⟩)
    have hd := d3 i i1 i2 i3
    generalize vN (g (5 * i + 2)) = u at *
    generalize vN (g (5 * i + 3)) = v at *
    unfold dnS
    by_cases ev : v = a
    · subst ev
      rw [if_pos rfl, if_neg (fun z => e3 z.symm), if_pos (by omega)]
      split <;> omega
    · rw [if_neg ev]
      by_cases cv : 0 < D v a
      · have ht := d2 v e2 u a k3 ha (by omega) cv
        by_cases eu : u = a
        · subst eu; omega
        · rw [if_pos cv, if_neg eu, if_pos (show 0 < D u a by omega)]
          split <;> split <;> omega
      · rw [if_neg cv]
        by_cases eu : u = a
        · subst eu; rw [if_pos rfl]; omega
        · rw [if_neg eu]
          split
          · split <;> omega
          · omega
  · exact z.elim
end CT
