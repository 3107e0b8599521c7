/-! ===== bits, least of a row, likeness of rows ===== -/
theorem nI_or (a b : Nat) : nI a ||| nI b = nI (a ||| b) := Int32.toBitVec_inj.mp (BitVec.ofNat_or (w := 32) (x := a) (y := b)).symm
theorem nI_and (a b : Nat) : nI a &&& nI b = nI (a &&& b) := Int32.toBitVec_inj.mp (BitVec.ofNat_and (w := 32) (x := a) (y := b)).symm
theorem shl1 : ∀ a, a ≤ 20 → (1 : Int32) <<< (nI a &&& 31) = nI (2 ^ a) := by decide +kernel
theorem shl2 {b : Nat} (h : b < 2 ^ 30) : nI b <<< ((1 : Int32) &&& 31) = nI (b * 2) := by
  have := pk_shlN (n := b) ((1 : Int32) &&& 31) 1 (by decide) (by omega)
  rw [Nat.pow_one] at this
  exact this
theorem mnF_le (f : Nat → Nat) : ∀ n k, k < n → mnF f n ≤ f k
  | 0, _, h => by omega
  | n + 1, k, h => by
    unfold mnF
    by_cases c : f n < mnF f n
    · rw [if_pos c]
      by_cases e : k = n
      · subst e; exact Nat.le_refl _
      · have := mnF_le f n k (by omega); omega
    · rw [if_neg c]
      by_cases e : k = n
      · subst e; omega
      · exact mnF_le f n k (by omega)
theorem mnF_m (f : Nat → Nat) : ∀ n, mnF f n ≤ 1000000
  | 0 => Nat.le_refl _
  | n + 1 => by
    unfold mnF
    have := mnF_m f n
    by_cases c : f n < mnF f n
    · rw [if_pos c]; omega
    · rw [if_neg c]; exact this
theorem amF_s (f : Nat → Nat) : ∀ n, mnF f n < 1000000 → amF f n < n ∧ f (amF f n) = mnF f n ∧ ∀ k, k < amF f n → mnF f n < f k
  | 0, h => by unfold mnF at h; omega
  | n + 1, h => by
    unfold mnF at h ⊢
    unfold amF
    by_cases c : f n < mnF f n
    · rw [if_pos c, if_pos c]
      refine ⟨by omega, rfl, fun k hk => ?_⟩
      have := mnF_le f n k hk
      omega
    · rw [if_neg c] at h ⊢
      rw [if_neg c]
      obtain ⟨h1, h2, h3⟩ := amF_s f n h
      exact ⟨by omega, h2, h3⟩
theorem mnF_hi {f : Nat → Nat} {a : Nat} : ∀ n, a ≤ n → (∀ k, a ≤ k → k < n → 1000000 ≤ f k) → mnF f n = mnF f a ∧ amF f n = amF f a
  | 0, h, _ => by
    have : a = 0 := by omega
    subst this; exact ⟨rfl, rfl⟩
  | n + 1, h, hf => by
    by_cases e : a = n + 1
    · subst e; exact ⟨rfl, rfl⟩
    · obtain ⟨h1, h2⟩ := mnF_hi n (by omega) (fun k a b => hf k a (by omega))
      have c : ¬ f n < mnF f n := by
        have := mnF_m f n
        have := hf n (by omega) (by omega)
        omega
      constructor
      · show (if f n < mnF f n then f n else mnF f n) = _
        rw [if_neg c, h1]
      · show (if f n < mnF f n then n else amF f n) = _
        rw [if_neg c, h2]
theorem mnF_0 {f : Nat → Nat} {a : Nat} (hf : ∀ k, k < a → 1000000 ≤ f k) : mnF f a = 1000000 ∧ amF f a = 0 := mnF_hi (a := 0) a (Nat.zero_le _) (fun k _ h => hf k h)
theorem dst_c (a b : Nat) : dst a b = dst b a := by
  unfold dst
  by_cases c : a ≤ b
  · by_cases d : b ≤ a
    · rw [if_pos c, if_pos d]; omega
    · rw [if_pos c, if_neg d]
  · rw [if_neg c, if_pos (by omega)]
theorem abs_I {a b : Nat} (ha : a ≤ 20) (hb : b ≤ 20) : (if 0 ≤ nI b - nI a then nI b - nI a else 0 - (nI b - nI a)) = nI (dst a b) := by
  unfold dst
  by_cases c : a ≤ b
  · rw [pk_sub c, if_pos (nI_pos' (by omega)), if_pos c]
  · rw [if_neg (Int32.not_le.mpr (pk_sneg (by omega) (by omega))), if_neg c, ← pk_sub (show b ≤ a by omega)]
    have e : nI a = nI b + (nI a - nI b) := by rw [pk_sub (show b ≤ a by omega), nI_add]; congr 1; omega
    rw [Int32.zero_sub, Int32.neg_sub]
theorem likeRow {a n0 m0 i : Nat} {A B : Nat → Int32} (ha : a ≤ 16) (h1 : 5 * a ≤ n0) (h2 : 5 * a ≤ m0) (h3 : n0 < 1000) (h4 : m0 < 1000) (hi : i < a) : ∀ k j, j + k = 5 → ∀ fu, k < fu → ∀ x : Int32, (x = 0 ∨ (x = 1 ∧ ∀ c, c < j → A (5 * i + c) = B (5 * i + c))) → ∃ r, f_X4_isLike_L4 (nI a) n0 A (nI i) (nI a) m0 B fu x (nI j) = some r ∧ (r = 0 ∨ (r = 1 ∧ x = 1 ∧ ∀ c, c < 5 → A (5 * i + c) = B (5 * i + c))) := by
  intro k
  induction k with
  | zero =>
    intro j hj fu hfu x hx
    obtain ⟨fu, rfl⟩ : ∃ n, fu = n + 1 := ⟨fu - 1, by omega⟩
    obtain rfl : j = 5 := by omega
    refine ⟨x, ?_, ?_⟩
    · unfold f_X4_isLike_L4
      rw [if_pos (by decide)]
    · rcases hx with h | ⟨h, w⟩
      · exact Or.inl h
      · exact Or.inr ⟨h, h, w⟩
  | succ k ih =>
    intro j hj fu hfu x hx
    obtain ⟨fu, rfl⟩ : ∃ n, fu = n + 1 := ⟨fu - 1, by omega⟩
    unfold f_X4_isLike_L4
    rw [if_neg (show ¬ (5 : Int32) ≤ nI j from nI_ge (b := 5) (by omega) (by decide))]
    rcases hx with h | ⟨h, w⟩
    · rw [if_pos h, nI_1]
      obtain ⟨r, r1, r2⟩ := ih (j + 1) (by omega) fu (by omega) 0 (Or.inl rfl)
      refine ⟨r, r1, ?_⟩
      rcases r2 with z | ⟨-, z, -⟩
      · exact Or.inl z
      · exact absurd z (by decide)
    · rw [if_neg (by rw [h]; decide), X_cell hi (by omega) (by omega) h1 (by omega), X_cell hi (by omega) (by omega) h2 (by omega), bd1_s, bd1_s, nI_1]
      by_cases c : A (5 * i + j) = B (5 * i + j)
      · rw [if_pos c]
        obtain ⟨r, r1, r2⟩ := ih (j + 1) (by omega) fu (by omega) 1 (Or.inr ⟨rfl, fun q hq => by
          by_cases e : q = j
          · subst e; exact c
          · exact w q (by omega)⟩)
        refine ⟨r, r1, ?_⟩
        rcases r2 with z | ⟨z1, -, z2⟩
        · exact Or.inl z
        · exact Or.inr ⟨z1, h, z2⟩
      · rw [if_neg c]
        obtain ⟨r, r1, r2⟩ := ih (j + 1) (by omega) fu (by omega) 0 (Or.inl rfl)
        refine ⟨r, r1, ?_⟩
        rcases r2 with z | ⟨-, z, -⟩
        · exact Or.inl z
        · exact absurd z (by decide)
theorem likeRows {a n0 m0 : Nat} {A B : Nat → Int32} (ha : a ≤ 16) (h1 : 5 * a ≤ n0) (h2 : 5 * a ≤ m0) (h3 : n0 < 1000) (h4 : m0 < 1000) : ∀ k i, i + k = a → ∀ fu, k < fu → (∀ q, q < i → ∀ c, c < 5 → A (5 * q + c) = B (5 * q + c)) → ∃ r, f_X4_isLike_L3 (nI a) n0 A (nI a) m0 B fu 1 (nI i) = some r ∧ (r = 0 ∨ (r = 1 ∧ ∀ q, q < a → ∀ c, c < 5 → A (5 * q + c) = B (5 * q + c))) := by
  intro k
  induction k with
  | zero =>
    intro i hi fu hfu hq
    obtain ⟨fu, rfl⟩ : ∃ n, fu = n + 1 := ⟨fu - 1, by omega⟩
    obtain rfl : i = a := by omega
    refine ⟨1, ?_, Or.inr ⟨rfl, hq⟩⟩
    unfold f_X4_isLike_L3
    rw [if_pos (Int32.le_refl _)]
  | succ k ih =>
    intro i hi fu hfu hq
    obtain ⟨fu, rfl⟩ : ∃ n, fu = n + 1 := ⟨fu - 1, by omega⟩
    obtain ⟨r, r1, r2⟩ := likeRow (A := A) (B := B) ha h1 h2 h3 h4 (show i < a by omega) 5 0 rfl FU (FU_big (by omega)) 1 (Or.inr ⟨rfl, fun c hc => by omega⟩)
    unfold f_X4_isLike_L3
    rw [if_neg (nI_ge (by omega) (by omega)), if_neg one0, show f_X4_isLike_L4 (nI a) n0 A (nI i) (nI a) m0 B FU 1 0 = some r from r1, bd1_s, nI_1]
    rcases r2 with z | ⟨z1, -, z2⟩
    · subst z
      obtain ⟨fu, rfl⟩ : ∃ n, fu = n + 1 := ⟨fu - 1, by omega⟩
      refine ⟨0, ?_, Or.inl rfl⟩
      unfold f_X4_isLike_L3
      by_cases c : nI a ≤ nI (i + 1)
      · rw [if_pos c]
      · rw [if_neg c, if_pos rfl]
    · subst z1
      exact ih (i + 1) (by omega) fu (by omega) (fun q hq2 => by
        by_cases e : q = i
        · subst e; exact z2
        · exact hq q (by omega))
theorem likeAll {a b n0 m0 : Nat} {A B : Nat → Int32} (ha : a ≤ 16) (hb : b ≤ 16) (h1 : 5 * a ≤ n0) (h2 : 5 * b ≤ m0) (h3 : n0 < 1000) (h4 : m0 < 1000) : ∃ r, f_X4_isLike (nI a) (nI b) n0 A m0 B = some r ∧ (r = 0 ∨ (r = 1 ∧ a = b ∧ ∀ q, q < a → ∀ c, c < 5 → A (5 * q + c) = B (5 * q + c))) := by
  unfold f_X4_isLike
  by_cases c : a = b
  · subst c
    obtain ⟨r, r1, r2⟩ := likeRows (A := A) (B := B) ha h1 h2 h3 h4 a 0 (by omega) FU (FU_big (by omega)) (fun q hq => by omega)
    rw [if_pos rfl, bd1_s, show f_X4_isLike_L3 (nI a) n0 A (nI a) m0 B FU 1 0 = some r from r1, bd1_s]
    rcases r2 with z | ⟨z1, z2⟩
    · subst z
      exact ⟨0, rfl, Or.inl rfl⟩
    · subst z1
      exact ⟨1, rfl, Or.inr ⟨rfl, rfl, z2⟩⟩
  · rw [if_neg (fun z => c ((nI_eq (by omega) (by omega)).mp z)), bd1_s]
    have e : f_X4_isLike_L3 (nI a) n0 A (nI b) m0 B FU 0 0 = some 0 := by
      unfold FU
      unfold f_X4_isLike_L3
      by_cases z : nI a ≤ 0
      · rw [if_pos z]
      · rw [if_neg z, if_pos rfl]
    rw [e, bd1_s]
    exact ⟨0, rfl, Or.inl rfl⟩
