/-! ===== flow ===== -/
/-- the neighbour in a direction, -1 where there is none -/
def nbI (p d : Nat) : Int32 := match f_X10_beside (nI p) (nI d) with
  | some r => r
  | none => 0
theorem nb_M : ∀ p, p < 64 → ∀ d, d < 8 → f_X10_beside (nI p) (nI d) = some (nbI p d) := by decide +kernel
theorem nb_X : ∀ p, p < 64 → ∀ d, d < 8 → f_X7_placeBeside (nI p) (nI d) = some (nbI p d) := by decide +kernel
theorem nb_X1 : ∀ p, p < 64 → f_X7_placeBeside (nI p) (-1) = some (-1) := by decide +kernel
theorem nb_r : ∀ p, p < 64 → ∀ d, d < 8 → nbI p d = -1 ∨ (vN (nbI p d) < 64 ∧ nbI p d = nI (vN (nbI p d))) := by decide +kernel
/-- the loop over the last k directions: what is found, the least so far -/
def flowL (h : Nat → Int32) (p : Nat) : Nat → Int32 → Int32 → Int32
  | 0, f, _ => f
  | k + 1, f, l => if nbI p (8 - (k + 1)) = -1 then flowL h p k f l else if l ≤ h (vN (nbI p (8 - (k + 1)))) then flowL h p k f l else flowL h p k (nI (8 - (k + 1))) (h (vN (nbI p (8 - (k + 1)))))
/-- FLOW's direction, -1 where there is none -/
def flowI (h : Nat → Int32) (p : Nat) : Int32 := flowL h p 8 (-1) (h p)
theorem flowL_c {h h' : Nat → Int32} {p : Nat} (hp : p < 64) (e : ∀ q, q < 64 → h q = h' q) : ∀ k, k ≤ 8 → ∀ f l, flowL h p k f l = flowL h' p k f l := by
  intro k
  induction k with
  | zero => intro _ f l; rfl
  | succ k ih =>
    intro hk f l
    unfold flowL
    rcases nb_r p hp (8 - (k + 1)) (by omega) with q | ⟨q, -⟩
    · rw [if_pos q, if_pos q, ih (by omega)]
    · rw [e _ q, ih (by omega), ih (by omega)]
theorem flowI_c {h h' : Nat → Int32} {p : Nat} (hp : p < 64) (e : ∀ q, q < 64 → h q = h' q) : flowI h p = flowI h' p := by
  unfold flowI
  rw [flowL_c hp e 8 (Nat.le_refl 8), e p hp]
theorem M_height {bk : Nat → Int32} {s q : Nat} (hs : s < 3) (hq : q < 64) : f_X10_heightAt bk (nI s) (nI q) = some (bk (20 + (64 * s + q))) := by
  unfold f_X10_heightAt
  have e2 : (20 : Int32) + (64 : Int32) * nI s + nI q = nI (20 + (64 * s + q)) := by rw [show (64 : Int32) = nI 64 from rfl, show (20 : Int32) = nI 20 from rfl, pk_mul, nI_add, nI_add, Nat.add_assoc]
  rw [e2, gin_n (by omega) (by decide), chk_t, cl_n (by omega)]
theorem X_surf {n : Nat} {su : Nat → Int32} {s q : Nat} (hn : n = 192) (hs : s < 3) (hq : q < 64) : f_X7_surfaceAt n su (nI s) (nI q) = some (su (64 * s + q)) := by
  subst hn
  unfold f_X7_surfaceAt
  have e1 : (64 : Int32) * nI s + nI q = nI (64 * s + q) := by rw [show (64 : Int32) = nI 64 from rfl, pk_mul, nI_add]
  rw [e1, nm_s, if_neg (nI_pos (by omega)), if_neg (show ¬ Int32.ofNat 192 ≤ nI (64 * s + q) from nI_ge (by omega) (by decide)), gin_n (by omega) (by decide), chk_t, cl_n (by omega)]
theorem M_flowL {bk : Nat → Int32} {s p : Nat} (hs : s < 3) (hp : p < 64) : ∀ k, k ≤ 8 → ∀ fu, k < fu → ∀ f l, f_X10_flowOf_L1 (nI p) bk (nI s) fu f l (nI (8 - k)) = some (flowL (fun q => bk (20 + (64 * s + q))) p k f l) := by
  intro k
  induction k with
  | zero =>
    intro _ fu hfu f l
    obtain ⟨fu, rfl⟩ : ∃ n, fu = n + 1 := ⟨fu - 1, by omega⟩
    unfold f_X10_flowOf_L1
    rw [if_pos (by decide)]
    rfl
  | succ k ih =>
    intro hk fu hfu f l
    obtain ⟨fu, rfl⟩ : ∃ n, fu = n + 1 := ⟨fu - 1, by omega⟩
    unfold f_X10_flowOf_L1 flowL
    have en : nI (8 - (k + 1)) + 1 = nI (8 - k) := by rw [nI_1, show 8 - (k + 1) + 1 = 8 - k by omega]
    rw [if_neg (show ¬ (8 : Int32) ≤ nI (8 - (k + 1)) from nI_ge (b := 8) (by omega) (by omega)), nb_M p hp _ (by omega), bd1_s, en]
    rcases nb_r p hp (8 - (k + 1)) (by omega) with q | ⟨q, qe⟩
    · rw [if_pos q, if_pos q]
      exact ih (by omega) fu (by omega) f l
    · by_cases c : nbI p (8 - (k + 1)) = -1
      · rw [if_pos c, if_pos c]
        exact ih (by omega) fu (by omega) f l
      · rw [if_neg c, if_neg c]
        have e3 : f_X10_heightAt bk (nI s) (nbI p (8 - (k + 1))) = some (bk (20 + (64 * s + vN (nbI p (8 - (k + 1)))))) := by
          rw [qe, vN_n (by omega)]
          exact M_height hs q
        rw [e3, bd1_s, bd1_s]
        by_cases c2 : l ≤ bk (20 + (64 * s + vN (nbI p (8 - (k + 1)))))
        · rw [if_pos c2, if_pos c2]
          exact ih (by omega) fu (by omega) f l
        · rw [if_neg c2, if_neg c2]
          exact ih (by omega) fu (by omega) _ _
theorem X_flowL {n : Nat} {su : Nat → Int32} {s p : Nat} (hn : n = 192) (hs : s < 3) (hp : p < 64) : ∀ k, k ≤ 8 → ∀ fu, k < fu → ∀ f l, f_X7_directionOfFlow_L1 (nI p) n su (nI s) fu l f (nI (8 - k)) = some (flowL (fun q => su (64 * s + q)) p k f l) := by
  intro k
  induction k with
  | zero =>
    intro _ fu hfu f l
    obtain ⟨fu, rfl⟩ : ∃ n, fu = n + 1 := ⟨fu - 1, by omega⟩
    unfold f_X7_directionOfFlow_L1
    rw [if_pos (by decide)]
    rfl
  | succ k ih =>
    intro hk fu hfu f l
    obtain ⟨fu, rfl⟩ : ∃ n, fu = n + 1 := ⟨fu - 1, by omega⟩
    unfold f_X7_directionOfFlow_L1 flowL
    have en : nI (8 - (k + 1)) + 1 = nI (8 - k) := by rw [nI_1, show 8 - (k + 1) + 1 = 8 - k by omega]
    rw [if_neg (show ¬ (8 : Int32) ≤ nI (8 - (k + 1)) from nI_ge (b := 8) (by omega) (by omega)), nb_X p hp _ (by omega), bd1_s, en]
    rcases nb_r p hp (8 - (k + 1)) (by omega) with q | ⟨q, qe⟩
    · rw [if_pos q, if_pos q]
      exact ih (by omega) fu (by omega) f l
    · by_cases c : nbI p (8 - (k + 1)) = -1
      · rw [if_pos c, if_pos c]
        exact ih (by omega) fu (by omega) f l
      · rw [if_neg c, if_neg c]
        have e3 : f_X7_surfaceAt n su (nI s) (nbI p (8 - (k + 1))) = some (su (64 * s + vN (nbI p (8 - (k + 1))))) := by
          rw [qe, vN_n (by omega)]
          exact X_surf hn hs q
        rw [e3, bd1_s, bd1_s]
        by_cases c2 : l ≤ su (64 * s + vN (nbI p (8 - (k + 1))))
        · rw [if_pos c2, if_pos c2]
          exact ih (by omega) fu (by omega) f l
        · rw [if_neg c2, if_neg c2]
          exact ih (by omega) fu (by omega) _ _
theorem FU_big {k : Nat} (h : k < 1000000000) : k < FU := h
theorem M_flow {bk : Nat → Int32} {s p : Nat} (hs : s < 3) (hp : p < 64) : f_X10_flowOf bk (nI s) (nI p) = some (flowI (fun q => bk (20 + (64 * s + q))) p) := by
  unfold f_X10_flowOf
  rw [M_height hs hp, bd1_s, show (0 : Int32) = nI (8 - 8) from rfl, M_flowL hs hp 8 (Nat.le_refl 8) FU (FU_big (by decide)), bd1_s]
  rfl
theorem X_flow {n : Nat} {su : Nat → Int32} {s p : Nat} (hn : n = 192) (hs : s < 3) (hp : p < 64) : f_X7_directionOfFlow n su (nI s) (nI p) = some (flowI (fun q => su (64 * s + q)) p) := by
  unfold f_X7_directionOfFlow
  rw [X_surf hn hs hp, bd1_s, show (0 : Int32) = nI (8 - 8) from rfl, X_flowL hn hs hp 8 (Nat.le_refl 8) FU (FU_big (by decide)), bd1_s]
  rfl
/-- where FLOW goes: a direction, and a place that is lower -/
theorem flowL_to {h : Nat → Int32} {p : Nat} (hp : p < 64) : ∀ k, k ≤ 8 → ∀ f l, l ≤ h p → (f = -1 ∨ ∃ d, d < 8 ∧ f = nI d ∧ nbI p d ≠ -1 ∧ h (vN (nbI p d)) < h p) → (flowL h p k f l = -1 ∨ ∃ d, d < 8 ∧ flowL h p k f l = nI d ∧ nbI p d ≠ -1 ∧ h (vN (nbI p d)) < h p) := by
  intro k
  induction k with
  | zero => intro _ f l _ hf; exact hf
  | succ k ih =>
    intro hk f l hl hf
    unfold flowL
    by_cases c : nbI p (8 - (k + 1)) = -1
    · rw [if_pos c]; exact ih (by omega) f l hl hf
    · rw [if_neg c]
      by_cases c2 : l ≤ h (vN (nbI p (8 - (k + 1))))
      · rw [if_pos c2]; exact ih (by omega) f l hl hf
      · rw [if_neg c2]
        have h1 : h (vN (nbI p (8 - (k + 1)))) < h p := Int32.lt_of_lt_of_le (Int32.not_le.mp c2) hl
        exact ih (by omega) _ _ (Int32.le_of_lt h1) (Or.inr ⟨8 - (k + 1), by omega, rfl, c, h1⟩)
theorem flowI_to {h : Nat → Int32} {p : Nat} (hp : p < 64) : flowI h p = -1 ∨ ∃ d, d < 8 ∧ flowI h p = nI d ∧ nbI p d ≠ -1 ∧ h (vN (nbI p d)) < h p :=
  flowL_to hp 8 (Nat.le_refl 8) _ _ (Int32.le_refl _) (Or.inl rfl)
