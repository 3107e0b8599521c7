/-! ===== stones carried: the least of a set of sums ===== -/
/-- x is the least of the set, or a million if it is empty -/
def best (x : Int32) (S : Nat → Prop) : Prop := (x = nI 1000000 ∧ ∀ u, ¬ S u) ∨ ∃ t, S t ∧ t < 1000000 ∧ x = nI t ∧ ∀ u, S u → t ≤ u
theorem best_c {x : Int32} {S S' : Nat → Prop} (h : best x S) (e : ∀ u, S u ↔ S' u) : best x S' := by
  rcases h with ⟨h1, h2⟩ | ⟨t, h1, h2, h3, h4⟩
  · exact Or.inl ⟨h1, fun u hu => h2 u ((e u).mpr hu)⟩
  · exact Or.inr ⟨t, (e t).mp h1, h2, h3, fun u hu => h4 u ((e u).mpr hu)⟩
theorem best_u {x y : Int32} {S : Nat → Prop} (h : best x S) (h' : best y S) : x = y := by
  rcases h with ⟨h1, h2⟩ | ⟨t, h1, h2, h3, h4⟩ <;> rcases h' with ⟨g1, g2⟩ | ⟨u, g1, g2, g3, g4⟩
  · rw [h1, g1]
  · exact absurd g1 (h2 u)
  · exact absurd h1 (g2 t)
  · rw [h3, g3, Nat.le_antisymm (h4 u g1) (g4 t h1)]
theorem best_0 : best (nI 1000000) (fun _ => False) := Or.inl ⟨rfl, fun _ h => h⟩
/-- one more number -/
theorem best_1 {y : Int32} {S : Nat → Prop} (h : best y S) {t : Nat} (ht : t < 1000000) : best (if y ≤ nI t then y else nI t) (fun u => S u ∨ u = t) := by
  rcases h with ⟨h1, h2⟩ | ⟨m, h1, h2, h3, h4⟩
  · subst h1
    rw [if_neg (nI_ge ht (by decide))]
    exact Or.inr ⟨t, Or.inr rfl, ht, rfl, fun u hu => hu.elim (fun z => absurd z (h2 u)) (fun z => by omega)⟩
  · subst h3
    by_cases c : m ≤ t
    · rw [if_pos (nI_le c (by omega))]
      exact Or.inr ⟨m, Or.inl h1, h2, rfl, fun u hu => hu.elim (h4 u) (fun z => by omega)⟩
    · rw [if_neg (nI_ge (by omega) (by omega))]
      exact Or.inr ⟨t, Or.inr rfl, ht, rfl, fun u hu => hu.elim (fun z => by have := h4 u z; omega) (fun z => by omega)⟩
theorem best_lt {y : Int32} {S : Nat → Prop} (h : best y S) : (y < nI 1000000) ↔ ∃ u, S u := by
  rcases h with ⟨h1, h2⟩ | ⟨m, h1, h2, h3, h4⟩
  · subst h1
    exact ⟨fun q => (Int32.lt_irrefl q).elim, fun ⟨u, hu⟩ => absurd hu (h2 u)⟩
  · subst h3
    exact ⟨fun _ => ⟨m, h1⟩, fun _ => nI_lt h2 (by decide)⟩
/-- where FLOW leads from a place, 64: nowhere -/
def nxt (h : Nat → Int32) (p : Nat) : Nat := if 64 ≤ p then 64 else if flowI h p = -1 then 64 else vN (nbI p (vN (flowI h p)))
def itn (h : Nat → Int32) : Nat → Nat → Nat
  | 0, p => p
  | k + 1, p => itn h k (nxt h p)
theorem nxt_64 (h : Nat → Int32) : nxt h 64 = 64 := if_pos (Nat.le_refl 64)
theorem nxt_to {h : Nat → Int32} {p : Nat} (hp : p < 64) : (flowI h p = -1 ∧ nxt h p = 64) ∨ ∃ d, d < 8 ∧ flowI h p = nI d ∧ flowI h p ≠ -1 ∧ nbI p d = nI (nxt h p) ∧ nxt h p < 64 ∧ h (nxt h p) < h p := by
  rcases flowI_to (h := h) hp with q | ⟨d, h1, h2, h3, h4⟩
  · exact Or.inl ⟨q, by unfold nxt; rw [if_neg (by omega), if_pos q]⟩
  · have hn : flowI h p ≠ -1 := by
      rw [h2]
      exact nI_nm1 (by omega)
    have e : nxt h p = vN (nbI p d) := by
      unfold nxt
      rw [if_neg (by omega), if_neg hn, h2, vN_n (by omega)]
    rcases nb_r p hp d h1 with z | ⟨z1, z2⟩
    · exact absurd z h3
    · exact Or.inr ⟨d, h1, h2, hn, by rw [e]; exact z2, by rw [e]; exact z1, by rw [e]; exact h4⟩
theorem nxt_le (h : Nat → Int32) (p : Nat) : nxt h p ≤ 64 := by
  by_cases hp : p < 64
  · rcases nxt_to (h := h) hp with ⟨-, e⟩ | ⟨d, -, -, -, -, e, -⟩ <;> omega
  · unfold nxt
    rw [if_pos (by omega)]
    exact Nat.le_refl _
theorem itn_64 (h : Nat → Int32) : ∀ k, itn h k 64 = 64
  | 0 => rfl
  | k + 1 => by show itn h k (nxt h 64) = 64; rw [nxt_64]; exact itn_64 h k
theorem itn_le (h : Nat → Int32) : ∀ k p, p ≤ 64 → itn h k p ≤ 64
  | 0, _, hp => hp
  | k + 1, p, _ => itn_le h k _ (nxt_le h p)
theorem itn_s (h : Nat → Int32) : ∀ k p, itn h (k + 1) p = nxt h (itn h k p)
  | 0, _ => rfl
  | k + 1, p => by
    show itn h (k + 1) (nxt h p) = nxt h (itn h k (nxt h p))
    exact itn_s h k (nxt h p)
theorem itn_a (h : Nat → Int32) : ∀ j k p, itn h (j + k) p = itn h j (itn h k p)
  | 0, k, p => by rw [Nat.zero_add]; rfl
  | j + 1, k, p => by rw [show j + 1 + k = (j + k) + 1 by omega, itn_s, itn_a h j k p, itn_s]
theorem nxt_c {h h' : Nat → Int32} (e : ∀ q, q < 64 → h q = h' q) (p : Nat) : nxt h p = nxt h' p := by
  unfold nxt
  by_cases hp : 64 ≤ p
  · rw [if_pos hp, if_pos hp]
  · rw [flowI_c (by omega) e]
/-- lower and lower -/
theorem itn_low {h : Nat → Int32} {p : Nat} : ∀ k j, itn h (j + 1 + k) p < 64 → itn h k p < 64 ∧ h (itn h (j + 1 + k) p) < h (itn h k p) := by
  intro k j
  induction j with
  | zero =>
    intro hq
    rw [show 0 + 1 + k = k + 1 by omega, itn_s] at hq ⊢
    have hk : itn h k p < 64 := by
      rcases Nat.lt_or_ge (itn h k p) 64 with z | z
      · exact z
      · unfold nxt at hq
        rw [if_pos z] at hq
        omega
    rcases nxt_to (h := h) hk with ⟨-, e⟩ | ⟨d, -, -, -, -, -, e⟩
    · omega
    · exact ⟨hk, e⟩
  | succ j ih =>
    intro hq
    rw [show j + 1 + 1 + k = (j + 1 + k) + 1 by omega, itn_s] at hq ⊢
    have hk : itn h (j + 1 + k) p < 64 := by
      rcases Nat.lt_or_ge (itn h (j + 1 + k) p) 64 with z | z
      · exact z
      · unfold nxt at hq
        rw [if_pos z] at hq
        omega
    obtain ⟨g1, g2⟩ := ih hk
    rcases nxt_to (h := h) hk with ⟨-, e⟩ | ⟨d, -, -, -, -, -, e⟩
    · omega
    · exact ⟨g1, Int32.lt_of_lt_of_le e (Int32.le_of_lt g2)⟩
theorem holes : ∀ (m n : Nat) (f : Nat → Nat), (∀ i, i < n → f i < m) → (∀ i j, i < j → j < n → f i ≠ f j) → n ≤ m := by
  intro m
  induction m with
  | zero =>
    intro n f h1 _
    rcases Nat.eq_zero_or_pos n with z | z
    · omega
    · exact absurd (h1 0 z) (by omega)
  | succ m ih =>
    intro n f h1 h2
    rcases Nat.eq_zero_or_pos n with z | z
    · omega
    · -- the last one's value goes to where m is
      have key : n - 1 ≤ m := by
        refine ih (n - 1) (fun i => if f i = m then f (n - 1) else f i) (fun i hi => ?_) (fun i j hi hj => ?_)
        · have a1 := h1 i (by omega)
          have a2 := h1 (n - 1) (by omega)
          have a3 := h2 i (n - 1) (by omega) (by omega)
          show (if f i = m then f (n - 1) else f i) < m
          by_cases c : f i = m
          · rw [if_pos c]; omega
          · rw [if_neg c]; omega
        · have a3 := h2 i (n - 1) (by omega) (by omega)
          have a4 := h2 j (n - 1) (by omega) (by omega)
          have a5 := h2 i j hi (by omega)
          show (if f i = m then f (n - 1) else f i) ≠ (if f j = m then f (n - 1) else f j)
          by_cases c : f i = m
          · by_cases c2 : f j = m
            · omega
            · rw [if_pos c, if_neg c2]; omega
          · by_cases c2 : f j = m
            · rw [if_neg c, if_pos c2]; omega
            · rw [if_neg c, if_neg c2]; omega
      omega
theorem itn_end {h : Nat → Int32} {p k : Nat} (hk : itn h k p < 64) : k < 64 := by
  have key := holes 64 (k + 1) (fun i => itn h i p) (fun i hi => ?_) (fun i j hi hj he => ?_)
  · omega
  · rcases Nat.lt_or_ge i k with z | z
    · have := (itn_low (h := h) (p := p) i (k - i - 1) (by rw [show k - i - 1 + 1 + i = k by omega]; exact hk)).1
      exact this
    · have : i = k := by omega
      subst this; exact hk
  · have hj64 : itn h j p < 64 := by
      rcases Nat.lt_or_ge j k with z | z
      · exact (itn_low (h := h) (p := p) j (k - j - 1) (by rw [show k - j - 1 + 1 + j = k by omega]; exact hk)).1
      · have : j = k := by omega
        subst this; exact hk
    have e2 := (itn_low (h := h) (p := p) i (j - i - 1) (by rw [show j - i - 1 + 1 + i = j by omega]; exact hj64)).2
    rw [show j - i - 1 + 1 + i = j by omega] at e2
    have he2 : itn h i p = itn h j p := he
    rw [he2] at e2
    exact Int32.lt_irrefl e2
