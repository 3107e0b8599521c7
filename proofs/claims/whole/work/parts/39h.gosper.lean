/-! ===== fewest: sets of as many ===== -/
theorem nI_xor (a b : Nat) : nI a ^^^ nI b = nI (a ^^^ b) := Int32.toBitVec_inj.mp (BitVec.ofNat_xor (w := 32) (x := a) (y := b)).symm
theorem cmpl {nf o : Nat} (hn : nf ≤ 16) (ho : o < 2 ^ nf) : nI (2 ^ nf - 1) &&& (nI o ^^^ (-1)) = nI (2 ^ nf - 1 - o) := by
  rw [show (-1 : Int32) = nI (2 ^ 32 - 1) from by decide, nI_xor, nI_and]
  congr 1
  apply Nat.eq_of_testBit_eq
  intro i
  rw [Nat.testBit_and, Nat.testBit_xor, Nat.testBit_two_pow_sub_one, Nat.testBit_two_pow_sub_one, show 2 ^ nf - 1 - o = 2 ^ nf - (o + 1) by omega, Nat.testBit_two_pow_sub_succ ho]
  by_cases c : i < nf
  · rw [decide_eq_true c, decide_eq_true (show i < 32 by omega)]
    cases o.testBit i <;> rfl
  · rw [decide_eq_false c]
    rfl
theorem pc_s (k v : Nat) : pc (k + 1) v = v % 2 + pc k (v / 2) := by rw [pc]
theorem pc_0 : ∀ k, pc k 0 = 0
  | 0 => rfl
  | k + 1 => by rw [pc_s, Nat.zero_mod, Nat.zero_div, pc_0 k]
theorem pc_lo : ∀ k v, v < 2 ^ k → pc (k + 1) v = pc k v
  | 0, v, h => by
    have : v = 0 := by rw [Nat.pow_zero] at h; omega
    subst this; rfl
  | k + 1, v, h => by
    rw [pc_s (k + 1) v, pc_lo k (v / 2) (by rw [Nat.pow_succ] at h; omega), ← pc_s]
theorem pc_hi : ∀ k v, v < 2 ^ k → pc (k + 1) (v + 2 ^ k) = pc k v + 1
  | 0, v, h => by
    have : v = 0 := by rw [Nat.pow_zero] at h; omega
    subst this; rfl
  | k + 1, v, h => by
    have e := Nat.pow_succ 2 k
    rw [pc_s (k + 1) (v + 2 ^ (k + 1)), show (v + 2 ^ (k + 1)) % 2 = v % 2 by omega, show (v + 2 ^ (k + 1)) / 2 = v / 2 + 2 ^ k by omega, pc_hi k (v / 2) (by omega), pc_s k v]
    omega
theorem pc_z : ∀ k v, v < 2 ^ k → pc k v = 0 → v = 0
  | 0, v, h, _ => by rw [Nat.pow_zero] at h; omega
  | k + 1, v, h, e => by
    rw [pc_s] at e
    have := pc_z k (v / 2) (by rw [Nat.pow_succ] at h; omega) (by omega)
    omega
def lst : Nat → Nat → List Nat
  | 0, 0 => [0]
  | 0, _ + 1 => []
  | k + 1, 0 => lst k 0
  | k + 1, m + 1 => lst k (m + 1) ++ (lst k m).map (fun y => y + 2 ^ k)
theorem lst_mem : ∀ k m y, y ∈ lst k m ↔ y < 2 ^ k ∧ pc k y = m
  | 0, 0, y => by
    unfold lst
    rw [List.mem_singleton, Nat.pow_zero]
    exact ⟨fun h => ⟨by omega, rfl⟩, fun h => by omega⟩
  | 0, m + 1, y => by
    unfold lst
    exact ⟨fun h => (nomatch h), fun h => (nomatch h.2)⟩
  | k + 1, 0, y => by
    unfold lst
    rw [lst_mem k 0 y]
    have e := Nat.pow_succ 2 k
    constructor
    · rintro ⟨h1, h2⟩
      exact ⟨by omega, by rw [pc_lo k y h1]; exact h2⟩
    · rintro ⟨h1, h2⟩
      have := pc_z (k + 1) y h1 h2
      subst this
      exact ⟨Nat.two_pow_pos k, pc_0 k⟩
  | k + 1, m + 1, y => by
    unfold lst
    have e := Nat.pow_succ 2 k
    rw [List.mem_append, lst_mem k (m + 1) y, List.mem_map]
    constructor
    · rintro (⟨h1, h2⟩ | ⟨z, h1, rfl⟩)
      · exact ⟨by omega, by rw [pc_lo k y h1]; exact h2⟩
      · obtain ⟨h2, h3⟩ := (lst_mem k m z).mp h1
        exact ⟨by omega, by rw [pc_hi k z h2, h3]⟩
    · rintro ⟨h1, h2⟩
      by_cases c : y < 2 ^ k
      · rw [pc_lo k y c] at h2
        exact Or.inl ⟨c, h2⟩
      · refine Or.inr ⟨y - 2 ^ k, (lst_mem k m _).mpr ⟨by omega, ?_⟩, by omega⟩
        have := pc_hi k (y - 2 ^ k) (by omega)
        rw [show y - 2 ^ k + 2 ^ k = y by omega] at this
        omega
theorem lst_srt : ∀ k m, List.Pairwise (fun a b => a < b) (lst k m)
  | 0, 0 => by unfold lst; exact List.pairwise_singleton _ _
  | 0, m + 1 => by unfold lst; exact List.Pairwise.nil
  | k + 1, 0 => by unfold lst; exact lst_srt k 0
  | k + 1, m + 1 => by
    unfold lst
    rw [List.pairwise_append]
    refine ⟨lst_srt k (m + 1), ?_, fun a ha b hb => ?_⟩
    · rw [List.pairwise_map]
      exact (lst_srt k m).imp (fun h => by omega)
    · have h1 := ((lst_mem k (m + 1) a).mp ha).1
      obtain ⟨z, -, rfl⟩ := List.mem_map.mp hb
      omega
def gcB : List Nat → Bool
  | [] => true
  | [x] => match f_X0_nextOfAsManyBits (nI x) with
    | some o => decide (nI 65535 < o)
    | none => false
  | x :: y :: r => decide (f_X0_nextOfAsManyBits (nI x) = some (nI y)) && gcB (y :: r)
theorem gc1 : gcB (lst 16 1) = true := by decide +kernel
theorem gc2 : gcB (lst 16 2) = true := by decide +kernel
theorem gc3 : gcB (lst 16 3) = true := by decide +kernel
theorem gc4 : gcB (lst 16 4) = true := by decide +kernel
theorem gh : ∀ m, m ≤ 4 → (lst 16 m).head? = some (2 ^ m - 1) ∧ (lst 16 m).length ≤ 1820 := by decide +kernel
theorem gcm {m : Nat} (h1 : 1 ≤ m) (h2 : m ≤ 4) : gcB (lst 16 m) = true := by
  have cs : m = 1 ∨ m = 2 ∨ m = 3 ∨ m = 4 := by omega
  rcases cs with rfl | rfl | rfl | rfl
  · exact gc1
  · exact gc2
  · exact gc3
  · exact gc4
