/-! ===== pure rows: the checked programs of class and reference ===== -/
theorem chk_t {α : Type} {k : Option α} : chk true k = k := rfl
theorem nm_s {α β : Type} (x : α) (k : α → Option β) : nm x k = k x := rfl
theorem bd1_s {a r : Type} (x : a) (k : a → Option r) : bd1 (some x) k = k x := rfl
theorem bd2_s {a b r : Type} (x : a) (y : b) (k : a → b → Option r) : bd2 (some (x, y)) k = k x y := rfl
theorem bd3_s {a b c r : Type} (x : a) (y : b) (z : c) (k : a → b → c → Option r) : bd3 (some (x, y, z)) k = k x y z := rfl
theorem bd4_s {a b c d r : Type} (x : a) (y : b) (z : c) (w : d) (k : a → b → c → d → Option r) : bd4 (some (x, y, z, w)) k = k x y z w := rfl
def bI (c : Prop) [Decidable c] : Int32 := if c then 1 else 0
theorem bI_t {c : Prop} {h0 : Decidable c} (h : c) : @bI c h0 = 1 := if_pos h
theorem bI_f {c : Prop} {h0 : Decidable c} (h : ¬ c) : @bI c h0 = 0 := if_neg h
theorem bI_0 {c : Prop} {h0 : Decidable c} : (@bI c h0 = 0) = (¬ c) := by
  by_cases h : c
  · rw [bI_t h]; simp [h]
  · rw [bI_f h]; simp [h]
theorem gz_bI {c : Prop} {h0 : Decidable c} : gz (@bI c h0) = true := by
  by_cases h : c
  · rw [bI_t h]; rfl
  · rw [bI_f h]; rfl
theorem gin_n {i n : Nat} (h : i < n) (hn : n < 2 ^ 31) : gin (nI i) n = true := decide_eq_true (nI_in h hn)
theorem cl_n {i : Nat} (h : i < 2 ^ 31) : (nI i).toNatClampNeg = i := nI_clamp h
/-- a number from 0 to k -/
def isN (x : Int32) (k : Nat) : Prop := ∃ j, j ≤ k ∧ x = nI j
def vN (x : Int32) : Nat := x.toNatClampNeg
theorem vN_n {i : Nat} (h : i < 2 ^ 31) : vN (nI i) = i := nI_clamp h
theorem isN.le {x : Int32} {k : Nat} (h : isN x k) (hk : k < 2 ^ 31) : vN x ≤ k := by
  obtain ⟨j, h1, rfl⟩ := h
  rw [vN_n (by omega)]; exact h1
theorem isN.eq {x : Int32} {k : Nat} (h : isN x k) (hk : k < 2 ^ 31) : x = nI (vN x) := by
  obtain ⟨j, h1, rfl⟩ := h
  rw [vN_n (by omega)]
theorem isN.of {i k : Nat} (h : i ≤ k) : isN (nI i) k := ⟨i, h, rfl⟩
theorem isN.mono {x : Int32} {k m : Nat} (h : isN x k) (hm : k ≤ m) : isN x m := by
  obtain ⟨j, h1, rfl⟩ := h
  exact ⟨j, by omega, rfl⟩
/-- what a range check gives -/
theorem rng {x : Int32} (k : Nat) (hk : k < 2 ^ 31) (h : 0 ≤ x ∧ x ≤ nI k) : isN x k := by
  obtain ⟨j, h1, h2⟩ := nI_of2 (x := x) (M := nI k) (n := k) (nI_toInt hk) (Int32.not_lt.mpr h.1) h.2
  exact ⟨j, h1, h2⟩
theorem rng_of {i k : Nat} (h : i ≤ k) (hk : k < 2 ^ 31) : (0 : Int32) ≤ nI i ∧ nI i ≤ nI k := ⟨nI_pos' (by omega), nI_le h hk⟩
theorem rng_iff {x : Int32} {k : Nat} (hk : k < 2 ^ 31) : (0 ≤ x ∧ x ≤ nI k) ↔ isN x k := by
  constructor
  · exact rng k hk
  · rintro ⟨j, h1, rfl⟩; exact rng_of h1 hk
theorem within_eq (x a b : Int32) : f_X9_within x a b = some (bI (a ≤ x ∧ x ≤ b)) := by
  unfold f_X9_within
  by_cases h1 : x < a
  · rw [if_pos h1, bI_f (fun h => absurd h.1 (Int32.not_le.mpr h1))]
  · rw [if_neg h1]
    by_cases h2 : b < x
    · rw [if_pos h2, bI_f (fun h => absurd h.2 (Int32.not_le.mpr h2))]
    · rw [if_neg h2, bI_t ⟨Int32.not_lt.mp h1, Int32.not_lt.mp h2⟩]
theorem cmp_lt0 (x y : Int64) : (lg_cmp x y < 0) ↔ x < y := by
  have h := lg_cmp_ge x y
  rw [← Int32.not_le, h, Int64.not_le]
theorem cmp_gt0 (x y : Int64) : (0 < lg_cmp x y) ↔ y < x := by
  unfold lg_cmp
  by_cases h : x > y
  · rw [if_pos h]; exact ⟨fun _ => h, fun _ => by decide⟩
  · rw [if_neg h]
    by_cases h2 : x = y
    · rw [if_pos h2]; exact ⟨fun q => absurd q (by decide), fun q => absurd q h⟩
    · rw [if_neg h2]; exact ⟨fun q => absurd q (by decide), fun q => absurd q h⟩
theorem wide_le (a b : Int32) : a.toInt64 ≤ b.toInt64 ↔ a ≤ b := by
  rw [Int64.le_iff_toInt_le, Int32.le_iff_toInt_le, Int32.toInt_toInt64, Int32.toInt_toInt64]
theorem in_eq (x a b : Int32) : f_X10_in x.toInt64 a.toInt64 b.toInt64 = some (bI (a ≤ x ∧ x ≤ b)) := by
  unfold f_X10_in
  by_cases h1 : x < a
  · rw [if_pos ((cmp_lt0 _ _).mpr (by rw [← Int64.not_le, wide_le, Int32.not_le]; exact h1)), bI_f (fun h => absurd h.1 (Int32.not_le.mpr h1))]
  · rw [if_neg (fun q => h1 (by have := (cmp_lt0 _ _).mp q; rw [← Int64.not_le, wide_le, Int32.not_le] at this; exact this))]
    by_cases h2 : b < x
    · rw [if_pos ((cmp_gt0 _ _).mpr (by rw [← Int64.not_le, wide_le, Int32.not_le]; exact h2)), bI_f (fun h => absurd h.2 (Int32.not_le.mpr h2))]
    · rw [if_neg (fun q => h2 (by have := (cmp_gt0 _ _).mp q; rw [← Int64.not_le, wide_le, Int32.not_le] at this; exact this)), bI_t ⟨Int32.not_lt.mp h1, Int32.not_lt.mp h2⟩]
theorem chk_gz_bI {c : Prop} {h0 : Decidable c} {α : Type} (k : Option α) : chk (gz (@bI c h0)) k = k := by rw [gz_bI]; rfl
theorem X_isStage (p : Int32) : f_X9_isStage p = some (bI (0 ≤ p ∧ p ≤ 2)) := by
  unfold f_X9_isStage; rw [within_eq, bd1_s, chk_gz_bI]
theorem X_isPlace (p : Int32) : f_X9_isPlace p = some (bI (0 ≤ p ∧ p ≤ 63)) := by
  unfold f_X9_isPlace; rw [within_eq, bd1_s, chk_gz_bI]
theorem M_isStage (p : Int32) : f_X10_isStage p = some (bI (0 ≤ p ∧ p ≤ 2)) := by
  unfold f_X10_isStage
  rw [show (0 : Int64) = (0 : Int32).toInt64 from by decide, show (2 : Int64) = (2 : Int32).toInt64 from by decide, in_eq, bd1_s, chk_gz_bI]
theorem M_isPlace (p : Int32) : f_X10_isPlace p = some (bI (0 ≤ p ∧ p ≤ 63)) := by
  unfold f_X10_isPlace
  rw [show (0 : Int64) = (0 : Int32).toInt64 from by decide, show (63 : Int64) = (63 : Int32).toInt64 from by decide, in_eq, bd1_s, chk_gz_bI]
theorem in_lit (x : Int32) {a b : Int64} (a' b' : Int32) (ha : a = a'.toInt64) (hb : b = b'.toInt64) : f_X10_in x.toInt64 a b = some (bI (a' ≤ x ∧ x ≤ b')) := by rw [ha, hb, in_eq]
theorem upd_s (f : Nat → Int32) (k : Nat) (x : Int32) : upd f k x k = x := if_pos rfl
theorem upd_n (f : Nat → Int32) {k j : Nat} (x : Int32) (h : j ≠ k) : upd f k x j = f j := if_neg h
theorem upd_i (f : Nat → Int32) (k j : Nat) (x : Int32) : upd f k x j = if j = k then x else f j := rfl
theorem exch (n : Nat) (f : Nat → Int32) (i : Nat) (v : Int32) (h : i < n) (hn : n < 2 ^ 31) : f_X9_exchange n f (nI i) v = some (f i, upd f i v) := by
  unfold f_X9_exchange
  rw [if_neg (nI_pos (by omega)), if_pos (show nI i < Int32.ofNat n from nI_lt h hn), gin_n h hn, chk_t, nm_s, cl_n (by omega), chk_t, nm_s]
theorem sets_eq (f : Nat → Int32) (i : Nat) (v : Int32) (h : i < 460) : f_X10_sets f (nI i) v = some (f i, upd f i v) := by
  unfold f_X10_sets
  rw [gin_n h (by decide), chk_t, nm_s, cl_n (by omega), chk_t, nm_s]
