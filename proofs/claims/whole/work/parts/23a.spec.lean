/-! ===== what the two caches of the class hold ===== -/
/-- a fact of the row g (five cells each) holds of ages s -/
def fOK (sl fa : Nat) (g : Nat → Int32) (s : Nat → Int) (i : Nat) : Prop :=
  (vN (g (5 * i + 1)) = 0 → s (vN (g (5 * i + 2))) + 1 ≤ s (vN (g (5 * i + 3)))) ∧
  (vN (g (5 * i + 1)) = 1 → (vN (g (5 * i + 3)) : Int) ≤ s (vN (g (5 * i + 2))) ∧ s (vN (g (5 * i + 2))) ≤ (vN (g (5 * i + 4)) : Int)) ∧
  (vN (g (5 * i + 1)) = 2 → ((vN (g (5 * i + 3)) * sl : Nat) : Int) ≤ s (vN (g (5 * i + 2))) ∧ s (vN (g (5 * i + 2))) ≤ ((vN (g (5 * i + 3)) * fa : Nat) : Int)) ∧
  (vN (g (5 * i + 1)) = 3 → s (vN (g (5 * i + 2))) ≤ (vN (g (5 * i + 3)) : Int)) ∧
  (vN (g (5 * i + 1)) = 4 → (vN (g (5 * i + 3)) : Int) ≤ s (vN (g (5 * i + 2))))
/-- ages that bear the facts of a set -/
def SOL (sl fa nf : Nat) (g : Nat → Int32) (S : Nat) (s : Nat → Int) : Prop := (∀ r, r < 8 → 0 ≤ s r ∧ s r ≤ 999) ∧ ∀ i, i < nf → S.testBit i = true → fOK sl fa g s i
def CONS (sl fa nf : Nat) (g : Nat → Int32) (S : Nat) : Prop := ∃ s, SOL sl fa nf g S s
/-- how many bits -/
def pc : Nat → Nat → Nat
  | 0, _ => 0
  | k + 1, v => v % 2 + pc k (v / 2)
def FewS (sl fa nf : Nat) (g : Nat → Int32) (out : Int32) : Prop :=
  (∃ o, o < 2 ^ nf ∧ out = nI o ∧ pc 16 o ≤ 4 ∧ CONS sl fa nf g (2 ^ nf - 1 - o) ∧ ∀ o', o' < 2 ^ nf → CONS sl fa nf g (2 ^ nf - 1 - o') → pc 16 o < pc 16 o' ∨ (pc 16 o = pc 16 o' ∧ o ≤ o')) ∨
  (out = -5 ∧ ∀ o', o' < 2 ^ nf → CONS sl fa nf g (2 ^ nf - 1 - o') → 4 < pc 16 o')
theorem fOK_c {sl fa : Nat} {g g' : Nat → Int32} {s : Nat → Int} {i : Nat} (e : ∀ j, j < 5 → g' (5 * i + j) = g (5 * i + j)) : fOK sl fa g s i ↔ fOK sl fa g' s i := by
  unfold fOK
  rw [e 1 (by omega), e 2 (by omega), e 3 (by omega), e 4 (by omega)]
theorem SOL_c {sl fa nf : Nat} {g g' : Nat → Int32} {S : Nat} {s : Nat → Int} (e : ∀ i, i < nf → ∀ j, j < 5 → g' (5 * i + j) = g (5 * i + j)) : SOL sl fa nf g S s ↔ SOL sl fa nf g' S s :=
  ⟨fun h => ⟨h.1, fun i hi hb => (fOK_c (e i hi)).mp (h.2 i hi hb)⟩, fun h => ⟨h.1, fun i hi hb => (fOK_c (e i hi)).mpr (h.2 i hi hb)⟩⟩
theorem CONS_c {sl fa nf : Nat} {g g' : Nat → Int32} {S : Nat} (e : ∀ i, i < nf → ∀ j, j < 5 → g' (5 * i + j) = g (5 * i + j)) : CONS sl fa nf g S ↔ CONS sl fa nf g' S :=
  ⟨fun ⟨s, h⟩ => ⟨s, (SOL_c e).mp h⟩, fun ⟨s, h⟩ => ⟨s, (SOL_c e).mpr h⟩⟩
theorem FewS_c {sl fa nf : Nat} {g g' : Nat → Int32} {out : Int32} (e : ∀ i, i < nf → ∀ j, j < 5 → g' (5 * i + j) = g (5 * i + j)) (h : FewS sl fa nf g out) : FewS sl fa nf g' out := by
  rcases h with ⟨o, h1, h2, h3, h4, h5⟩ | ⟨h1, h2⟩
  · exact Or.inl ⟨o, h1, h2, h3, (CONS_c e).mp h4, fun o' ho hc => h5 o' ho ((CONS_c e).mpr hc)⟩
  · exact Or.inr ⟨h1, fun o' ho hc => h2 o' ho ((CONS_c e).mpr hc)⟩
theorem FewS_u {sl fa nf : Nat} {g : Nat → Int32} {x y : Int32} (h : FewS sl fa nf g x) (h' : FewS sl fa nf g y) : x = y := by
  rcases h with ⟨o, h1, h2, h3, h4, h5⟩ | ⟨h1, h2⟩ <;> rcases h' with ⟨u, g1, g2, g3, g4, g5⟩ | ⟨g1, g2⟩
  · have a := h5 u g1 g4
    have b := g5 o h1 h4
    rw [h2, g2, show o = u by omega]
  · have := g2 o h1 h4; omega
  · have := h2 u g1 g4; omega
  · rw [h1, g1]
/-! the stands: one sign has five cells (kind, x, p, q) -/
def frB (g : Nat → Int32) (y x : Nat) : Nat → Bool
  | 0 => true
  | i + 1 => frB g y x i && decide (vN (g (5 * i + 2)) ≤ y ∧ y ≤ vN (g (5 * i + 3)) → (vN (g (5 * i)) = 1 → x ≤ vN (g (5 * i + 1))) ∧ (vN (g (5 * i)) = 2 → vN (g (5 * i + 1)) ≤ x))
def atN (g : Nat → Int32) : Nat → Nat
  | 0 => 0
  | i + 1 => atN g i + if vN (g (5 * i)) = 0 then 1 else 0
def metN (g : Nat → Int32) (y x : Nat) : Nat → Nat
  | 0 => 0
  | i + 1 => metN g y x i ||| (if vN (g (5 * i)) = 0 ∧ vN (g (5 * i + 2)) ≤ y ∧ y ≤ vN (g (5 * i + 3)) ∧ x = vN (g (5 * i + 1)) then 2 ^ (atN g i) else 0)
def dst (a b : Nat) : Nat := if a ≤ b then b - a else a - b
def mnF (f : Nat → Nat) : Nat → Nat
  | 0 => 1000000
  | n + 1 => if f n < mnF f n then f n else mnF f n
def amF (f : Nat → Nat) : Nat → Nat
  | 0 => 0
  | n + 1 => if f n < mnF f n then n else amF f n
/-- the least way from a year on; k: how many years are left behind it -/
def Wd (st ng : Nat) (g : Nat → Int32) : Nat → Nat → Nat → Nat
  | 0, x, m => if frB g 39 x ng = true then (if m ||| metN g 39 x ng = 2 ^ atN g ng - 1 then 0 else 1000000) else 1000000
  | k + 1, x, m => if frB g (38 - k) x ng = true then mnF (fun t => if dst x t ≤ st then dst x t + Wd st ng g k t (m ||| metN g (38 - k) x ng) else 1000000) 21 else 1000000
/-- TRAVEL -/
def tvN (st ng : Nat) (g : Nat → Int32) : Nat := mnF (fun x => Wd st ng g 39 x 0) 21
/-- the first row: the front and the mask ahead of it -/
def rwN (st ng : Nat) (g : Nat → Int32) : Nat → Nat × Nat
  | 0 => (amF (fun x => Wd st ng g 39 x 0) 21, 0)
  | y + 1 => (amF (fun t => if dst (rwN st ng g y).1 t ≤ st then dst (rwN st ng g y).1 t + Wd st ng g (38 - y) t ((rwN st ng g y).2 ||| metN g y (rwN st ng g y).1 ng) else 1000000) 21, (rwN st ng g y).2 ||| metN g y (rwN st ng g y).1 ng)
def StandS (st ng : Nat) (g : Nat → Int32) (tv : Int32) (row : Nat → Int32) : Prop :=
  tv = (if tvN st ng g < 1000000 then nI (tvN st ng g) else -1) ∧ (tvN st ng g < 1000000 → ∀ y, y < 40 → row y = nI (rwN st ng g y).1)
theorem frB_c {g g' : Nat → Int32} {y x : Nat} : ∀ ng, (∀ i, i < ng → ∀ j, j < 4 → g' (5 * i + j) = g (5 * i + j)) → frB g' y x ng = frB g y x ng
  | 0, _ => rfl
  | n + 1, e => by
    have e0 := e n (by omega) 0 (by omega)
    simp only [Nat.add_zero] at e0
    unfold frB
    rw [frB_c n (fun i hi => e i (by omega)), e0, e n (by omega) 1 (by omega), e n (by omega) 2 (by omega), e n (by omega) 3 (by omega)]
theorem atN_c {g g' : Nat → Int32} : ∀ ng, (∀ i, i < ng → ∀ j, j < 4 → g' (5 * i + j) = g (5 * i + j)) → atN g' ng = atN g ng
  | 0, _ => rfl
  | n + 1, e => by
    have e0 := e n (by omega) 0 (by omega)
    simp only [Nat.add_zero] at e0
    unfold atN
    rw [atN_c n (fun i hi => e i (by omega)), e0]
theorem metN_c {g g' : Nat → Int32} {y x : Nat} : ∀ ng, (∀ i, i < ng → ∀ j, j < 4 → g' (5 * i + j) = g (5 * i + j)) → metN g' y x ng = metN g y x ng
  | 0, _ => rfl
  | n + 1, e => by
    have e0 := e n (by omega) 0 (by omega)
    simp only [Nat.add_zero] at e0
    unfold metN
    rw [metN_c n (fun i hi => e i (by omega)), atN_c n (fun i hi => e i (by omega)), e0, e n (by omega) 1 (by omega), e n (by omega) 2 (by omega), e n (by omega) 3 (by omega)]
theorem Wd_c {st ng : Nat} {g g' : Nat → Int32} (e : ∀ i, i < ng → ∀ j, j < 4 → g' (5 * i + j) = g (5 * i + j)) : ∀ k x m, Wd st ng g' k x m = Wd st ng g k x m
  | 0, x, m => by unfold Wd; rw [frB_c ng e, metN_c ng e, atN_c ng e]
  | k + 1, x, m => by
    unfold Wd
    rw [frB_c ng e, metN_c ng e]
    have h : ∀ t mm, Wd st ng g' k t mm = Wd st ng g k t mm := fun t mm => Wd_c e k t mm
    simp only [h]
theorem rwN_c {st ng : Nat} {g g' : Nat → Int32} (e : ∀ i, i < ng → ∀ j, j < 4 → g' (5 * i + j) = g (5 * i + j)) : ∀ y, rwN st ng g' y = rwN st ng g y
  | 0 => by unfold rwN; simp only [Wd_c e]
  | y + 1 => by unfold rwN; simp only [rwN_c e y, Wd_c e, metN_c ng e]
theorem StandS_c {st ng : Nat} {g g' : Nat → Int32} {tv : Int32} {row : Nat → Int32} (e : ∀ i, i < ng → ∀ j, j < 4 → g' (5 * i + j) = g (5 * i + j)) (h : StandS st ng g tv row) : StandS st ng g' tv row := by
  unfold StandS tvN at *
  simp only [Wd_c e, rwN_c e]
  exact h
