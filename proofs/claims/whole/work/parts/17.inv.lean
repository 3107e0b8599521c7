/-! ===== what ties the class's state to the reference's ===== -/
def B_su (su bk : Nat → Int32) : Prop := ∀ i, i < 192 → su i = bk (20 + i) ∧ isN (bk (20 + i)) 99
def B_two (c m1 m2 base : Nat) (cells bk : Nat → Int32) : Prop := ∀ i, i < c → cells (5 * i) = bk (base + 2 * i) ∧ cells (5 * i + 1) = bk (base + 2 * i + 1) ∧ isN (bk (base + 2 * i)) m1 ∧ isN (bk (base + 2 * i + 1)) m2
def B_nu (nu bk : Nat → Int32) : Prop := (∀ i, i < 6 → nu i = bk (6 + i)) ∧ isN (bk 6) 7 ∧ (isN (bk 7) 20 ∧ 1 ≤ vN (bk 7)) ∧ (isN (bk 8) 999 ∧ 1 ≤ vN (bk 8)) ∧ (isN (bk 9) 9 ∧ 1 ≤ vN (bk 9)) ∧ (isN (bk 10) 99 ∧ 1 ≤ vN (bk 10)) ∧ (isN (bk 11) 99 ∧ vN (bk 10) ≤ vN (bk 11))
/-- a fact's five numbers, of nr ridges -/
def OKf (nr : Nat) (g : Nat → Int32) : Prop := isN (g 0) 1 ∧ isN (g 1) 4 ∧ (isN (g 2) 7 ∧ vN (g 2) < nr) ∧ isN (g 3) 999 ∧ isN (g 4) 999 ∧ (vN (g 1) = 0 → vN (g 3) < nr ∧ vN (g 3) ≠ vN (g 2)) ∧ (vN (g 1) = 1 → vN (g 3) ≤ vN (g 4)) ∧ (vN (g 1) = 2 → 1 ≤ vN (g 3) ∧ vN (g 3) ≤ 300) ∧ (vN (g 1) ≠ 1 → g 4 = 0)
def B_fa (nf nr : Nat) (cells bk : Nat → Int32) : Prop := ∀ i, i < nf → (∀ j, j < 5 → cells (5 * i + j) = bk (290 + 5 * i + j)) ∧ OKf nr (fun j => bk (290 + 5 * i + j))
/-- a sign's four numbers -/
def OKs (g : Nat → Int32) : Prop := isN (g 0) 2 ∧ isN (g 1) 20 ∧ isN (g 2) 39 ∧ isN (g 3) 39 ∧ vN (g 2) ≤ vN (g 3)
/-- how many of the first n signs are of kind 0 -/
def ats (bk : Nat → Int32) : Nat → Nat
  | 0 => 0
  | n + 1 => ats bk n + if bk (370 + 4 * n) = 0 then 1 else 0
def B_si (ng : Nat) (cells bk : Nat → Int32) : Prop := (∀ i, i < ng → (∀ j, j < 4 → cells (5 * i + j) = bk (370 + 4 * i + j)) ∧ OKs (fun j => bk (370 + 4 * i + j))) ∧ ats bk ng ≤ 5
def B_ar (ar bk : Nat → Int32) : Prop := ∀ i, i < 20 → ar i = bk (410 + i) ∧ isN (bk (410 + i)) 999
def B_he (he bk : Nat → Int32) : Prop := ∀ i, i < 21 → he i = bk (430 + i) ∧ isN (bk (430 + i)) 60
def LIM (a b c d e : Int32) : Prop := a = 8 ∧ b = 10 ∧ c = 10 ∧ d = 16 ∧ e = 10
def CNT (nc nb nd nr nf ng : Nat) (bk : Nat → Int32) : Prop := (nc ≤ 8 ∧ nb ≤ 10 ∧ nd ≤ 10 ∧ nr ≤ 8 ∧ nf ≤ 16 ∧ ng ≤ 10) ∧ bk 0 = nI nc ∧ bk 1 = nI nb ∧ bk 2 = nI nd ∧ bk 3 = nI nr ∧ bk 4 = nI nf ∧ bk 5 = nI ng
/-- one book of the class beside the reference's -/
def FBn (nc nb nd nr nf ng : Nat) (rid cll cls bol bos scl scs fal fas sil sis : Int32) (su cl bo sc nu fa si ar he bk : Nat → Int32) : Prop :=
  LIM cll bol scl fal sil ∧ CNT nc nb nd nr nf ng bk ∧ (cls = nI nc ∧ bos = nI nb ∧ scs = nI nd ∧ rid = nI nr ∧ fas = nI nf ∧ sis = nI ng) ∧
  B_su su bk ∧ B_two nc 63 5 220 cl bk ∧ B_two nb 63 5 240 bo bk ∧ B_two nd 63 15 260 sc bk ∧ B_nu nu bk ∧ B_fa nf nr fa bk ∧ B_si ng si bk ∧ B_ar ar bk ∧ B_he he bk
def FB (rid cll cls bol bos scl scs fal fas sil sis : Int32) (su cl bo sc nu fa si ar he bk : Nat → Int32) : Prop := ∃ nc nb nd nr nf ng : Nat, FBn nc nb nd nr nf ng rid cll cls bol bos scl scs fal fas sil sis su cl bo sc nu fa si ar he bk
/-! a block is the same when the book's cells of it are -/
theorem B_su_c {su bk bk' : Nat → Int32} (h : B_su su bk) (e : ∀ i, i < 192 → bk' (20 + i) = bk (20 + i)) : B_su su bk' := fun i hi => by rw [e i hi]; exact h i hi
theorem B_two_c {c m1 m2 base : Nat} {cells bk bk' : Nat → Int32} (h : B_two c m1 m2 base cells bk) (e : ∀ k, base ≤ k → k < base + 2 * c → bk' k = bk k) : B_two c m1 m2 base cells bk' := fun i hi => by
  rw [e (base + 2 * i) (by omega) (by omega), e (base + 2 * i + 1) (by omega) (by omega)]; exact h i hi
theorem B_nu_c {nu bk bk' : Nat → Int32} (h : B_nu nu bk) (e : ∀ k, 6 ≤ k → k < 12 → bk' k = bk k) : B_nu nu bk' := by
  unfold B_nu
  rw [e 6 (by omega) (by omega), e 7 (by omega) (by omega), e 8 (by omega) (by omega), e 9 (by omega) (by omega), e 10 (by omega) (by omega), e 11 (by omega) (by omega)]
  exact ⟨fun i hi => by rw [e (6 + i) (by omega) (by omega)]; exact h.1 i hi, h.2⟩
theorem OKf_c {nr : Nat} {g g' : Nat → Int32} (h : OKf nr g) (e : ∀ j, j < 5 → g' j = g j) : OKf nr g' := by
  unfold OKf
  rw [e 0 (by omega), e 1 (by omega), e 2 (by omega), e 3 (by omega), e 4 (by omega)]
  exact h
theorem OKs_c {g g' : Nat → Int32} (h : OKs g) (e : ∀ j, j < 4 → g' j = g j) : OKs g' := by
  unfold OKs
  rw [e 0 (by omega), e 1 (by omega), e 2 (by omega), e 3 (by omega)]
  exact h
theorem B_fa_c {nf nr : Nat} {cells bk bk' : Nat → Int32} (h : B_fa nf nr cells bk) (e : ∀ k, 290 ≤ k → k < 290 + 5 * nf → bk' k = bk k) : B_fa nf nr cells bk' := fun i hi =>
  ⟨fun j hj => by rw [e _ (by omega) (by omega)]; exact (h i hi).1 j hj, OKf_c (h i hi).2 (fun j hj => e _ (by omega) (by omega))⟩
theorem ats_c {bk bk' : Nat → Int32} : ∀ n, (∀ k, 370 ≤ k → k < 370 + 4 * n → bk' k = bk k) → ats bk' n = ats bk n
  | 0, _ => rfl
  | n + 1, e => by
    show ats bk' n + _ = ats bk n + _
    rw [ats_c n (fun k h1 h2 => e k h1 (by omega)), e (370 + 4 * n) (by omega) (by omega)]
theorem B_si_c {ng : Nat} {cells bk bk' : Nat → Int32} (h : B_si ng cells bk) (e : ∀ k, 370 ≤ k → k < 370 + 4 * ng → bk' k = bk k) : B_si ng cells bk' :=
  ⟨fun i hi => ⟨fun j hj => by rw [e _ (by omega) (by omega)]; exact (h.1 i hi).1 j hj, OKs_c (h.1 i hi).2 (fun j hj => e _ (by omega) (by omega))⟩, by rw [ats_c ng e]; exact h.2⟩
theorem B_ar_c {ar bk bk' : Nat → Int32} (h : B_ar ar bk) (e : ∀ i, i < 20 → bk' (410 + i) = bk (410 + i)) : B_ar ar bk' := fun i hi => by rw [e i hi]; exact h i hi
theorem B_he_c {he bk bk' : Nat → Int32} (h : B_he he bk) (e : ∀ i, i < 21 → bk' (430 + i) = bk (430 + i)) : B_he he bk' := fun i hi => by rw [e i hi]; exact h i hi
theorem CNT_c {nc nb nd nr nf ng : Nat} {bk bk' : Nat → Int32} (h : CNT nc nb nd nr nf ng bk) (e : ∀ k, k < 6 → bk' k = bk k) : CNT nc nb nd nr nf ng bk' := by
  unfold CNT
  rw [e 0 (by omega), e 1 (by omega), e 2 (by omega), e 3 (by omega), e 4 (by omega), e 5 (by omega)]
  exact h
