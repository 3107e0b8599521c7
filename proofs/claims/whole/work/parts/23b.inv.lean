/-! ===== what holds between calls ===== -/
def TXI (t u : Int32) (x m : Nat → Int32) : Prop := ∃ n : Nat, n ≤ 240 ∧ t = nI n ∧ u = nI n ∧ ∀ i, i < n → x i = m i ∧ isN (m i) 255
def IMG (f u : Int32) (P : Prop) : Prop := f = u ∧ (f = 0 ∨ (f = 1 ∧ P))
def ACI (lim siz sl fa out : Int32) (g : Nat → Int32) : Prop := lim = 16 ∧ (sl = 0 ∨ ∃ nf, nf ≤ 16 ∧ siz = nI nf ∧ FewS (vN sl) (vN fa) nf g out)
def FCI (lim siz st tv : Int32) (g row : Nat → Int32) : Prop := lim = 10 ∧ (st = 0 ∨ ∃ ng, ng ≤ 10 ∧ siz = nI ng ∧ StandS (vN st) ng g tv row)
def INV (xi : Nat → Int32) (xa : Nat → Nat → Int32) (mi : Nat → Int32) (ma : Nat → Nat → Int32) : Prop :=
  FB (xi 2) (xi 3) (xi 4) (xi 5) (xi 6) (xi 7) (xi 8) (xi 9) (xi 10) (xi 11) (xi 12) (xa 0) (xa 1) (xa 2) (xa 3) (xa 4) (xa 5) (xa 6) (xa 7) (xa 8) (ma 0) ∧
  (LIM (xi 14) (xi 16) (xi 18) (xi 20) (xi 22) ∧ LIM (xi 25) (xi 27) (xi 29) (xi 31) (xi 33) ∧ LIM (xi 36) (xi 38) (xi 40) (xi 42) (xi 44)) ∧
  IMG (xi 0) (ma 2 0) (FB (xi 24) (xi 25) (xi 26) (xi 27) (xi 28) (xi 29) (xi 30) (xi 31) (xi 32) (xi 33) (xi 34) (xa 18) (xa 19) (xa 20) (xa 21) (xa 22) (xa 23) (xa 24) (xa 25) (xa 26) (fun k => ma 1 k)) ∧
  IMG (xi 1) (ma 2 1) (FB (xi 35) (xi 36) (xi 37) (xi 38) (xi 39) (xi 40) (xi 41) (xi 42) (xi 43) (xi 44) (xi 45) (xa 27) (xa 28) (xa 29) (xa 30) (xa 31) (xa 32) (xa 33) (xa 34) (xa 35) (fun k => ma 1 (460 + k))) ∧
  TXI (xi 60) (mi 8) (xa 56) (ma 15) ∧
  ACI (xi 50) (xi 51) (xi 47) (xi 48) (xi 49) (xa 48) ∧
  FCI (xi 56) (xi 57) (xi 55) (xi 54) (xa 54) (xa 53)
theorem FB_now {xi : Nat → Int32} {xa : Nat → Nat → Int32} {mi : Nat → Int32} {ma : Nat → Nat → Int32} (h : INV xi xa mi ma) : FB (xi 2) (xi 3) (xi 4) (xi 5) (xi 6) (xi 7) (xi 8) (xi 9) (xi 10) (xi 11) (xi 12) (xa 0) (xa 1) (xa 2) (xa 3) (xa 4) (xa 5) (xa 6) (xa 7) (xa 8) (ma 0) := h.1
/-- another book, all else as it was -/
theorem INV_now {xi xi' : Nat → Int32} {xa xa' : Nat → Nat → Int32} {mi : Nat → Int32} {ma ma' : Nat → Nat → Int32} (h : INV xi xa mi ma)
    (hF : FB (xi' 2) (xi' 3) (xi' 4) (xi' 5) (xi' 6) (xi' 7) (xi' 8) (xi' 9) (xi' 10) (xi' 11) (xi' 12) (xa' 0) (xa' 1) (xa' 2) (xa' 3) (xa' 4) (xa' 5) (xa' 6) (xa' 7) (xa' 8) (ma' 0))
    (hxi : ∀ k, (k = 0 ∨ k = 1 ∨ 13 ≤ k) → xi' k = xi k) (hxa : ∀ k, 9 ≤ k → xa' k = xa k) (hma : ∀ k, k ≠ 0 → ma' k = ma k) : INV xi' xa' mi ma' := by
  obtain ⟨-, h2, h3, h4, h5, h6, h7⟩ := h
  unfold INV
  refine ⟨hF, ?_⟩
  simp only [hxi 0 (by omega), hxi 1 (by omega), hxi 14 (by omega), hxi 16 (by omega), hxi 18 (by omega), hxi 20 (by omega), hxi 22 (by omega), hxi 24 (by omega), hxi 25 (by omega), hxi 26 (by omega), hxi 27 (by omega), hxi 28 (by omega), hxi 29 (by omega), hxi 30 (by omega), hxi 31 (by omega), hxi 32 (by omega), hxi 33 (by omega), hxi 34 (by omega), hxi 35 (by omega), hxi 36 (by omega), hxi 37 (by omega), hxi 38 (by omega), hxi 39 (by omega), hxi 40 (by omega), hxi 41 (by omega), hxi 42 (by omega), hxi 43 (by omega), hxi 44 (by omega), hxi 45 (by omega), hxi 47 (by omega), hxi 48 (by omega), hxi 49 (by omega), hxi 50 (by omega), hxi 51 (by omega), hxi 54 (by omega), hxi 55 (by omega), hxi 56 (by omega), hxi 57 (by omega), hxi 60 (by omega),
    hxa 18 (by omega), hxa 19 (by omega), hxa 20 (by omega), hxa 21 (by omega), hxa 22 (by omega), hxa 23 (by omega), hxa 24 (by omega), hxa 25 (by omega), hxa 26 (by omega), hxa 27 (by omega), hxa 28 (by omega), hxa 29 (by omega), hxa 30 (by omega), hxa 31 (by omega), hxa 32 (by omega), hxa 33 (by omega), hxa 34 (by omega), hxa 35 (by omega), hxa 48 (by omega), hxa 53 (by omega), hxa 54 (by omega), hxa 56 (by omega), hma 1 (by omega), hma 2 (by omega), hma 15 (by omega)]
  exact ⟨h2, h3, h4, h5, h6, h7⟩
/-- work rows alone have changed -/
theorem INV_wk {xi xi' : Nat → Int32} {xa xa' : Nat → Nat → Int32} {mi mi' : Nat → Int32} {ma ma' : Nat → Nat → Int32} (h : INV xi xa mi ma)
    (hxi : ∀ k, (k ≤ 45 ∨ (47 ≤ k ∧ k ≤ 51) ∨ (54 ≤ k ∧ k ≤ 57) ∨ k = 60) → xi' k = xi k) (hxa : ∀ k, (k ≤ 35 ∨ k = 48 ∨ k = 53 ∨ k = 54 ∨ k = 56) → xa' k = xa k) (hmi : mi' 8 = mi 8) (hma : ∀ k, (k ≤ 2 ∨ k = 15) → ma' k = ma k) : INV xi' xa' mi' ma' := by
  unfold INV at h ⊢
  simp only [hmi, hxi 0 (by omega), hxi 1 (by omega), hxi 2 (by omega), hxi 3 (by omega), hxi 4 (by omega), hxi 5 (by omega), hxi 6 (by omega), hxi 7 (by omega), hxi 8 (by omega), hxi 9 (by omega), hxi 10 (by omega), hxi 11 (by omega), hxi 12 (by omega), hxi 14 (by omega), hxi 16 (by omega), hxi 18 (by omega), hxi 20 (by omega), hxi 22 (by omega), hxi 24 (by omega), hxi 25 (by omega), hxi 26 (by omega), hxi 27 (by omega), hxi 28 (by omega), hxi 29 (by omega), hxi 30 (by omega), hxi 31 (by omega), hxi 32 (by omega), hxi 33 (by omega), hxi 34 (by omega), hxi 35 (by omega), hxi 36 (by omega), hxi 37 (by omega), hxi 38 (by omega), hxi 39 (by omega), hxi 40 (by omega), hxi 41 (by omega), hxi 42 (by omega), hxi 43 (by omega), hxi 44 (by omega), hxi 45 (by omega), hxi 47 (by omega), hxi 48 (by omega), hxi 49 (by omega), hxi 50 (by omega), hxi 51 (by omega), hxi 54 (by omega), hxi 55 (by omega), hxi 56 (by omega), hxi 57 (by omega), hxi 60 (by omega),
    hxa 0 (by omega), hxa 1 (by omega), hxa 2 (by omega), hxa 3 (by omega), hxa 4 (by omega), hxa 5 (by omega), hxa 6 (by omega), hxa 7 (by omega), hxa 8 (by omega), hxa 18 (by omega), hxa 19 (by omega), hxa 20 (by omega), hxa 21 (by omega), hxa 22 (by omega), hxa 23 (by omega), hxa 24 (by omega), hxa 25 (by omega), hxa 26 (by omega), hxa 27 (by omega), hxa 28 (by omega), hxa 29 (by omega), hxa 30 (by omega), hxa 31 (by omega), hxa 32 (by omega), hxa 33 (by omega), hxa 34 (by omega), hxa 35 (by omega), hxa 48 (by omega), hxa 53 (by omega), hxa 54 (by omega), hxa 56 (by omega), hma 0 (by omega), hma 1 (by omega), hma 2 (by omega), hma 15 (by omega)]
  exact h
/-! range checks by name -/
theorem in_0_1 (x : Int32) : f_X10_in x.toInt64 0 1 = some (bI (0 ≤ x ∧ x ≤ 1)) := in_lit x 0 1 (by decide) (by decide)
theorem in_0_2 (x : Int32) : f_X10_in x.toInt64 0 2 = some (bI (0 ≤ x ∧ x ≤ 2)) := in_lit x 0 2 (by decide) (by decide)
theorem in_0_5 (x : Int32) : f_X10_in x.toInt64 0 5 = some (bI (0 ≤ x ∧ x ≤ 5)) := in_lit x 0 5 (by decide) (by decide)
theorem in_0_6 (x : Int32) : f_X10_in x.toInt64 0 6 = some (bI (0 ≤ x ∧ x ≤ 6)) := in_lit x 0 6 (by decide) (by decide)
theorem in_0_7 (x : Int32) : f_X10_in x.toInt64 0 7 = some (bI (0 ≤ x ∧ x ≤ 7)) := in_lit x 0 7 (by decide) (by decide)
theorem in_0_15 (x : Int32) : f_X10_in x.toInt64 0 15 = some (bI (0 ≤ x ∧ x ≤ 15)) := in_lit x 0 15 (by decide) (by decide)
theorem in_0_19 (x : Int32) : f_X10_in x.toInt64 0 19 = some (bI (0 ≤ x ∧ x ≤ 19)) := in_lit x 0 19 (by decide) (by decide)
theorem in_0_20 (x : Int32) : f_X10_in x.toInt64 0 20 = some (bI (0 ≤ x ∧ x ≤ 20)) := in_lit x 0 20 (by decide) (by decide)
theorem in_0_39 (x : Int32) : f_X10_in x.toInt64 0 39 = some (bI (0 ≤ x ∧ x ≤ 39)) := in_lit x 0 39 (by decide) (by decide)
theorem in_0_60 (x : Int32) : f_X10_in x.toInt64 0 60 = some (bI (0 ≤ x ∧ x ≤ 60)) := in_lit x 0 60 (by decide) (by decide)
theorem in_0_63 (x : Int32) : f_X10_in x.toInt64 0 63 = some (bI (0 ≤ x ∧ x ≤ 63)) := in_lit x 0 63 (by decide) (by decide)
theorem in_0_99 (x : Int32) : f_X10_in x.toInt64 0 99 = some (bI (0 ≤ x ∧ x ≤ 99)) := in_lit x 0 99 (by decide) (by decide)
theorem in_0_999 (x : Int32) : f_X10_in x.toInt64 0 999 = some (bI (0 ≤ x ∧ x ≤ 999)) := in_lit x 0 999 (by decide) (by decide)
theorem in_1_8 (x : Int32) : f_X10_in x.toInt64 1 8 = some (bI (1 ≤ x ∧ x ≤ 8)) := in_lit x 1 8 (by decide) (by decide)
theorem in_1_9 (x : Int32) : f_X10_in x.toInt64 1 9 = some (bI (1 ≤ x ∧ x ≤ 9)) := in_lit x 1 9 (by decide) (by decide)
theorem in_1_20 (x : Int32) : f_X10_in x.toInt64 1 20 = some (bI (1 ≤ x ∧ x ≤ 20)) := in_lit x 1 20 (by decide) (by decide)
theorem in_1_300 (x : Int32) : f_X10_in x.toInt64 1 300 = some (bI (1 ≤ x ∧ x ≤ 300)) := in_lit x 1 300 (by decide) (by decide)
theorem in_1_999 (x : Int32) : f_X10_in x.toInt64 1 999 = some (bI (1 ≤ x ∧ x ≤ 999)) := in_lit x 1 999 (by decide) (by decide)
theorem in_50 (x : Int32) : f_X10_in x.toInt64 (-50) 50 = some (bI (-50 ≤ x ∧ x ≤ 50)) := in_lit x (-50) 50 (by decide) (by decide)
theorem rc (p : Int32) (k : Nat) (hk : k < 2 ^ 31) : (∃ a, a ≤ k ∧ p = nI a) ∨ ¬ (nI 0 ≤ p ∧ p ≤ nI k) := by
  by_cases c : nI 0 ≤ p ∧ p ≤ nI k
  · exact Or.inl (rng k hk c)
  · exact Or.inr c
theorem in_0y (x y : Int32) : f_X10_in x.toInt64 0 y.toInt64 = some (bI (0 ≤ x ∧ x ≤ y)) := in_eq x 0 y
theorem in_1y (x y : Int32) : f_X10_in x.toInt64 1 y.toInt64 = some (bI (1 ≤ x ∧ x ≤ y)) := in_eq x 1 y
theorem in_x99 (x y : Int32) : f_X10_in x.toInt64 y.toInt64 99 = some (bI (y ≤ x ∧ x ≤ 99)) := in_eq x y 99
theorem in_x999 (x y : Int32) : f_X10_in x.toInt64 y.toInt64 999 = some (bI (y ≤ x ∧ x ≤ 999)) := in_eq x y 999
theorem bI_g {c : Prop} [Decidable c] {α : Type} (k : Int32 → Option α) : bd1 (some (bI c)) k = k (bI c) := rfl
theorem vu (k : Nat) {α : Type} (f : Nat → α) (v : α) (j : Nat) : va_up f k v j = if j = k then v else f j := rfl
