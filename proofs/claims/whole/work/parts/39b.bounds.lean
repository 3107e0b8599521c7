/-! ===== ages: the facts as bounds; the reference's rounds ===== -/
theorem nI_sh : ∀ i, i < 16 → ((nI i &&& 31).toBitVec.smod 32).toNat = i := by decide +kernel
theorem bitI {S i : Nat} (hS : S < 2 ^ 16) (hi : i < 16) : (nI S >>> (nI i &&& 31)) &&& (1 : Int32) = if S.testBit i = true then nI 1 else nI 0 := by
  rw [pk_shrN (by omega) _ i (nI_sh i hi), pk_andN (m := 1) (Nat.lt_of_le_of_lt (Nat.div_le_self _ _) (by omega)) 1 (by decide), Nat.testBit_eq_decide_div_mod_eq, Nat.pow_one]
  by_cases c : S / 2 ^ i % 2 = 1
  · rw [c, if_pos (by decide)]
  · rw [if_neg (by simp [c]), show S / 2 ^ i % 2 = 0 by omega]
section BND
variable {sl fa nf nr S : Nat} {g : Nat → Int32} {lo0 hi0 : Nat → Int} {X : Nat → Nat → Prop}
def fE (nf : Nat) (g : Nat → Int32) (S : Nat) (X : Nat → Nat → Prop) (a b : Nat) (w : Int) : Prop := (∃ i, i < nf ∧ S.testBit i = true ∧ vN (g (5 * i + 1)) = 0 ∧ a = vN (g (5 * i + 2)) ∧ b = vN (g (5 * i + 3)) ∧ w = 1) ∨ (X a b ∧ w = 0)
def fLo (sl nf : Nat) (g : Nat → Int32) (S : Nat) (lo0 : Nat → Int) (r : Nat) (c : Int) : Prop := c = lo0 r ∨ ∃ i, i < nf ∧ S.testBit i = true ∧ r = vN (g (5 * i + 2)) ∧ ((vN (g (5 * i + 1)) = 1 ∧ c = (vN (g (5 * i + 3)) : Int)) ∨ (vN (g (5 * i + 1)) = 2 ∧ c = ((vN (g (5 * i + 3)) * sl : Nat) : Int)) ∨ (vN (g (5 * i + 1)) = 4 ∧ c = (vN (g (5 * i + 3)) : Int)))
def fHi (fa nf : Nat) (g : Nat → Int32) (S : Nat) (hi0 : Nat → Int) (r : Nat) (c : Int) : Prop := c = hi0 r ∨ ∃ i, i < nf ∧ S.testBit i = true ∧ r = vN (g (5 * i + 2)) ∧ ((vN (g (5 * i + 1)) = 1 ∧ c = (vN (g (5 * i + 4)) : Int)) ∨ (vN (g (5 * i + 1)) = 2 ∧ c = ((vN (g (5 * i + 3)) * fa : Nat) : Int)) ∨ (vN (g (5 * i + 1)) = 3 ∧ c = (vN (g (5 * i + 3)) : Int)))
def FG (sl fa nf nr : Nat) (g : Nat → Int32) : Prop := nf ≤ 16 ∧ nr ≤ 8 ∧ sl ≤ 99 ∧ fa ≤ 99 ∧ ∀ i, i < nf → OKf nr (fun j => g (5 * i + j))
abbrev fSol (sl fa nf : Nat) (g : Nat → Int32) (S : Nat) (lo0 hi0 : Nat → Int) (X : Nat → Nat → Prop) (s : Nat → Int) : Prop := ASol (fE nf g S X) (fLo sl nf g S lo0) (fHi fa nf g S hi0) s
theorem fg_k (hG : FG sl fa nf nr g) {i : Nat} (hi : i < nf) : vN (g (5 * i + 1)) ≤ 4 ∧ vN (g (5 * i + 2)) < nr ∧ vN (g (5 * i + 2)) < 8 ∧ vN (g (5 * i + 3)) ≤ 999 ∧ vN (g (5 * i + 4)) ≤ 999 ∧ (vN (g (5 * i + 1)) = 0 → vN (g (5 * i + 3)) < nr ∧ vN (g (5 * i + 3)) < 8 ∧ vN (g (5 * i + 3)) ≠ vN (g (5 * i + 2))) ∧ (vN (g (5 * i + 1)) = 2 → vN (g (5 * i + 3)) ≤ 300) := by
  obtain ⟨h1, h2, h3, h4, h5⟩ := hG
  obtain ⟨o0, o1, ⟨o2, o2'⟩, o3, o4, o5, o6, o7, o8⟩ := h5 i hi
  exact ⟨o1.le (by decide), o2', Nat.lt_of_lt_of_le o2' h2, o3.le (by decide), o4.le (by decide), fun z => ⟨(o5 z).1, Nat.lt_of_lt_of_le (o5 z).1 h2, (o5 z).2⟩, fun z => (o7 z).2⟩
theorem fE_ok (hG : FG sl fa nf nr g) (hX : ∀ a b, X a b → a < 8 ∧ b < 8) : EOK (fE nf g S X) := by
  intro a b w e
  rcases e with ⟨i, h1, h2, h3, rfl, rfl, -⟩ | ⟨h, -⟩
  · have k := fg_k hG h1
    exact ⟨k.2.2.1, (k.2.2.2.2.2.1 h3).2.1⟩
  · exact hX a b h
theorem fSol_iff (hG : FG sl fa nf nr g) {s : Nat → Int} : fSol sl fa nf g S lo0 hi0 X s ↔ (∀ r, r < 8 → lo0 r ≤ s r ∧ s r ≤ hi0 r) ∧ (∀ i, i < nf → S.testBit i = true → fOK sl fa g s i) ∧ ∀ a b, X a b → s a ≤ s b := by
  constructor
  · rintro ⟨h1, h2, h3⟩
    refine ⟨fun r hr => ⟨h1 r _ hr (Or.inl rfl), h2 r _ hr (Or.inl rfl)⟩, fun i hi hb => ?_, fun a b hx => by have := h3 a b 0 (Or.inr ⟨hx, rfl⟩); omega⟩
    have k := fg_k hG hi
    exact ⟨fun z => h3 _ _ 1 (Or.inl ⟨i, hi, hb, z, rfl, rfl, rfl⟩), fun z => ⟨h1 _ _ k.2.2.1 (Or.inr ⟨i, hi, hb, rfl, Or.inl ⟨z, rfl⟩⟩), h2 _ _ k.2.2.1 (Or.inr ⟨i, hi, hb, rfl, Or.inl ⟨z, rfl⟩⟩)⟩, fun z => ⟨h1 _ _ k.2.2.1 (Or.inr ⟨i, hi, hb, rfl, Or.inr (Or.inl ⟨z, rfl⟩)⟩), h2 _ _ k.2.2.1 (Or.inr ⟨i, hi, hb, rfl, Or.inr (Or.inl ⟨z, rfl⟩)⟩)⟩, fun z => h2 _ _ k.2.2.1 (Or.inr ⟨i, hi, hb, rfl, Or.inr (Or.inr ⟨z, rfl⟩)⟩), fun z => h1 _ _ k.2.2.1 (Or.inr ⟨i, hi, hb, rfl, Or.inr (Or.inr ⟨z, rfl⟩)⟩)⟩
  · rintro ⟨h1, h2, h3⟩
    refine ⟨fun r c hr hc => ?_, fun r c hr hc => ?_, fun a b w e => ?_⟩
    · rcases hc with rfl | ⟨i, i1, i2, rfl, ⟨z, rfl⟩ | ⟨z, rfl⟩ | ⟨z, rfl⟩⟩
      · exact (h1 r hr).1
      · exact ((h2 i i1 i2).2.1 z).1
      · exact ((h2 i i1 i2).2.2.1 z).1
      · exact (h2 i i1 i2).2.2.2.2 z
    · rcases hc with rfl | ⟨i, i1, i2, rfl, ⟨z, rfl⟩ | ⟨z, rfl⟩ | ⟨z, rfl⟩⟩
      · exact (h1 r hr).2
      · exact ((h2 i i1 i2).2.1 z).2
      · exact ((h2 i i1 i2).2.2.1 z).2
      · exact (h2 i i1 i2).2.2.2.1 z
    · rcases e with ⟨i, i1, i2, z, rfl, rfl, rfl⟩ | ⟨hx, rfl⟩
      · exact (h2 i i1 i2).1 z
      · have := h3 a b hx; omega
/-- rows of numbers as the programs keep them -/
def R8 (B : Int) (y : Nat → Int32) (l : Nat → Int) : Prop := ∀ r, r < 8 → y r = iI (l r) ∧ -B ≤ l r ∧ l r ≤ B
theorem R8.mono {B B' : Int} {y : Nat → Int32} {l : Nat → Int} (h : R8 B y l) (hB : B ≤ B') : R8 B' y l := fun r hr => ⟨(h r hr).1, by have := (h r hr).2; omega, by have := (h r hr).2; omega⟩
def upI (l : Nat → Int) (r : Nat) (v : Int) : Nat → Int := fun q => if q = r then (if v ≤ l r then l r else v) else l q
def dnI (h : Nat → Int) (r : Nat) (v : Int) : Nat → Int := fun q => if q = r then (if h r ≤ v then h r else v) else h q
/-- how far a walk over facts has come -/
def STEP (C : (Nat → Int) → Prop) (nr : Nat) (l h : Nat → Int) (m : Int32) (l' h' : Nat → Int) (m' : Int32) : Prop :=
  (∀ r, r < 8 → l r ≤ l' r ∧ h' r ≤ h r) ∧ (∀ s, C s → (∀ r, r < 8 → l r ≤ s r ∧ s r ≤ h r) → ∀ r, r < 8 → l' r ≤ s r ∧ s r ≤ h' r) ∧ (m' = 0 ∨ m' = 1) ∧ (m' = 0 → m = 0 ∧ ∀ r, r < 8 → l' r = l r ∧ h' r = h r) ∧ (m' = 1 → m = 1 ∨ ∃ r, r < 8 ∧ (l r < l' r ∨ h' r < h r)) ∧ ∀ r, nr ≤ r → r < 8 → l' r = l r ∧ h' r = h r
theorem STEP.rf {C : (Nat → Int) → Prop} {l h : Nat → Int} {m : Int32} (hm : m = 0 ∨ m = 1) : STEP C nr l h m l h m := ⟨fun _ _ => ⟨Int.le_refl _, Int.le_refl _⟩, fun _ _ q => q, hm, fun z => ⟨z, fun _ _ => ⟨rfl, rfl⟩⟩, fun z => Or.inl z, fun _ _ _ => ⟨rfl, rfl⟩⟩
theorem STEP.tr {C : (Nat → Int) → Prop} {l h l1 h1 l2 h2 : Nat → Int} {m m1 m2 : Int32} (a : STEP C nr l h m l1 h1 m1) (b : STEP C nr l1 h1 m1 l2 h2 m2) : STEP C nr l h m l2 h2 m2 := by
  obtain ⟨a1, a2, a3, a4, a5, a6⟩ := a
  obtain ⟨b1, b2, b3, b4, b5, b6⟩ := b
  refine ⟨fun r hr => ?_, fun s hs q => b2 s hs (a2 s hs q), b3, fun z => ?_, fun z => ?_, fun r h1 h2 => ?_⟩
  · have := a1 r hr; have := b1 r hr; omega
  · obtain ⟨c1, c2⟩ := b4 z
    obtain ⟨d1, d2⟩ := a4 c1
    exact ⟨d1, fun r hr => ⟨(c2 r hr).1.trans (d2 r hr).1, (c2 r hr).2.trans (d2 r hr).2⟩⟩
  · rcases b5 z with z1 | ⟨r, hr, z1⟩
    · rcases a5 z1 with z2 | ⟨r, hr, z2⟩
      · exact Or.inl z2
      · refine Or.inr ⟨r, hr, ?_⟩
        have := b1 r hr; omega
    · refine Or.inr ⟨r, hr, ?_⟩
      have := a1 r hr; omega
  · exact ⟨(b6 r h1 h2).1.trans (a6 r h1 h2).1, (b6 r h1 h2).2.trans (a6 r h1 h2).2⟩
theorem M_atLeast {m : Int32} {y : Nat → Int32} {l : Nat → Int} {r : Nat} {v B B' : Int} (hm : m = 0 ∨ m = 1) (hr : r < 8) (hR : R8 B y l) (h1 : B ≤ B') (h2 : B' ≤ 1000000) (hv : -B' ≤ v ∧ v ≤ B') : ∃ m' y', f_X10_atLeast m y (nI r) (iI v) = some (m', y') ∧ R8 B' y' (upI l r v) ∧ (m' = 0 ∨ m' = 1) ∧ (m' = 0 → m = 0 ∧ v ≤ l r) ∧ (m' = 1 → m = 1 ∨ l r < v) := by
  obtain ⟨e, e1, e2⟩ := hR r hr
  have hle : iI v ≤ iI (l r) ↔ v ≤ l r := by rw [iI_le (by omega) (by omega) (by omega) (by omega)]
  have key : ∀ m' : Int32, (m' = 0 ∨ m' = 1) → (chk (gz m') (chk true (bd1 (if iI v ≤ iI (l r) then (chk true (some (iI (l r)))) else (some (iI v))) (fun x5 => chk true (nm (upd y r x5) (fun y8 => some (m', y8))))))) = some (m', upd y r (if v ≤ l r then iI (l r) else iI v)) := by
    intro m' hm'
    rw [show gz m' = true from by rcases hm' with rfl | rfl <;> rfl]
    simp only [chk_t]
    by_cases c : v ≤ l r
    · rw [if_pos (hle.mpr c), if_pos c]; rfl
    · rw [if_neg (fun z => c (hle.mp z)), if_neg c]; rfl
  have hR' : R8 B' (upd y r (if v ≤ l r then iI (l r) else iI v)) (upI l r v) := by
    intro q hq
    unfold upI
    by_cases c : q = r
    · subst c
      rw [upd_s, if_pos rfl]
      by_cases d : v ≤ l q
      · rw [if_pos d, if_pos d]; exact ⟨rfl, by omega, by omega⟩
      · rw [if_neg d, if_neg d]; exact ⟨rfl, by omega, by omega⟩
    · rw [upd_n _ _ c, if_neg c]
      have := hR q hq
      exact ⟨this.1, by omega, by omega⟩
  unfold f_X10_atLeast
  simp only [gin_n hr (show 8 < 2 ^ 31 by decide), cl_n (show r < 2 ^ 31 by omega), e]
  rcases hm with rfl | rfl
  · rw [if_pos rfl, chk_t]
    by_cases c : v ≤ l r
    · rw [if_pos (show iI v ≤ iI (l r) from hle.mpr c), bd1_s]
      have k := key 0 (Or.inl rfl)
      rw [if_pos (show iI v ≤ iI (l r) from hle.mpr c)] at k
      rw [if_pos (show iI v ≤ iI (l r) from hle.mpr c), k]
      exact ⟨0, _, rfl, hR', Or.inl rfl, fun _ => ⟨rfl, c⟩, fun z => absurd z (by decide)⟩
    · rw [if_neg (show ¬ iI v ≤ iI (l r) from fun z => c (hle.mp z)), bd1_s, key 1 (Or.inr rfl)]
      exact ⟨1, _, rfl, hR', Or.inr rfl, fun z => absurd z (by decide), fun _ => Or.inr (by omega)⟩
  · rw [if_neg one0, bd1_s, key 1 (Or.inr rfl)]
    exact ⟨1, _, rfl, hR', Or.inr rfl, fun z => absurd z (by decide), fun _ => Or.inl rfl⟩
theorem M_atMost {m : Int32} {y : Nat → Int32} {l : Nat → Int} {r : Nat} {v B B' : Int} (hm : m = 0 ∨ m = 1) (hr : r < 8) (hR : R8 B y l) (h1 : B ≤ B') (h2 : B' ≤ 1000000) (hv : -B' ≤ v ∧ v ≤ B') : ∃ m' y', f_X10_atMost m y (nI r) (iI v) = some (m', y') ∧ R8 B' y' (dnI l r v) ∧ (m' = 0 ∨ m' = 1) ∧ (m' = 0 → m = 0 ∧ l r ≤ v) ∧ (m' = 1 → m = 1 ∨ v < l r) := by
  obtain ⟨e, e1, e2⟩ := hR r hr
  have hle : iI (l r) ≤ iI v ↔ l r ≤ v := by rw [iI_le (by omega) (by omega) (by omega) (by omega)]
  have key : ∀ m' : Int32, (m' = 0 ∨ m' = 1) → (chk (gz m') (chk true (bd1 (if iI (l r) ≤ iI v then (chk true (some (iI (l r)))) else (some (iI v))) (fun x5 => chk true (nm (upd y r x5) (fun y8 => some (m', y8))))))) = some (m', upd y r (if l r ≤ v then iI (l r) else iI v)) := by
    intro m' hm'
    rw [show gz m' = true from by rcases hm' with rfl | rfl <;> rfl]
    simp only [chk_t]
    by_cases c : l r ≤ v
    · rw [if_pos (hle.mpr c), if_pos c]; rfl
    · rw [if_neg (fun z => c (hle.mp z)), if_neg c]; rfl
  have hR' : R8 B' (upd y r (if l r ≤ v then iI (l r) else iI v)) (dnI l r v) := by
    intro q hq
    unfold dnI
    by_cases c : q = r
    · subst c
      rw [upd_s, if_pos rfl]
      by_cases d : l q ≤ v
      · rw [if_pos d, if_pos d]; exact ⟨rfl, by omega, by omega⟩
      · rw [if_neg d, if_neg d]; exact ⟨rfl, by omega, by omega⟩
    · rw [upd_n _ _ c, if_neg c]
      have := hR q hq
      exact ⟨this.1, by omega, by omega⟩
  unfold f_X10_atMost
  simp only [gin_n hr (show 8 < 2 ^ 31 by decide), cl_n (show r < 2 ^ 31 by omega), e]
  rcases hm with rfl | rfl
  · rw [if_pos rfl, chk_t]
    by_cases c : l r ≤ v
    · rw [if_pos (show iI (l r) ≤ iI v from hle.mpr c), bd1_s]
      have k := key 0 (Or.inl rfl)
      rw [if_pos (show iI (l r) ≤ iI v from hle.mpr c)] at k
      rw [if_pos (show iI (l r) ≤ iI v from hle.mpr c), k]
      exact ⟨0, _, rfl, hR', Or.inl rfl, fun _ => ⟨rfl, c⟩, fun z => absurd z (by decide)⟩
    · rw [if_neg (show ¬ iI (l r) ≤ iI v from fun z => c (hle.mp z)), bd1_s, key 1 (Or.inr rfl)]
      exact ⟨1, _, rfl, hR', Or.inr rfl, fun z => absurd z (by decide), fun _ => Or.inr (by omega)⟩
  · rw [if_neg one0, bd1_s, key 1 (Or.inr rfl)]
    exact ⟨1, _, rfl, hR', Or.inr rfl, fun z => absurd z (by decide), fun _ => Or.inl rfl⟩
theorem upI_le (l : Nat → Int) (r : Nat) (v : Int) (q : Nat) : l q ≤ upI l r v q := by
  unfold upI
  by_cases c : q = r
  · subst c
    rw [if_pos rfl]
    split <;> omega
  · rw [if_neg c]; omega
theorem upI_r (l : Nat → Int) (r : Nat) (v : Int) : v ≤ upI l r v r := by
  unfold upI
  rw [if_pos rfl]
  split <;> omega
theorem dnI_le (l : Nat → Int) (r : Nat) (v : Int) (q : Nat) : dnI l r v q ≤ l q := by
  unfold dnI
  by_cases c : q = r
  · subst c
    rw [if_pos rfl]
    split <;> omega
  · rw [if_neg c]; omega
theorem dnI_r (l : Nat → Int) (r : Nat) (v : Int) : dnI l r v r ≤ v := by
  unfold dnI
  rw [if_pos rfl]
  split <;> omega
theorem STEP_up {C : (Nat → Int) → Prop} {l h : Nat → Int} {m m' : Int32} {r : Nat} {v : Int} (hr : r < nr) (hr8 : r < 8) (hs : ∀ s, C s → (∀ r, r < 8 → l r ≤ s r ∧ s r ≤ h r) → v ≤ s r) (h3 : m' = 0 ∨ m' = 1) (h4 : m' = 0 → m = 0 ∧ v ≤ l r) (h5 : m' = 1 → m = 1 ∨ l r < v) : STEP C nr l h m (upI l r v) h m' := by
  refine ⟨fun q hq => ⟨upI_le l r v q, Int.le_refl _⟩, fun s hC hb q hq => ⟨?_, (hb q hq).2⟩, h3, fun z => ⟨(h4 z).1, fun q hq => ⟨?_, rfl⟩⟩, fun z => ?_, fun q h1 h2 => ⟨?_, rfl⟩⟩
  · unfold upI
    by_cases c : q = r
    · subst c
      rw [if_pos rfl]
      have a := hs s hC hb
      have b := (hb q hq).1
      split <;> assumption
    · rw [if_neg c]; exact (hb q hq).1
  · unfold upI
    by_cases c : q = r
    · subst c; rw [if_pos rfl, if_pos (h4 z).2]
    · rw [if_neg c]
  · rcases h5 z with z | z
    · exact Or.inl z
    · refine Or.inr ⟨r, hr8, Or.inl ?_⟩
      have := upI_r l r v
      omega
  · unfold upI
    rw [if_neg (by omega)]
theorem STEP_dn {C : (Nat → Int) → Prop} {l h : Nat → Int} {m m' : Int32} {r : Nat} {v : Int} (hr : r < nr) (hr8 : r < 8) (hs : ∀ s, C s → (∀ r, r < 8 → l r ≤ s r ∧ s r ≤ h r) → s r ≤ v) (h3 : m' = 0 ∨ m' = 1) (h4 : m' = 0 → m = 0 ∧ h r ≤ v) (h5 : m' = 1 → m = 1 ∨ v < h r) : STEP C nr l h m l (dnI h r v) m' := by
  refine ⟨fun q hq => ⟨Int.le_refl _, dnI_le h r v q⟩, fun s hC hb q hq => ⟨(hb q hq).1, ?_⟩, h3, fun z => ⟨(h4 z).1, fun q hq => ⟨rfl, ?_⟩⟩, fun z => ?_, fun q h1 h2 => ⟨rfl, ?_⟩⟩
  · unfold dnI
    by_cases c : q = r
    · subst c
      rw [if_pos rfl]
      have a := hs s hC hb
      have b := (hb q hq).2
      split <;> assumption
    · rw [if_neg c]; exact (hb q hq).2
  · unfold dnI
    by_cases c : q = r
    · subst c; rw [if_pos rfl, if_pos (h4 z).2]
    · rw [if_neg c]
  · rcases h5 z with z | z
    · exact Or.inl z
    · refine Or.inr ⟨r, hr8, Or.inr ?_⟩
      have := dnI_r h r v
      omega
  · unfold dnI
    rw [if_neg (by omega)]
/-- what a walk has done by a fact -/
def ACC (sl fa : Nat) (g : Nat → Int32) (l h l' h' : Nat → Int) (i : Nat) : Prop :=
  (vN (g (5 * i + 1)) = 0 → l (vN (g (5 * i + 2))) + 1 ≤ l' (vN (g (5 * i + 3))) ∧ h' (vN (g (5 * i + 2))) + 1 ≤ h (vN (g (5 * i + 3)))) ∧
  (vN (g (5 * i + 1)) = 1 → (vN (g (5 * i + 3)) : Int) ≤ l' (vN (g (5 * i + 2))) ∧ h' (vN (g (5 * i + 2))) ≤ (vN (g (5 * i + 4)) : Int)) ∧
  (vN (g (5 * i + 1)) = 2 → ((vN (g (5 * i + 3)) * sl : Nat) : Int) ≤ l' (vN (g (5 * i + 2))) ∧ h' (vN (g (5 * i + 2))) ≤ ((vN (g (5 * i + 3)) * fa : Nat) : Int)) ∧
  (vN (g (5 * i + 1)) = 3 → h' (vN (g (5 * i + 2))) ≤ (vN (g (5 * i + 3)) : Int)) ∧
  (vN (g (5 * i + 1)) = 4 → (vN (g (5 * i + 3)) : Int) ≤ l' (vN (g (5 * i + 2))))
theorem ACC.mono (hG : FG sl fa nf nr g) {i : Nat} (hi : i < nf) {l h l' h' l1 h1 l2 h2 : Nat → Int} (h0 : ACC sl fa g l1 h1 l' h' i) (a : ∀ r, r < 8 → l r ≤ l1 r ∧ h1 r ≤ h r) (b : ∀ r, r < 8 → l' r ≤ l2 r ∧ h2 r ≤ h' r) : ACC sl fa g l h l2 h2 i := by
  obtain ⟨k1, k2, k3, k4, k5, k6, k7⟩ := fg_k hG hi
  obtain ⟨c0, c1, c2, c3, c4⟩ := h0
  have a1 := a _ k3
  have b1 := b _ k3
  refine ⟨fun z => ?_, fun z => ?_, fun z => ?_, fun z => ?_, fun z => ?_⟩
  · have a2 := a _ (k6 z).2.1
    have b2 := b _ (k6 z).2.1
    have := c0 z
    omega
  · have := c1 z; omega
  · have := c2 z; omega
  · have := c3 z; omega
  · have := c4 z; omega
/-- the book's facts -/
def FBK (sl fa nf nr : Nat) (g bk : Nat → Int32) : Prop := bk 3 = nI nr ∧ bk 4 = nI nf ∧ bk 10 = nI sl ∧ bk 11 = nI fa ∧ ∀ i, i < nf → ∀ j, j < 5 → bk (290 + 5 * i + j) = g (5 * i + j)
theorem M_factAt {bk : Nat → Int32} (hB : FBK sl fa nf nr g bk) (hn : nf ≤ 16) {i j : Nat} (hi : i < nf) (hj : j < 5) : f_X10_factAt bk (nI i) (nI j) = some (g (5 * i + j)) := by
  unfold f_X10_factAt
  rw [show (290 : Int32) + 5 * nI i + nI j = nI (290 + 5 * i + j) from by simp (disch := omega) only [↓lm1, ln0, ln1, ln2, ln3, ln4, ln5, ln6, ln7, ln8, ln9, ln10, ln11, ln12, ln13, ln14, ln15, ln16, ln17, ln18, ln19, ln20, ln21, ln22, ln26, ln30, ln31, ln32, ln36, ln39, ln40, ln48, ln50, ln59, ln60, ln61, ln63, ln64, ln80, ln97, ln99, ln100, ln103, ln122, ln192, ln220, ln240, ln255, ln260, ln290, ln300, ln370, ln410, ln430, ln460, ln920, ln960, ln999, ln1000, ln2000, ln26880, ln1000000, ofNat_nI, nI_add, pk_mul, pk_sub, nI_leP, nI_ltP, nI_eqP, nI_clamp, gin_n, chk_t, nm_s, bd1_s, bd2_s, bd3_s, bd4_s, bI_n0, bI_1, chk_gz_bI, if_pos, if_neg, if_true, if_false, ite_some, nI_m1, m1_nI, m1_le, le_m1, m1_lt, lt_m1, m1_1, n_m1, n0_m1, m1_m1, not_true_eq_false, not_false_eq_true], gin_n (by omega) (by decide), chk_t, cl_n (by omega), hB.2.2.2.2 i hi j hj]
theorem M_bears (hG : FG sl fa nf nr g) {bk : Nat → Int32} (hB : FBK sl fa nf nr g bk) {C : (Nat → Int) → Prop} {i : Nat} (hi : i < nf) (hC : ∀ s, C s → fOK sl fa g s i) {B : Int} (hB0 : 30000 ≤ B) (hB1 : B ≤ 900000) {lo hi' : Nat → Int32} {l h : Nat → Int} {m : Int32} (hm : m = 0 ∨ m = 1) (hl : R8 B lo l) (hh : R8 B hi' h) :
    ∃ m1 lo1 hi1 l1 h1, f_X10_bears m bk lo hi' (nI i) = some (m1, lo1, hi1) ∧ R8 (B + 1) lo1 l1 ∧ R8 (B + 1) hi1 h1 ∧ STEP C nr l h m l1 h1 m1 ∧ ACC sl fa g l h l1 h1 i := by
  obtain ⟨k1, k2, k3, k4, k5, k6, k7⟩ := fg_k hG hi
  obtain ⟨g1, g2, g3, g4, g5⟩ := hG
  obtain ⟨-, o1, ⟨o2, -⟩, o3, o4, -⟩ := g5 i hi
  have q1 : g (5 * i + 1) = nI (vN (g (5 * i + 1))) := o1.eq (by decide)
  have q2 : g (5 * i + 2) = nI (vN (g (5 * i + 2))) := o2.eq (by decide)
  have q3 : g (5 * i + 3) = nI (vN (g (5 * i + 3))) := o3.eq (by decide)
  have q4 : g (5 * i + 4) = nI (vN (g (5 * i + 4))) := o4.eq (by decide)
  have f1 : f_X10_factAt bk (nI i) 1 = some (nI (vN (g (5 * i + 1)))) := by rw [← q1]; exact M_factAt hB g1 hi (j := 1) (by omega)
  have f2 : f_X10_factAt bk (nI i) 2 = some (nI (vN (g (5 * i + 2)))) := by rw [← q2]; exact M_factAt hB g1 hi (j := 2) (by omega)
  have f3 : f_X10_factAt bk (nI i) 3 = some (nI (vN (g (5 * i + 3)))) := by rw [← q3]; exact M_factAt hB g1 hi (j := 3) (by omega)
  have f4 : f_X10_factAt bk (nI i) 4 = some (nI (vN (g (5 * i + 4)))) := by rw [← q4]; exact M_factAt hB g1 hi (j := 4) (by omega)
  generalize hK : vN (g (5 * i + 1)) = K at *
  generalize hA : vN (g (5 * i + 2)) = A at *
  generalize hV : vN (g (5 * i + 3)) = V at *
  generalize hW : vN (g (5 * i + 4)) = W' at *
  have hC' : ∀ s, C s → (K = 0 → s A + 1 ≤ s V) ∧ (K = 1 → (V : Int) ≤ s A ∧ s A ≤ (W' : Int)) ∧ (K = 2 → ((V * sl : Nat) : Int) ≤ s A ∧ s A ≤ ((V * fa : Nat) : Int)) ∧ (K = 3 → s A ≤ (V : Int)) ∧ (K = 4 → (V : Int) ≤ s A) := by
    intro s hs
    have := hC s hs
    unfold fOK at this
    rw [hK, hA, hV, hW] at this
    exact this
  unfold f_X10_bears ACC
  rw [f2, bd1_s, f3, bd1_s, f1, bd1_s, hK, hA, hV, hW]
  have cs : K = 0 ∨ K = 1 ∨ K = 2 ∨ K = 3 ∨ K = 4 := by omega
  have hlA := hl A k3
  have hhA := hh A k3
  have b10 : bk (10 : Int32).toNatClampNeg = nI sl := hB.2.2.1
  have b11 : bk (11 : Int32).toNatClampNeg = nI fa := hB.2.2.2.1
  rcases cs with rfl | rfl | rfl | rfl | rfl
  · obtain ⟨e1, e2, e3⟩ := k6 rfl
    have hlV := hl V e2
    have hhV := hh V e2
    obtain ⟨m1, y1, a1, a2, a3, a4, a5⟩ := M_atLeast (v := l A + 1) (B' := B + 1) hm e2 hl (by omega) (by omega) (by omega)
    have E1 : lo A + 1 = iI (l A + 1) := by rw [hlA.1, show (1 : Int32) = iI 1 from rfl, iI_add]
    obtain ⟨m2, y2, b1, b2, b3, b4, b5⟩ := M_atMost (v := h V - 1) (B' := B + 1) a3 k3 hh (by omega) (by omega) (by omega)
    have E2 : hi' V - 1 = iI (h V - 1) := by rw [hhV.1, show (1 : Int32) = iI 1 from rfl, iI_sub]
    refine ⟨m2, y1, y2, upI l V (l A + 1), dnI h A (h V - 1), ?_, a2, b2, ?_, ?_⟩
    · rw [if_pos (by rfl), gin_n k3 (by decide), chk_t, cl_n (by omega), E1, a1, bd2_s, gin_n e2 (by decide), chk_t, cl_n (by omega), E2, b1, bd2_s]
    · refine STEP.tr (STEP_up e1 e2 (fun s hs q => by have := (hC' s hs).1 rfl; have := (q A k3).1; omega) a3 a4 a5) (STEP_dn k2 k3 (fun s hs q => by have := (hC' s hs).1 rfl; have := (q V e2).2; omega) b3 b4 b5)
    · refine ⟨fun _ => ⟨upI_r l V _, by have := dnI_r h A (h V - 1); omega⟩, fun z => by omega, fun z => by omega, fun z => by omega, fun z => by omega⟩
  · obtain ⟨m1, y1, a1, a2, a3, a4, a5⟩ := M_atLeast (v := (V : Int)) (B' := B + 1) hm k3 hl (by omega) (by omega) (by omega)
    obtain ⟨m2, y2, b1, b2, b3, b4, b5⟩ := M_atMost (v := (W' : Int)) (B' := B + 1) a3 k3 hh (by omega) (by omega) (by omega)
    rw [← nI_iI] at a1 b1
    refine ⟨m2, y1, y2, upI l A V, dnI h A W', ?_, a2, b2, ?_, ?_⟩
    · rw [if_neg (by decide), if_pos (by rfl), a1, bd2_s, f4, bd1_s, b1, bd2_s]
    · refine STEP.tr (STEP_up k2 k3 (fun s hs q => ((hC' s hs).2.1 rfl).1) a3 a4 a5) (STEP_dn k2 k3 (fun s hs q => ((hC' s hs).2.1 rfl).2) b3 b4 b5)
    · refine ⟨fun z => by omega, fun _ => ⟨upI_r l A _, dnI_r h A _⟩, fun z => by omega, fun z => by omega, fun z => by omega⟩
  · have hV3 := k7 rfl
    have v1 : V * sl ≤ 300 * 99 := Nat.mul_le_mul hV3 g3
    have v2 : V * fa ≤ 300 * 99 := Nat.mul_le_mul hV3 g4
    obtain ⟨m1, y1, a1, a2, a3, a4, a5⟩ := M_atLeast (v := ((V * sl : Nat) : Int)) (B' := B + 1) hm k3 hl (by omega) (by omega) (by omega)
    obtain ⟨m2, y2, b1, b2, b3, b4, b5⟩ := M_atMost (v := ((V * fa : Nat) : Int)) (B' := B + 1) a3 k3 hh (by omega) (by omega) (by omega)
    rw [← nI_iI] at a1 b1
    refine ⟨m2, y1, y2, upI l A _, dnI h A _, ?_, a2, b2, ?_, ?_⟩
    · rw [if_neg (by decide), if_neg (by decide), if_pos (by rfl), show gin (10 : Int32) 460 = true from by decide, chk_t, b10, pk_mul, a1, bd2_s, show gin (11 : Int32) 460 = true from by decide, chk_t, b11, pk_mul, b1, bd2_s]
    · refine STEP.tr (STEP_up k2 k3 (fun s hs q => ((hC' s hs).2.2.1 rfl).1) a3 a4 a5) (STEP_dn k2 k3 (fun s hs q => ((hC' s hs).2.2.1 rfl).2) b3 b4 b5)
    · refine ⟨fun z => by omega, fun z => by omega, fun _ => ⟨upI_r l A _, dnI_r h A _⟩, fun z => by omega, fun z => by omega⟩
  · obtain ⟨m2, y2, b1, b2, b3, b4, b5⟩ := M_atMost (v := (V : Int)) (B' := B + 1) hm k3 hh (by omega) (by omega) (by omega)
    rw [← nI_iI] at b1
    refine ⟨m2, lo, y2, l, dnI h A _, ?_, hl.mono (by omega), b2, ?_, ?_⟩
    · rw [if_neg (by decide), if_neg (by decide), if_neg (by decide), if_pos (by rfl), b1, bd2_s]
    · exact STEP_dn k2 k3 (fun s hs q => (hC' s hs).2.2.2.1 rfl) b3 b4 b5
    · refine ⟨fun z => by omega, fun z => by omega, fun z => by omega, fun _ => dnI_r h A _, fun z => by omega⟩
  · obtain ⟨m1, y1, a1, a2, a3, a4, a5⟩ := M_atLeast (v := (V : Int)) (B' := B + 1) hm k3 hl (by omega) (by omega) (by omega)
    rw [← nI_iI] at a1
    refine ⟨m1, y1, hi', upI l A _, h, ?_, a2, hh.mono (by omega), ?_, ?_⟩
    · rw [if_neg (by decide), if_neg (by decide), if_neg (by decide), if_neg (by decide), a1, bd2_s]
    · exact STEP_up k2 k3 (fun s hs q => (hC' s hs).2.2.2.2 rfl) a3 a4 a5
    · refine ⟨fun z => by omega, fun z => by omega, fun z => by omega, fun z => by omega, fun _ => upI_r l A _⟩
theorem M_factsL (hG : FG sl fa nf nr g) {bk : Nat → Int32} (hB : FBK sl fa nf nr g bk) (hS : S < 2 ^ 16) {C : (Nat → Int) → Prop} (hC : ∀ i, i < nf → S.testBit i = true → ∀ s, C s → fOK sl fa g s i) : ∀ n i, i + n = nf → ∀ fu, n < fu → ∀ (B : Int) (lo hi : Nat → Int32) (l h : Nat → Int) (m : Int32), 30000 ≤ B → B + n ≤ 900000 → (m = 0 ∨ m = 1) → R8 B lo l → R8 B hi h →
    ∃ m1 lo1 hi1 l1 h1, f_X10_bounds_L7 bk (nI S) fu hi lo m (nI i) = some (hi1, lo1, m1) ∧ R8 (B + n) lo1 l1 ∧ R8 (B + n) hi1 h1 ∧ STEP C nr l h m l1 h1 m1 ∧ ∀ q, i ≤ q → q < nf → S.testBit q = true → ACC sl fa g l h l1 h1 q := by
  have hn := hG.1
  have b4 : bk (4 : Int32).toNatClampNeg = nI nf := hB.2.1
  intro n
  induction n with
  | zero =>
    intro i hi fu hfu B lo hi' l h m h1 h2 hm hl hh
    obtain ⟨fu, rfl⟩ : ∃ n, fu = n + 1 := ⟨fu - 1, by omega⟩
    obtain rfl : i = nf := by omega
    refine ⟨m, lo, hi', l, h, ?_, hl.mono (by omega), hh.mono (by omega), STEP.rf hm, fun q a b => by omega⟩
    unfold f_X10_bounds_L7
    rw [show gin (4 : Int32) 460 = true from by decide, chk_t, b4, if_pos (Int32.le_refl _)]
  | succ n ih =>
    intro i hi fu hfu B lo hi' l h m h1 h2 hm hl hh
    obtain ⟨fu, rfl⟩ : ∃ n, fu = n + 1 := ⟨fu - 1, by omega⟩
    by_cases c : S.testBit i = true
    · obtain ⟨m1, lo1, hi1, l1, h1', a1, a2, a3, a4, a5⟩ := M_bears hG hB (show i < nf by omega) (hC i (by omega) c) h1 (by omega) hm hl hh
      obtain ⟨m2, lo2, hi2, l2, h2', c1, c2, c3, c4, c5⟩ := ih (i + 1) (by omega) fu (by omega) (B + 1) lo1 hi1 l1 h1' m1 (by omega) (by omega) a4.2.2.1 a2 a3
      refine ⟨m2, lo2, hi2, l2, h2', ?_, c2.mono (by omega), c3.mono (by omega), a4.tr c4, fun q q1 q2 q3 => ?_⟩
      · unfold f_X10_bounds_L7
        rw [show gin (4 : Int32) 460 = true from by decide, chk_t, b4, if_neg (nI_ge (by omega) (by omega)), bitI hS (by omega), if_pos c, if_pos (by rfl), a1, bd3_s, nI_1]
        exact c1
      · by_cases e : q = i
        · subst e
          exact a5.mono hG q2 (fun r hr => ⟨Int.le_refl _, Int.le_refl _⟩) c4.1
        · exact (c5 q (by omega) q2 q3).mono hG q2 a4.1 (fun r hr => ⟨Int.le_refl _, Int.le_refl _⟩)
    · obtain ⟨m2, lo2, hi2, l2, h2', c1, c2, c3, c4, c5⟩ := ih (i + 1) (by omega) fu (by omega) B lo hi' l h m (by omega) (by omega) hm hl hh
      refine ⟨m2, lo2, hi2, l2, h2', ?_, c2.mono (by omega), c3.mono (by omega), c4, fun q q1 q2 q3 => ?_⟩
      · unfold f_X10_bounds_L7
        rw [show gin (4 : Int32) 460 = true from by decide, chk_t, b4, if_neg (nI_ge (by omega) (by omega)), bitI hS (by omega), if_neg c, if_neg (by decide), nI_1]
        exact c1
      · by_cases e : q = i
        · subst e; exact absurd q3 c
        · exact c5 q (by omega) q2 q3
end BND
