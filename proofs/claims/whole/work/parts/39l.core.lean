/-! ===== core ===== -/
def smF (f : Nat → Int) : Nat → Int
  | 0 => 0
  | n + 1 => smF f n + f n
theorem smF_s (f : Nat → Int) (n : Nat) : smF f (n + 1) = smF f n + f n := by rw [smF]
theorem smF_c {f f' : Nat → Int} : ∀ n, (∀ r, r < n → f r = f' r) → smF f n = smF f' n
  | 0, _ => rfl
  | n + 1, h => by rw [smF_s, smF_s, smF_c n (fun r hr => h r (by omega)), h n (by omega)]
theorem smF_b {f : Nat → Int} : ∀ n, (∀ r, r < n → 0 ≤ f r ∧ f r ≤ 999) → 0 ≤ smF f n ∧ smF f n ≤ 999 * (n : Int)
  | 0, _ => by show (0 : Int) ≤ 0 ∧ (0 : Int) ≤ 999 * ((0 : Nat) : Int); omega
  | n + 1, h => by
    have a := smF_b n (fun r hr => h r (by omega))
    have b := h n (by omega)
    rw [smF_s]
    omega
/-- the worst from a year on -/
def wrF (F : Int → Int) (st : Int) : Nat → Int
  | 0 => 0
  | n + 1 => if wrF F st n < F (st + (n : Int)) then F (st + (n : Int)) else wrF F st n
theorem wrF_s (F : Int → Int) (st : Int) (n : Nat) : wrF F st (n + 1) = if wrF F st n < F (st + (n : Int)) then F (st + (n : Int)) else wrF F st n := by rw [wrF]
theorem wrF_b {F : Int → Int} {st : Int} : ∀ n, (∀ i : Nat, i < n → 0 ≤ F (st + (i : Int)) ∧ F (st + (i : Int)) ≤ 7992) → 0 ≤ wrF F st n ∧ wrF F st n ≤ 7992
  | 0, _ => by show (0 : Int) ≤ 0 ∧ (0 : Int) ≤ 7992; omega
  | n + 1, h => by
    have a := wrF_b n (fun r hr => h r (by omega))
    have b := h n (by omega)
    rw [wrF_s]
    split <;> omega
/-- the ridge with the least worst -/
def crF (W : Nat → Int) : Nat → Int32 × Int
  | 0 => (-1, 1000000)
  | n + 1 => if (crF W n).2 ≤ W n then crF W n else (nI n, W n)
theorem crF_0 (W : Nat → Int) : crF W 0 = (-1, 1000000) := by rw [crF]
theorem crF_s (W : Nat → Int) (n : Nat) : crF W (n + 1) = if (crF W n).2 ≤ W n then crF W n else (nI n, W n) := by rw [crF]
theorem crF_b {W : Nat → Int} : ∀ n, (∀ r, r < n → 0 ≤ W r ∧ W r ≤ 7992) → 0 ≤ (crF W n).2 ∧ (crF W n).2 ≤ 1000000 ∧ (0 < n → (crF W n).1 ≠ -1 ∨ 1000000 < n)
  | 0, _ => by
    rw [crF_0]
    exact ⟨by decide, by decide, fun h => absurd h (Nat.lt_irrefl 0)⟩
  | n + 1, h => by
    obtain ⟨a, b, c⟩ := crF_b n (fun r hr => h r (by omega))
    have d := h n (by omega)
    rw [crF_s]
    by_cases e : (crF W n).2 ≤ W n
    · rw [if_pos e]
      refine ⟨a, b, fun _ => ?_⟩
      by_cases z : n = 0
      · subst z
        rw [crF_0] at e
        have e' : (1000000 : Int) ≤ W 0 := e
        omega
      · rcases c (by omega) with c | c
        · exact Or.inl c
        · exact Or.inr (by omega)
    · rw [if_neg e]
      refine ⟨d.1, by have := d.2; show W n ≤ 1000000; omega, fun _ => ?_⟩
      by_cases z : 1000000 < n + 1
      · exact Or.inr z
      · exact Or.inl (nI_nm1 (by omega))
section CO
variable {sl fa nf nr : Nat} {g : Nat → Int32}
abbrev spF (L H : Nat → Int) (D : Nat → Nat → Nat) (a : Nat) (x : Int) : Nat → Int := fun r => dnS H D a x r - upS L D a x r
theorem X_spansL (hr8 : nr ≤ 8) {le gr cb : Nat → Int32} {L H : Nat → Int} {D : Nat → Nat → Nat} (h1 : R8 40000 le L) (h2 : R8 40000 gr H) (h3 : DR cb D) (hD : DB D) {a : Nat} (ha : a < 8) {x : Int} (hx : 0 ≤ x ∧ x ≤ 999) : ∀ n i, i + n = nr → ∀ fu, n < fu → f_X0_spansIfKnown_L1 (nI nr) le gr cb (nI a) (iI x) fu (iI (smF (spF L H D a x) i)) (nI i) = some (iI (smF (spF L H D a x) nr)) := by
  intro n
  induction n with
  | zero =>
    intro i hi fu hfu
    obtain ⟨fu, rfl⟩ : ∃ n, fu = n + 1 := ⟨fu - 1, by omega⟩
    obtain rfl : i = nr := by omega
    unfold f_X0_spansIfKnown_L1
    rw [if_pos (Int32.le_refl _)]
  | succ n ih =>
    intro i hi fu hfu
    obtain ⟨fu, rfl⟩ : ∃ n, fu = n + 1 := ⟨fu - 1, by omega⟩
    have hh := ih (i + 1) (by omega) fu (by omega)
    have b1 := (h1 i (by omega)).2
    have b2 := (h2 i (by omega)).2
    have d1 := hD a i ha (by omega)
    have d2 := hD i a (by omega) ha
    have e1 : (if nI (D a i) ≤ 0 then some (iI (L i)) else bd1 (some (nI (D a i))) (fun r57 => nm (if iI (L i) < (iI x + r57) then (iI x + r57) else iI (L i)) (fun x59 => some x59))) = some (iI (if 0 < D a i then (if L i < x + (D a i : Int) then x + (D a i : Int) else L i) else L i)) := by
      by_cases c : D a i = 0
      · rw [if_pos (show nI (D a i) ≤ 0 from nI_le (b := 0) (by omega) (by decide)), if_neg (show ¬ 0 < D a i by omega)]
      · rw [if_neg (nI_nle (by omega) (by omega)), bd1_s, if_pos (show 0 < D a i by omega), nI_iI, iI_add, nm_s]
        have hlt : iI (L i) < iI (x + (D a i : Int)) ↔ L i < x + (D a i : Int) := by rw [iI_lt (by omega) (by omega) (by omega) (by omega)]
        by_cases d : L i < x + (D a i : Int)
        · rw [if_pos (hlt.mpr d), if_pos d]
        · rw [if_neg (fun z => d (hlt.mp z)), if_neg d]
    have e2 : (if nI (D i a) ≤ 0 then some (iI (H i)) else bd1 (some (nI (D i a))) (fun r52 => nm (if (iI x - r52) < iI (H i) then (iI x - r52) else iI (H i)) (fun x54 => some x54))) = some (iI (if 0 < D i a then (if x - (D i a : Int) < H i then x - (D i a : Int) else H i) else H i)) := by
      by_cases c : D i a = 0
      · rw [if_pos (show nI (D i a) ≤ 0 from nI_le (b := 0) (by omega) (by decide)), if_neg (show ¬ 0 < D i a by omega)]
      · rw [if_neg (nI_nle (by omega) (by omega)), bd1_s, if_pos (show 0 < D i a by omega), nI_iI, iI_sub, nm_s]
        have hlt : iI (x - (D i a : Int)) < iI (H i) ↔ x - (D i a : Int) < H i := by rw [iI_lt (by omega) (by omega) (by omega) (by omega)]
        by_cases d : x - (D i a : Int) < H i
        · rw [if_pos (hlt.mpr d), if_pos d]
        · rw [if_neg (fun z => d (hlt.mp z)), if_neg d]
    unfold f_X0_spansIfKnown_L1
    rw [if_neg (nI_ge (by omega) (by omega)), X_leastOf h1 (by omega), bd1_s, X_greatestOf h2 (by omega), bd1_s, X_cuts h3 ha (by omega), bd1_s, e1, bd1_s, X_cuts h3 (by omega) ha, bd1_s, e2, bd1_s, nI_1]
    rw [smF_s] at hh
    by_cases c : i = a
    · subst c
      rw [if_pos rfl]
      have z : spF L H D i x i = 0 := by
        show dnS H D i x i - upS L D i x i = 0
        unfold dnS upS
        rw [if_pos rfl, if_pos rfl]
        omega
      rw [z, Int.add_zero] at hh
      exact hh
    · rw [if_neg (fun z => c ((nI_eq (by omega) (by omega)).mp z)), iI_sub, iI_add, nm_s]
      have z : spF L H D a x i = (if 0 < D i a then (if x - (D i a : Int) < H i then x - (D i a : Int) else H i) else H i) - (if 0 < D a i then (if L i < x + (D a i : Int) then x + (D a i : Int) else L i) else L i) := by
        show dnS H D a x i - upS L D a x i = _
        unfold dnS upS
        rw [if_neg c, if_neg c]
      rw [z] at hh
      exact hh
theorem X_spans (hr8 : nr ≤ 8) {le gr cb : Nat → Int32} {L H : Nat → Int} {D : Nat → Nat → Nat} (h1 : R8 40000 le L) (h2 : R8 40000 gr H) (h3 : DR cb D) (hD : DB D) {a : Nat} (ha : a < 8) {x : Int} (hx : 0 ≤ x ∧ x ≤ 999) : f_X0_spansIfKnown le gr cb (nI nr) (nI a) (iI x) = some (iI (smF (spF L H D a x) nr)) := by
  have hh := X_spansL hr8 h1 h2 h3 hD ha hx nr 0 (by omega) FU (FU_big (by omega))
  unfold f_X0_spansIfKnown
  rw [show f_X0_spansIfKnown_L1 (nI nr) le gr cb (nI a) (iI x) FU 0 0 = _ from hh, bd1_s]
/-- what is worst of a ridge -/
def WF (nr : Nat) (L H : Nat → Int) (D : Nat → Nat → Nat) (a : Nat) : Int := wrF (fun x => smF (spF L H D a x) nr) (L a) (H a - L a + 1).toNat
theorem X_worstL (hr8 : nr ≤ 8) {le gr cb : Nat → Int32} {L H : Nat → Int} {D : Nat → Nat → Nat} (h1 : R8 40000 le L) (h2 : R8 40000 gr H) (h3 : DR cb D) (hD : DB D) {a : Nat} (ha : a < 8) (hL : 0 ≤ L a ∧ L a ≤ H a ∧ H a ≤ 999) (hb : ∀ x, L a ≤ x → x ≤ H a → 0 ≤ smF (spF L H D a x) nr ∧ smF (spF L H D a x) nr ≤ 7992) : ∀ n i : Nat, (i : Int) + (n : Int) = H a - L a + 1 → ∀ fu, n < fu → f_X0_ridgeToCore_L4 gr (nI a) le cb (nI nr) fu (iI (wrF (fun x => smF (spF L H D a x) nr) (L a) i)) (iI (L a + (i : Int))) = some (iI (WF nr L H D a)) := by
  intro n
  induction n with
  | zero =>
    intro i hi fu hfu
    obtain ⟨fu, rfl⟩ : ∃ n, fu = n + 1 := ⟨fu - 1, by omega⟩
    unfold f_X0_ridgeToCore_L4
    have hlt : iI (H a) < iI (L a + (i : Int)) ↔ H a < L a + (i : Int) := by rw [iI_lt (by omega) (by omega) (by omega) (by omega)]
    rw [X_greatestOf h2 ha, bd1_s, if_pos (hlt.mpr (by omega))]
    unfold WF
    rw [show (H a - L a + 1).toNat = i by omega]
  | succ n ih =>
    intro i hi fu hfu
    obtain ⟨fu, rfl⟩ : ∃ n, fu = n + 1 := ⟨fu - 1, by omega⟩
    have hh := ih (i + 1) (by omega) fu (by omega)
    rw [wrF_s, show L a + ((i + 1 : Nat) : Int) = L a + (i : Int) + 1 by omega] at hh
    have q := hb (L a + (i : Int)) (by omega) (by omega)
    have w := wrF_b (F := fun x => smF (spF L H D a x) nr) (st := L a) i (fun j hj => hb (L a + (j : Int)) (by omega) (by omega))
    have hlt : iI (H a) < iI (L a + (i : Int)) ↔ H a < L a + (i : Int) := by rw [iI_lt (by omega) (by omega) (by omega) (by omega)]
    have hl2 : iI (wrF (fun x => smF (spF L H D a x) nr) (L a) i) < iI (smF (spF L H D a (L a + (i : Int))) nr) ↔ wrF (fun x => smF (spF L H D a x) nr) (L a) i < smF (spF L H D a (L a + (i : Int))) nr := by rw [iI_lt (by omega) (by omega) (by omega) (by omega)]
    unfold f_X0_ridgeToCore_L4
    rw [X_greatestOf h2 ha, bd1_s, if_neg (fun z => by have := hlt.mp z; omega), X_spans hr8 h1 h2 h3 hD ha (x := L a + (i : Int)) (by omega), bd1_s, show (1 : Int32) = iI 1 from rfl, iI_add]
    by_cases c : wrF (fun x => smF (spF L H D a x) nr) (L a) i < smF (spF L H D a (L a + (i : Int))) nr
    · rw [if_pos c] at hh
      rw [if_pos (hl2.mpr c), nm_s]
      exact hh
    · rw [if_neg c] at hh
      rw [if_neg (fun z => c (hl2.mp z)), nm_s]
      exact hh
theorem X_coreL (hr8 : nr ≤ 8) {le gr cb : Nat → Int32} {L H : Nat → Int} {D : Nat → Nat → Nat} (h1 : R8 40000 le L) (h2 : R8 40000 gr H) (h3 : DR cb D) (hD : DB D) (hL : ∀ a, a < 8 → 0 ≤ L a ∧ L a ≤ H a ∧ H a ≤ 999) (hb : ∀ a, a < 8 → ∀ x, L a ≤ x → x ≤ H a → 0 ≤ smF (spF L H D a x) nr ∧ smF (spF L H D a x) nr ≤ 7992) : ∀ n i, i + n = nr → ∀ fu, n < fu → f_X0_ridgeToCore_L3 (nI nr) le gr cb fu (crF (WF nr L H D) i).1 (if i = 0 then 0 else iI (crF (WF nr L H D) i).2) (nI i) = some (crF (WF nr L H D) nr).1 := by
  have hW : ∀ r, r < nr → 0 ≤ WF nr L H D r ∧ WF nr L H D r ≤ 7992 := fun r hr => wrF_b _ (fun j hj => by
    have := hL r (by omega)
    exact hb r (by omega) (L r + (j : Int)) (by omega) (by omega))
  intro n
  induction n with
  | zero =>
    intro i hi fu hfu
    obtain ⟨fu, rfl⟩ : ∃ n, fu = n + 1 := ⟨fu - 1, by omega⟩
    obtain rfl : i = nr := by omega
    unfold f_X0_ridgeToCore_L3
    rw [if_pos (Int32.le_refl _)]
  | succ n ih =>
    intro i hi fu hfu
    obtain ⟨fu, rfl⟩ : ∃ n, fu = n + 1 := ⟨fu - 1, by omega⟩
    have hh := ih (i + 1) (by omega) fu (by omega)
    rw [crF_s, if_neg (Nat.succ_ne_zero i)] at hh
    have hLi := hL i (by omega)
    have h4 := X_worstL hr8 h1 h2 h3 hD (show i < 8 by omega) hLi (hb i (by omega)) (H i - L i + 1).toNat 0 (by omega) FU (FU_big (by omega))
    rw [Int.natCast_zero, Int.add_zero] at h4
    have h4' : f_X0_ridgeToCore_L4 gr (nI i) le cb (nI nr) FU 0 (iI (L i)) = some (iI (WF nr L H D i)) := h4
    have hWi := hW i (by omega)
    have hc := crF_b (W := WF nr L H D) i (fun r hr => hW r (by omega))
    have hle : iI (crF (WF nr L H D) i).2 ≤ iI (WF nr L H D i) ↔ (crF (WF nr L H D) i).2 ≤ WF nr L H D i := by rw [iI_le (by omega) (by omega) (by omega) (by omega)]
    unfold f_X0_ridgeToCore_L3
    rw [if_neg (nI_ge (by omega) (by omega)), X_leastOf h1 (by omega), bd1_s, h4', bd1_s, nI_1]
    by_cases z : i = 0
    · subst z
      rw [crF_0] at hh ⊢
      rw [if_neg (show ¬ ((-1 : Int32), (1000000 : Int)).2 ≤ WF nr L H D 0 by show ¬ (1000000 : Int) ≤ _; omega)] at hh
      rw [if_pos rfl]
      exact hh
    · have ne : ¬ (crF (WF nr L H D) i).1 = -1 := by
        rcases hc.2.2 (by omega) with w | w
        · exact w
        · omega
      rw [if_neg z, if_neg ne]
      by_cases c : (crF (WF nr L H D) i).2 ≤ WF nr L H D i
      · rw [if_pos c] at hh
        rw [if_pos (hle.mpr c)]
        exact hh
      · rw [if_neg c] at hh
        rw [if_neg (fun w => c (hle.mp w))]
        exact hh
theorem X_core (hr8 : nr ≤ 8) {le gr cb : Nat → Int32} {L H : Nat → Int} {D : Nat → Nat → Nat} (h1 : R8 40000 le L) (h2 : R8 40000 gr H) (h3 : DR cb D) (hD : DB D) (hL : ∀ a, a < 8 → 0 ≤ L a ∧ L a ≤ H a ∧ H a ≤ 999) (hb : ∀ a, a < 8 → ∀ x, L a ≤ x → x ≤ H a → 0 ≤ smF (spF L H D a x) nr ∧ smF (spF L H D a x) nr ≤ 7992) : f_X0_ridgeToCore le gr cb (nI nr) = some (crF (WF nr L H D) nr).1 := by
  have hh := X_coreL hr8 h1 h2 h3 hD hL hb nr 0 (by omega) FU (FU_big (by omega))
  rw [crF_0, if_pos rfl] at hh
  unfold f_X0_ridgeToCore
  rw [show f_X0_ridgeToCore_L3 (nI nr) le gr cb FU (-1) 0 0 = _ from hh, bd1_s]
/-! one ridge's age given: the least and the greatest -/
def kL (a : Nat) (x : Int) : Nat → Int := fun r => if r = a then x else 0
def kH (a : Nat) (x : Int) : Nat → Int := fun r => if r = a then x else 999
theorem kB (hG : FG sl fa nf nr g) {S : Nat} {L H : Nat → Int} {D : Nat → Nat → Nat} (hB : pB sl fa nf g S L H) (hD : CUT nf g S (fSol sl fa nf g S z0 z9 noX) D) {a : Nat} {x : Int} (ha : a < 8) (h1 : L a ≤ x) (h2 : x ≤ H a) : BST (fE nf g S noX) (fLo sl nf g S (kL a x)) (fHi fa nf g S (kH a x)) (upS L D a x) (dnS H D a x) := by
  have hu := upS_ok hG hB hD ha h1 h2
  have hd := dnS_ok hG hB hD ha h1 h2
  have kn : ∀ s, fSol sl fa nf g S z0 z9 noX s → s a = x → fSol sl fa nf g S (kL a x) (kH a x) noX s := by
    intro s hs e
    obtain ⟨s1, s2, s3⟩ := (fSol_iff hG).mp hs
    refine (fSol_iff hG).mpr ⟨fun r hr => ?_, s2, s3⟩
    unfold kL kH
    by_cases c : r = a
    · subst c; rw [if_pos rfl, if_pos rfl, e]; exact ⟨Int.le_refl _, Int.le_refl _⟩
    · rw [if_neg c, if_neg c]; exact s1 r hr
  refine ⟨kn _ hu (by unfold upS; rw [if_pos rfl]), kn _ hd (by unfold dnS; rw [if_pos rfl]), fun s hs r hr => ?_⟩
  obtain ⟨s1, s2, s3⟩ := (fSol_iff hG).mp hs
  have hx0 : 0 ≤ x ∧ x ≤ 999 := by
    have e1 := ((fSol_iff hG).mp hB.1).1 a ha
    have e2 := ((fSol_iff hG).mp hB.2.1).1 a ha
    have f1 : (0 : Int) ≤ L a := e1.1
    have f2 : H a ≤ (999 : Int) := e2.2
    omega
  have ea : s a = x := by
    have := s1 a ha
    unfold kL kH at this
    rw [if_pos rfl, if_pos rfl] at this
    omega
  have hs' : fSol sl fa nf g S z0 z9 noX s := (fSol_iff hG).mpr ⟨fun q hq => by
    have := s1 q hq
    unfold kL kH at this
    show (0 : Int) ≤ s q ∧ s q ≤ 999
    by_cases c : q = a
    · subst c; omega
    · rw [if_neg c, if_neg c] at this; exact this, s2, s3⟩
  have m := hB.2.2 s hs' r hr
  unfold upS dnS
  by_cases c : r = a
  · subst c
    rw [if_pos rfl, if_pos rfl, ea]
    exact ⟨Int.le_refl _, Int.le_refl _⟩
  · rw [if_neg c, if_neg c]
    constructor
    · by_cases d : 0 < D a r
      · have := hD.1 a r ha hr d s hs'
        rw [if_pos d]
        split <;> omega
      · rw [if_neg d]; exact m.1
    · by_cases d : 0 < D r a
      · have := hD.1 r a hr ha d s hs'
        rw [if_pos d]
        split <;> omega
      · rw [if_neg d]; exact m.2
theorem spB (hG : FG sl fa nf nr g) {S : Nat} {L H : Nat → Int} {D : Nat → Nat → Nat} (hB : pB sl fa nf g S L H) (hD : CUT nf g S (fSol sl fa nf g S z0 z9 noX) D) {a : Nat} {x : Int} (ha : a < 8) (h1 : L a ≤ x) (h2 : x ≤ H a) : 0 ≤ smF (spF L H D a x) nr ∧ smF (spF L H D a x) nr ≤ 7992 := by
  have hr8 := hG.2.1
  have hk := kB hG hB hD ha h1 h2
  have hu := ((fSol_iff hG).mp (upS_ok hG hB hD ha h1 h2)).1
  have hd := ((fSol_iff hG).mp (dnS_ok hG hB hD ha h1 h2)).1
  have := smF_b (f := spF L H D a x) nr (fun r hr => by
    have e := (hk.2.2 _ hk.1 r (by omega)).2
    have e1 : (0 : Int) ≤ upS L D a x r := (hu r (by omega)).1
    have e2 : dnS H D a x r ≤ (999 : Int) := (hd r (by omega)).2
    show 0 ≤ dnS H D a x r - upS L D a x r ∧ dnS H D a x r - upS L D a x r ≤ 999
    omega)
  omega
theorem M_sumL (hr8 : nr ≤ 8) {bk : Nat → Int32} (h3 : bk 3 = nI nr) {lo hi : Nat → Int32} {l h : Nat → Int} (hl : R8 40000 lo l) (hh : R8 40000 hi h) : ∀ n i, i + n = nr → ∀ fu, n < fu → f_X10_core_L13 bk hi lo fu (iI (smF (fun r => h r - l r) i)) (nI i) = some (iI (smF (fun r => h r - l r) nr)) := by
  have b3 : bk (3 : Int32).toNatClampNeg = nI nr := h3
  intro n
  induction n with
  | zero =>
    intro i hi' fu hfu
    obtain ⟨fu, rfl⟩ : ∃ n, fu = n + 1 := ⟨fu - 1, by omega⟩
    obtain rfl : i = nr := by omega
    unfold f_X10_core_L13
    rw [show gin (3 : Int32) 460 = true from by decide, chk_t, b3, if_pos (Int32.le_refl _)]
  | succ n ih =>
    intro i hi' fu hfu
    obtain ⟨fu, rfl⟩ : ∃ n, fu = n + 1 := ⟨fu - 1, by omega⟩
    have hq := ih (i + 1) (by omega) fu (by omega)
    rw [smF_s] at hq
    unfold f_X10_core_L13
    rw [show gin (3 : Int32) 460 = true from by decide, chk_t, b3, if_neg (nI_ge (by omega) (by omega)), gin_n (by omega) (by decide), chk_t, chk_t, cl_n (by omega), (hl i (by omega)).1, (hh i (by omega)).1, iI_sub, iI_add, nm_s, nI_1]
    exact hq
theorem M_worstL (hG : FG sl fa nf nr g) {bk : Nat → Int32} (hB : FBK sl fa nf nr g bk) {S : Nat} (hS : S < 2 ^ 16) {L H : Nat → Int} {D : Nat → Nat → Nat} (hP : pB sl fa nf g S L H) (hD : CUT nf g S (fSol sl fa nf g S z0 z9 noX) D) (th : Int32) {a : Nat} (ha : a < 8) : ∀ n i : Nat, (i : Int) + (n : Int) = H a - L a + 1 → ∀ fu, n < fu → ∀ (hi lo : Nat → Int32) (ka mv : Int32), ∃ hi' lo' ka' mv', f_X10_core_L12 (iI (H a)) (-1) th (nI a) bk (nI S) fu hi lo ka mv (iI (wrF (fun x => smF (spF L H D a x) nr) (L a) i)) (iI (L a + (i : Int))) = some (hi', lo', ka', mv', iI (WF nr L H D a)) := by
  have hr8 := hG.2.1
  have eL : (0 : Int) ≤ L a := (((fSol_iff hG).mp hP.1).1 a ha).1
  have eH : H a ≤ (999 : Int) := (((fSol_iff hG).mp hP.2.1).1 a ha).2
  intro n
  induction n with
  | zero =>
    intro i hi' fu hfu hi lo ka mv
    obtain ⟨fu, rfl⟩ : ∃ n, fu = n + 1 := ⟨fu - 1, by omega⟩
    have hlt : iI (H a) < iI (L a + (i : Int)) ↔ H a < L a + (i : Int) := by rw [iI_lt (by omega) (by omega) (by omega) (by omega)]
    refine ⟨hi, lo, ka, mv, ?_⟩
    unfold f_X10_core_L12
    rw [if_pos (hlt.mpr (by omega))]
    unfold WF
    rw [show (H a - L a + 1).toNat = i by omega]
  | succ n ih =>
    intro i hi' fu hfu hi lo ka mv
    obtain ⟨fu, rfl⟩ : ∃ n, fu = n + 1 := ⟨fu - 1, by omega⟩
    have x1 : L a ≤ L a + (i : Int) := by omega
    have x2 : L a + (i : Int) ≤ H a := by omega
    have q := spB hG hP hD ha x1 x2
    have w := wrF_b (F := fun x => smF (spF L H D a x) nr) (st := L a) i (fun j hj => spB hG hP hD ha (by omega) (by omega))
    have hk := kB hG hP hD ha x1 x2
    have hlt : iI (H a) < iI (L a + (i : Int)) ↔ H a < L a + (i : Int) := by rw [iI_lt (by omega) (by omega) (by omega) (by omega)]
    obtain ⟨r, mv1, lo1, hi1, a1, a2⟩ := M_bounds hG hB hS (no := -1) (th := th) (known := nI a) (kage := iI (L a + (i : Int))) (X := noX) (lo0 := kL a (L a + (i : Int))) (hi0 := kH a (L a + (i : Int))) (Or.inl ⟨rfl, fun _ _ z => z⟩) (fun r hr => by
      unfold kL kH
      by_cases c : r = a
      · rw [if_pos c, if_pos c]; omega
      · rw [if_neg c, if_neg c]; omega) (fun r hr => by
      unfold kL kH
      by_cases c : r = a
      · subst c; rw [if_pos rfl, if_pos rfl, if_pos rfl, if_pos rfl]; exact ⟨rfl, rfl⟩
      · rw [if_neg (fun z => c ((nI_eq (by omega) (by omega)).mp z)), if_neg (fun z => c ((nI_eq (by omega) (by omega)).mp z)), if_neg c, if_neg c]; exact ⟨rfl, rfl⟩) lo hi
    rcases a2 with ⟨rfl, l', h', c1, c2, c3⟩ | ⟨rfl, a2⟩
    · have es : smF (fun r => h' r - l' r) nr = smF (spF L H D a (L a + (i : Int))) nr := smF_c nr (fun r hr => by
        have := BST_u c3 hk r (by omega)
        rw [this.1, this.2])
      have sm := M_sumL hr8 hB.1 c1 c2 nr 0 (by omega) FU (FU_big (by omega))
      rw [es] at sm
      have sm' : f_X10_core_L13 bk hi1 lo1 FU 0 0 = some (iI (smF (spF L H D a (L a + (i : Int))) nr)) := sm
      have hle : iI (smF (spF L H D a (L a + (i : Int))) nr) ≤ iI (wrF (fun x => smF (spF L H D a x) nr) (L a) i) ↔ smF (spF L H D a (L a + (i : Int))) nr ≤ wrF (fun x => smF (spF L H D a x) nr) (L a) i := by rw [iI_le (by omega) (by omega) (by omega) (by omega)]
      obtain ⟨hi2, lo2, ka2, mv2, b1⟩ := ih (i + 1) (by omega) fu (by omega) hi1 lo1 (iI (L a + (i : Int))) mv1
      rw [wrF_s, show L a + ((i + 1 : Nat) : Int) = L a + (i : Int) + 1 by omega] at b1
      refine ⟨hi2, lo2, ka2, mv2, ?_⟩
      unfold f_X10_core_L12
      rw [if_neg (fun z => by have := hlt.mp z; omega), a1, bd4_s, sm', bd1_s, show (1 : Int32) = iI 1 from rfl, iI_add]
      by_cases c : wrF (fun x => smF (spF L H D a x) nr) (L a) i < smF (spF L H D a (L a + (i : Int))) nr
      · rw [if_pos c] at b1
        rw [if_neg (fun z => by have := hle.mp z; omega)]
        exact b1
      · rw [if_neg c] at b1
        rw [if_pos (hle.mpr (by omega))]
        exact b1
    · exact absurd ⟨_, hk.1⟩ a2
theorem M_coreL (hG : FG sl fa nf nr g) {bk : Nat → Int32} (hB : FBK sl fa nf nr g bk) {S : Nat} (hS : S < 2 ^ 16) {L H : Nat → Int} {D : Nat → Nat → Nat} (hP : pB sl fa nf g S L H) (hD : CUT nf g S (fSol sl fa nf g S z0 z9 noX) D) (th : Int32) : ∀ n i, i + n = nr → ∀ fu, n < fu → ∀ (hi lo : Nat → Int32) (no kn ka mv : Int32), ∃ hi' lo' no' kn' ka' mv', f_X10_core_L9 bk th (nI S) fu hi lo no kn ka mv (crF (WF nr L H D) i).1 (iI (crF (WF nr L H D) i).2) (nI i) = some (hi', lo', no', kn', ka', mv', (crF (WF nr L H D) nr).1) := by
  have hr8 := hG.2.1
  have b3 : bk (3 : Int32).toNatClampNeg = nI nr := hB.1
  have hLH : ∀ a, a < 8 → 0 ≤ L a ∧ L a ≤ H a ∧ H a ≤ 999 := fun a ha => by
    have eL : (0 : Int) ≤ L a := (((fSol_iff hG).mp hP.1).1 a ha).1
    have eH : H a ≤ (999 : Int) := (((fSol_iff hG).mp hP.2.1).1 a ha).2
    have := (hP.2.2 _ hP.1 a ha).2
    omega
  have hW : ∀ r, r < nr → 0 ≤ WF nr L H D r ∧ WF nr L H D r ≤ 7992 := fun r hr => wrF_b _ (fun j hj => by
    have := hLH r (by omega)
    exact spB hG hP hD (by omega) (by omega) (by omega))
  intro n
  induction n with
  | zero =>
    intro i hi' fu hfu hi lo no kn ka mv
    obtain ⟨fu, rfl⟩ : ∃ n, fu = n + 1 := ⟨fu - 1, by omega⟩
    obtain rfl : i = nr := by omega
    refine ⟨hi, lo, no, kn, ka, mv, ?_⟩
    unfold f_X10_core_L9
    rw [show gin (3 : Int32) 460 = true from by decide, chk_t, b3, if_pos (Int32.le_refl _)]
  | succ n ih =>
    intro i hi' fu hfu hi lo no kn ka mv
    obtain ⟨fu, rfl⟩ : ∃ n, fu = n + 1 := ⟨fu - 1, by omega⟩
    obtain ⟨r2, mv2, lo2, hi2, b1, b2⟩ := M_plain hG hB hS th ka lo hi
    rcases b2 with ⟨rfl, l2, h2, e1, e2, e3⟩ | ⟨rfl, e1⟩
    · have eq := BST_u e3 hP i (by omega)
      obtain ⟨hi3, lo3, ka3, mv3, c1⟩ := M_worstL hG hB hS hP hD th (show i < 8 by omega) (H i - L i + 1).toNat 0 (by have := hLH i (by omega); omega) FU (FU_big (by have := hLH i (by omega); omega)) hi2 lo2 ka mv2
      rw [Int.natCast_zero, Int.add_zero] at c1
      have c1' : f_X10_core_L12 (iI (H i)) (-1) th (nI i) bk (nI S) FU hi2 lo2 ka mv2 0 (iI (L i)) = some (hi3, lo3, ka3, mv3, iI (WF nr L H D i)) := c1
      have hWi := hW i (by omega)
      have hc := crF_b (W := WF nr L H D) i (fun r hr => hW r (by omega))
      have hle : iI (crF (WF nr L H D) i).2 ≤ iI (WF nr L H D i) ↔ (crF (WF nr L H D) i).2 ≤ WF nr L H D i := by rw [iI_le (by omega) (by omega) (by omega) (by omega)]
      have hstep : f_X10_core_L9 bk th (nI S) (fu + 1) hi lo no kn ka mv (crF (WF nr L H D) i).1 (iI (crF (WF nr L H D) i).2) (nI i) = f_X10_core_L9 bk th (nI S) fu hi3 lo3 (-1) (nI i) ka3 mv3 (crF (WF nr L H D) (i + 1)).1 (iI (crF (WF nr L H D) (i + 1)).2) (nI (i + 1)) := by
        conv => lhs; unfold f_X10_core_L9
        rw [show gin (3 : Int32) 460 = true from by decide, chk_t, b3, if_neg (nI_ge (by omega) (by omega)), b1, bd6_s, gin_n (by omega) (by decide), chk_t, nm_s, chk_t, nm_s, cl_n (by omega), (e1 i (by omega)).1, (e2 i (by omega)).1, eq.1, eq.2, c1', bd5_s, crF_s, nI_1]
        by_cases c : (crF (WF nr L H D) i).2 ≤ WF nr L H D i
        · rw [if_pos (hle.mpr c), if_pos c]
        · rw [if_neg (fun z => c (hle.mp z)), if_neg c]
      rw [hstep]
      exact ih (i + 1) (by omega) fu (by omega) hi3 lo3 (-1) (nI i) ka3 mv3
    · exact absurd ⟨L, (SOL_iff hG).mp hP.1⟩ e1
end CO
theorem q_core : PP_core INV := by
  intro xi xa mi ma hI _
  obtain ⟨nr, nf, sl, fa, s2, s10, h4, h5, hsl, hG, hB⟩ := ageS hI
  have hn := hG.1
  have hr8 := hG.2.1
  have hp := pw16 hn
  have hAC : ACI (xi 50) (xi 51) (xi 47) (xi 48) (xi 49) (xa 48) := hI.2.2.2.2.2.1
  have good : ∀ {r o0 o1 o2 o3 : Int32} {o4 o5 o6 o7 o8 o9 : Nat → Int32} {o10 : Int32} {o11 o12 : Nat → Int32} {q0 q1 q2 q3 : Int32} {q4 q5 : Nat → Int32}, f_X9_core (xi 2) (xa 4) (xi 46) (xi 47) (xi 48) (xi 49) (xi 10) 80 (xa 5) (xa 43) (xa 44) (xa 45) (xa 46) (xa 39) (xa 40) (xi 50) (xi 51) 80 (xa 48) (xa 47) = some (r, o0, o1, o2, o3, o4, o5, o6, o7, o8, o9, o10, o11, o12) → f_X10_core (mi 0) (mi 1) (mi 2) (mi 3) (mi 4) (ma 0) (ma 9) (ma 10) = some (r, q0, q1, q2, q3, q4, q5) → ACI (xi 50) o10 o1 o2 o3 o11 → ∃ (r : Int32) (o0 : Int32) (o1 : Int32) (o2 : Int32) (o3 : Int32) (o4 : (Nat → Int32)) (o5 : (Nat → Int32)) (o6 : (Nat → Int32)) (o7 : (Nat → Int32)) (o8 : (Nat → Int32)) (o9 : (Nat → Int32)) (o10 : Int32) (o11 : (Nat → Int32)) (o12 : (Nat → Int32)) (q0 : Int32) (q1 : Int32) (q2 : Int32) (q3 : Int32) (q4 : (Nat → Int32)) (q5 : (Nat → Int32)), f_X9_core (xi 2) (xa 4) (xi 46) (xi 47) (xi 48) (xi 49) (xi 10) 80 (xa 5) (xa 43) (xa 44) (xa 45) (xa 46) (xa 39) (xa 40) (xi 50) (xi 51) 80 (xa 48) (xa 47) = some (r, o0, o1, o2, o3, o4, o5, o6, o7, o8, o9, o10, o11, o12) ∧ f_X10_core (mi 0) (mi 1) (mi 2) (mi 3) (mi 4) (ma 0) (ma 9) (ma 10) = some (r, q0, q1, q2, q3, q4, q5) ∧ INV (va_up (va_up (va_up (va_up (va_up xi 46 o0) 47 o1) 48 o2) 49 o3) 51 o10) (va_up (va_up (va_up (va_up (va_up (va_up (va_up (va_up xa 43 o4) 44 o5) 45 o6) 46 o7) 39 o8) 40 o9) 48 o11) 47 o12) (va_up (va_up (va_up (va_up mi 0 q0) 2 q1) 3 q2) 4 q3) (va_up (va_up ma 9 q4) 10 q5) := by
    intro r o0 o1 o2 o3 o4 o5 o6 o7 o8 o9 o10 o11 o12 q0 q1 q2 q3 q4 q5 a b c
    refine ⟨_, _, _, _, _, _, _, _, _, _, _, _, _, _, _, _, _, _, _, _, a, b, INV_x hI ?_ ?_ ?_ ?_ ?_ ?_⟩
    · simp (disch := omega) only [va_up_ne, va_up_self]
      exact c
    · simp (disch := omega) only [va_up_ne, va_up_self]
      exact hI.2.2.2.2.2.2
    · intro k hk
      simp (disch := omega) only [va_up_ne]
    · intro k hk
      simp (disch := omega) only [va_up_ne]
    · simp (disch := omega) only [va_up_ne]
    · intro k hk
      simp (disch := omega) only [va_up_ne]
  obtain ⟨r, tk', sS', sF', out', ro', ol', lw', hg', le', gr', siz', cells', cb', a1, a2, a3, a4⟩ := X_joinBest hG hsl h4 h5 hAC (xi 46) (xa 43) (xa 44) (xa 45) (xa 46) (xa 39) (xa 40) (xa 47)
  have xx : ∀ K, K = f_X9_core (xi 2) (xa 4) (xi 46) (xi 47) (xi 48) (xi 49) (xi 10) 80 (xa 5) (xa 43) (xa 44) (xa 45) (xa 46) (xa 39) (xa 40) (xi 50) (xi 51) 80 (xa 48) (xa 47) → K = (if r = (0) then (some ((-5 : Int32), tk', sS', sF', out', ro', ol', lw', hg', le', gr', siz', cells', cb')) else (bd1 (f_X0_ridgeToCore le' gr' cb' (nI nr)) (fun r17 => some (r17, tk', sS', sF', out', ro', ol', lw', hg', le', gr', siz', cells', cb')))) := by
    intro K hK
    rw [hK]
    unfold f_X9_core
    rw [s10, a1, bd14_s, s2]
  have xx := xx _ rfl
  by_cases z : nr = 0
  · have mm : f_X10_core (mi 0) (mi 1) (mi 2) (mi 3) (mi 4) (ma 0) (ma 9) (ma 10) = some (-1, mi 0, mi 2, mi 3, mi 4, ma 9, ma 10) := by
      unfold f_X10_core
      rw [show gin (3 : Int32) 460 = true from by decide, chk_t, show ma 0 (3 : Int32).toNatClampNeg = nI nr from hB.1, z, if_pos (by rfl)]
    rcases a4 with ⟨rfl, rfl⟩ | ⟨rfl, o, o1, rfl, L, H, D, j⟩
    · exfalso
      have nf0 : nf = 0 := by
        by_cases w : nf = 0
        · exact w
        · have := (fg_k hG (show 0 < nf by omega)).2.1
          omega
      subst nf0
      rcases a3 with ⟨o, o1, w, -⟩ | ⟨-, w⟩
      · rw [Nat.pow_zero] at o1
        exact nI_n5 (o := o) (by omega) w.symm
      · have := w 0 (by decide) ⟨z0, fun _ _ => ⟨by show (0 : Int) ≤ 0; decide, by show (0 : Int) ≤ 999; decide⟩, fun i hi => by omega⟩
        rw [pc_0] at this
        omega
    · obtain ⟨j1, j2, j3, j4, j5⟩ := j
      rw [if_neg one0, z, show f_X0_ridgeToCore le' gr' cb' (nI 0) = some (-1) from by
        unfold f_X0_ridgeToCore FU
        unfold f_X0_ridgeToCore_L3
        rw [if_pos (by decide), bd1_s], bd1_s] at xx
      exact good xx mm a2
  · obtain ⟨r2, no', kn', mv', lo', hi', b1, b2⟩ := M_few hG hB (mi 0) (mi 1) (mi 2) (mi 3) (mi 4) (ma 9) (ma 10)
    have e2 := FewS_u a3 b2
    subst e2
    have mm : ∀ K, K = f_X10_core (mi 0) (mi 1) (mi 2) (mi 3) (mi 4) (ma 0) (ma 9) (ma 10) → K = (if (0) ≤ out' then (bd1 (f_X10_all (ma 0)) (fun r11 => nm (r11 &&& (out' ^^^ (-1 : Int32))) (fun x13 => bd7 (f_X10_core_L9 (ma 0) (mi 1) x13 FU hi' lo' no' kn' (mi 3) mv' (-1 : Int32) (1000000 : Int32) (0 : Int32)) (fun y117 y118 x119 x120 x121 x122 x123 => some (x123, x119, x120, x121, x122, y118, y117))))) else (some ((-5 : Int32), no', kn', mi 3, mv', lo', hi'))) := by
      intro K hK
      rw [hK]
      unfold f_X10_core
      rw [show gin (3 : Int32) 460 = true from by decide, chk_t, show ma 0 (3 : Int32).toNatClampNeg = nI nr from hB.1, if_neg (nI_ne0 (by omega) (by omega)), b1, bd6_s]
    have mm := mm _ rfl
    rcases a4 with ⟨rfl, rfl⟩ | ⟨rfl, o, o1, rfl, L, H, D, j⟩
    · rw [if_pos rfl] at xx
      rw [if_neg (by decide)] at mm
      exact good xx mm a2
    · obtain ⟨j1, j2, j3, j4, j5⟩ := j
      have hDB := (SND_b j5.1 ⟨L, j3.1, ((fSol_iff hG).mp j3.1).1⟩).1
      have hLH : ∀ a, a < 8 → 0 ≤ L a ∧ L a ≤ H a ∧ H a ≤ 999 := fun a ha => by
        have eL : (0 : Int) ≤ L a := (((fSol_iff hG).mp j3.1).1 a ha).1
        have eH : H a ≤ (999 : Int) := (((fSol_iff hG).mp j3.2.1).1 a ha).2
        have := (j3.2.2 _ j3.1 a ha).2
        omega
      have xc := X_core hr8 j1 j2 j4 hDB hLH (fun a ha x x1 x2 => spB hG j3 j5 ha x1 x2)
      obtain ⟨hi3, lo3, no3, kn3, ka3, mv3, c1⟩ := M_coreL hG hB (S := 2 ^ nf - 1 - o) (by omega) j3 j5 (mi 1) nr 0 (by omega) FU (FU_big (by omega)) hi' lo' no' kn' (mi 3) mv'
      rw [crF_0] at c1
      have c1' : f_X10_core_L9 (ma 0) (mi 1) (nI (2 ^ nf - 1 - o)) FU hi' lo' no' kn' (mi 3) mv' (-1) 1000000 0 = some (hi3, lo3, no3, kn3, ka3, mv3, (crF (WF nr L H D) nr).1) := c1
      rw [if_neg one0, xc, bd1_s] at xx
      rw [if_pos (nI_pos' (by omega)), M_all hn hB.2.1, bd1_s, cmpl hn o1, nm_s, c1', bd7_s] at mm
      exact good xx mm a2
