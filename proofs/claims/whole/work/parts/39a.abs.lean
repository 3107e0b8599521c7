/-! ===== ages: bounds of differences, without programs ===== -/
def ASol (E : Nat → Nat → Int → Prop) (Lo Hi : Nat → Int → Prop) (s : Nat → Int) : Prop := (∀ r c, r < 8 → Lo r c → c ≤ s r) ∧ (∀ r c, r < 8 → Hi r c → s r ≤ c) ∧ (∀ a b w, E a b w → s a + w ≤ s b)
def EOK (E : Nat → Nat → Int → Prop) : Prop := ∀ a b w, E a b w → a < 8 ∧ b < 8
def smI (s : Nat → Int) : Nat → Nat
  | 0 => 0
  | n + 1 => smI s n + (s n).toNat
theorem smI_le {m s : Nat → Int} : ∀ n, (∀ r, r < n → m r ≤ s r) → smI m n ≤ smI s n
  | 0, _ => Nat.le_refl _
  | n + 1, h => by
    have a := smI_le n (fun r hr => h r (by omega))
    have b := h n (by omega)
    show smI m n + (m n).toNat ≤ smI s n + (s n).toNat
    omega
theorem smI_lt {m s : Nat → Int} : ∀ n, (∀ r, r < n → m r ≤ s r) → (∃ r, r < n ∧ m r < s r ∧ 0 ≤ m r) → smI m n < smI s n
  | 0, _, h => by obtain ⟨r, h1, -⟩ := h; omega
  | n + 1, h, e => by
    obtain ⟨r, h1, h2, h3⟩ := e
    show smI m n + (m n).toNat < smI s n + (s n).toNat
    by_cases c : r = n
    · subst c
      have a := smI_le r (fun q hq => h q (by omega))
      omega
    · have a := smI_lt n (fun q hq => h q (by omega)) ⟨r, by omega, h2, h3⟩
      have b := h n (by omega)
      omega
theorem A_least {E : Nat → Nat → Int → Prop} {Lo Hi : Nat → Int → Prop} (h0 : ∀ s, ASol E Lo Hi s → ∀ r, r < 8 → 0 ≤ s r) (hs : ∃ s, ASol E Lo Hi s) : ∃ L, ASol E Lo Hi L ∧ ∀ s, ASol E Lo Hi s → ∀ r, r < 8 → L r ≤ s r := by
  obtain ⟨k, ⟨L, hL, hk⟩, hmin⟩ := pk_least (fun k => ∃ s, ASol E Lo Hi s ∧ smI s 8 = k) (by obtain ⟨s, q⟩ := hs; exact ⟨_, s, q, rfl⟩)
  refine ⟨L, hL, fun s hs r hr => ?_⟩
  refine Classical.byContradiction fun hn => ?_
  have hm : ASol E Lo Hi (fun q => if L q ≤ s q then L q else s q) := by
    refine ⟨fun q c hq hc => ?_, fun q c hq hc => ?_, fun a b w e => ?_⟩
    · have a1 := hL.1 q c hq hc
      have a2 := hs.1 q c hq hc
      show c ≤ if L q ≤ s q then L q else s q
      split <;> assumption
    · have a1 := hL.2.1 q c hq hc
      have a2 := hs.2.1 q c hq hc
      show (if L q ≤ s q then L q else s q) ≤ c
      split <;> assumption
    · have a1 := hL.2.2 a b w e
      have a2 := hs.2.2 a b w e
      show (if L a ≤ s a then L a else s a) + w ≤ if L b ≤ s b then L b else s b
      split <;> split <;> omega
  refine hmin _ (?_ : smI (fun q => if L q ≤ s q then L q else s q) 8 < k) ⟨_, hm, rfl⟩
  rw [← hk]
  refine smI_lt 8 (fun q hq => ?_) ⟨r, hr, ?_, ?_⟩
  · show (if L q ≤ s q then L q else s q) ≤ L q
    split <;> omega
  · show (if L r ≤ s r then L r else s r) < L r
    rw [if_neg hn]; omega
  · show 0 ≤ if L r ≤ s r then L r else s r
    rw [if_neg hn]; exact h0 s hs r hr
theorem A_grow {E : Nat → Nat → Int → Prop} {Lo Hi : Nat → Int → Prop} (hE : EOK E) {L l l' : Nat → Int} (hL : ASol E Lo Hi L) (hm : ∀ s, ASol E Lo Hi s → ∀ r, r < 8 → L r ≤ s r) (h2 : ∀ r, r < 8 → l' r ≤ L r) (hLo : ∀ r c, r < 8 → Lo r c → c ≤ l' r) (hEd : ∀ a b w, E a b w → l a + w ≤ l' b) (hst : ∀ r, r < 8 → l' r = L r → l r = L r) : ∀ r, r < 8 → l r = L r := by
  have hs : ASol E Lo Hi (fun r => if l r = L r then L r else L r - 1) := by
    refine ⟨fun r c hr hc => ?_, fun r c hr hc => ?_, fun a b w e => ?_⟩
    · show c ≤ if l r = L r then L r else L r - 1
      by_cases q : l r = L r
      · rw [if_pos q]; exact hL.1 r c hr hc
      · rw [if_neg q]
        have a1 := hLo r c hr hc
        have a2 := h2 r hr
        have a3 : l' r ≠ L r := fun z => q (hst r hr z)
        omega
    · have a1 := hL.2.1 r c hr hc
      show (if l r = L r then L r else L r - 1) ≤ c
      split <;> omega
    · obtain ⟨ha, hb⟩ := hE a b w e
      have a1 := hL.2.2 a b w e
      have a2 := hEd a b w e
      have a3 := h2 b hb
      show (if l a = L a then L a else L a - 1) + w ≤ if l b = L b then L b else L b - 1
      by_cases q : l b = L b
      · rw [if_pos q]; split <;> omega
      · rw [if_neg q]
        have a4 : l' b ≠ L b := fun z => q (hst b hb z)
        split <;> omega
  intro r hr
  refine Classical.byContradiction fun q => ?_
  have := hm _ hs r hr
  rw [if_neg q] at this
  omega
def cnI (l L : Nat → Int) : Nat → Nat
  | 0 => 0
  | n + 1 => cnI l L n + if l n = L n then 1 else 0
theorem cnI_s (l L : Nat → Int) (n : Nat) : cnI l L (n + 1) = cnI l L n + if l n = L n then 1 else 0 := by rw [cnI]
theorem cnI_le (l L : Nat → Int) : ∀ n, cnI l L n ≤ n
  | 0 => Nat.le_refl _
  | n + 1 => by
    have := cnI_le l L n
    rw [cnI_s]
    split <;> omega
theorem cnI_full {l L : Nat → Int} : ∀ n, cnI l L n = n → ∀ r, r < n → l r = L r
  | 0, _, r, h => by omega
  | n + 1, h, r, hr => by
    have a := cnI_le l L n
    rw [cnI_s] at h
    by_cases c : l n = L n
    · rw [if_pos c] at h
      by_cases e : r = n
      · subst e; exact c
      · exact cnI_full n (by omega) r (by omega)
    · rw [if_neg c] at h; omega
theorem cnI_all {l L : Nat → Int} : ∀ n, (∀ r, r < n → l r = L r) → cnI l L n = n
  | 0, _ => rfl
  | n + 1, h => by rw [cnI_s, cnI_all n (fun r hr => h r (by omega)), if_pos (h n (by omega))]
theorem cnI_mono {l l' L : Nat → Int} : ∀ n, (∀ r, r < n → l r = L r → l' r = L r) → cnI l L n ≤ cnI l' L n
  | 0, _ => Nat.le_refl _
  | n + 1, h => by
    have a := cnI_mono n (fun r hr => h r (by omega))
    rw [cnI_s, cnI_s]
    by_cases c : l n = L n
    · rw [if_pos c, if_pos (h n (by omega) c)]; omega
    · rw [if_neg c]; omega
theorem cnI_lt {l l' L : Nat → Int} : ∀ n, (∀ r, r < n → l r = L r → l' r = L r) → (∃ r, r < n ∧ l' r = L r ∧ l r ≠ L r) → cnI l L n < cnI l' L n
  | 0, _, h => by obtain ⟨r, h1, -⟩ := h; omega
  | n + 1, h, e => by
    obtain ⟨r, h1, h2, h3⟩ := e
    rw [cnI_s, cnI_s]
    by_cases c : r = n
    · subst c
      have a := cnI_mono r (fun q hq => h q (by omega))
      rw [if_neg h3, if_pos h2]
      omega
    · have a := cnI_lt n (fun q hq => h q (by omega)) ⟨r, by omega, h2, h3⟩
      by_cases d : l n = L n
      · rw [if_pos d, if_pos (h n (by omega) d)]; omega
      · rw [if_neg d]; omega
theorem A_up {E : Nat → Nat → Int → Prop} {Lo Hi : Nat → Int → Prop} (hE : EOK E) {L l l' : Nat → Int} (hL : ASol E Lo Hi L) (hm : ∀ s, ASol E Lo Hi s → ∀ r, r < 8 → L r ≤ s r) (h1 : ∀ r, r < 8 → l r ≤ l' r) (h2 : ∀ r, r < 8 → l' r ≤ L r) (hLo : ∀ r c, r < 8 → Lo r c → c ≤ l' r) (hEd : ∀ a b w, E a b w → l a + w ≤ l' b) {k : Nat} (hk : k ≤ cnI l L 8 ∨ cnI l L 8 = 8) : k + 1 ≤ cnI l' L 8 ∨ cnI l' L 8 = 8 := by
  have mono : ∀ r, r < 8 → l r = L r → l' r = L r := fun r hr e => by
    have a := h1 r hr
    have b := h2 r hr
    omega
  by_cases f : cnI l L 8 = 8
  · exact Or.inr (cnI_all 8 (fun r hr => mono r hr (cnI_full 8 f r hr)))
  · by_cases st : ∀ r, r < 8 → l' r = L r → l r = L r
    · exact absurd (cnI_all 8 (A_grow hE hL hm h2 hLo hEd st)) f
    · have ex : ∃ r, r < 8 ∧ l' r = L r ∧ l r ≠ L r := by
        refine Classical.byContradiction fun q => st fun r hr e => ?_
        refine Classical.byContradiction fun q2 => q ⟨r, hr, e, q2⟩
      have := cnI_lt 8 mono ex
      rcases hk with hk | hk
      · exact Or.inl (by omega)
      · exact absurd hk f
/-! the mirror -/
def mir (f : Nat → Int) : Nat → Int := fun r => 999 - f r
theorem mir_A {E : Nat → Nat → Int → Prop} {Lo Hi : Nat → Int → Prop} {s : Nat → Int} (h : ASol E Lo Hi s) : ASol (fun a b w => E b a w) (fun r c => Hi r (999 - c)) (fun r c => Lo r (999 - c)) (mir s) :=
  ⟨fun r c hr hc => by have := h.2.1 r _ hr hc; unfold mir; omega, fun r c hr hc => by have := h.1 r _ hr hc; unfold mir; omega, fun a b w e => by have := h.2.2 b a w e; unfold mir; omega⟩
theorem mir_B {E : Nat → Nat → Int → Prop} {Lo Hi : Nat → Int → Prop} {s : Nat → Int} (h : ASol (fun a b w => E b a w) (fun r c => Hi r (999 - c)) (fun r c => Lo r (999 - c)) s) : ASol E Lo Hi (mir s) :=
  ⟨fun r c hr hc => by have := h.2.1 r (999 - c) hr (by show Lo r (999 - (999 - c)); rw [show (999 : Int) - (999 - c) = c by omega]; exact hc); unfold mir; omega, fun r c hr hc => by have := h.1 r (999 - c) hr (by show Hi r (999 - (999 - c)); rw [show (999 : Int) - (999 - c) = c by omega]; exact hc); unfold mir; omega, fun a b w e => by have := h.2.2 b a w e; unfold mir; omega⟩
theorem A_great {E : Nat → Nat → Int → Prop} {Lo Hi : Nat → Int → Prop} (h9 : ∀ s, ASol E Lo Hi s → ∀ r, r < 8 → s r ≤ 999) (hs : ∃ s, ASol E Lo Hi s) : ∃ H, ASol E Lo Hi H ∧ ∀ s, ASol E Lo Hi s → ∀ r, r < 8 → s r ≤ H r := by
  obtain ⟨L, a1, a2⟩ := A_least (E := fun a b w => E b a w) (Lo := fun r c => Hi r (999 - c)) (Hi := fun r c => Lo r (999 - c)) (fun s h r hr => by
    have := h9 _ (mir_B h) r hr
    unfold mir at this
    omega) (by obtain ⟨s, q⟩ := hs; exact ⟨_, mir_A q⟩)
  refine ⟨mir L, mir_B a1, fun s h r hr => ?_⟩
  have := a2 _ (mir_A h) r hr
  unfold mir at this ⊢
  omega
theorem cnI_mir (h H : Nat → Int) : ∀ n, cnI (mir h) (mir H) n = cnI h H n
  | 0 => rfl
  | n + 1 => by
    rw [cnI_s, cnI_s, cnI_mir h H n]
    by_cases c : h n = H n
    · rw [if_pos c, if_pos (show mir h n = mir H n by unfold mir; omega)]
    · rw [if_neg c, if_neg (show ¬ mir h n = mir H n by unfold mir; omega)]
/-- the least and the greatest -/
def BST (E : Nat → Nat → Int → Prop) (Lo Hi : Nat → Int → Prop) (l h : Nat → Int) : Prop := ASol E Lo Hi l ∧ ASol E Lo Hi h ∧ ∀ s, ASol E Lo Hi s → ∀ r, r < 8 → l r ≤ s r ∧ s r ≤ h r
theorem BST_u {E : Nat → Nat → Int → Prop} {Lo Hi : Nat → Int → Prop} {l h l' h' : Nat → Int} (a : BST E Lo Hi l h) (b : BST E Lo Hi l' h') : ∀ r, r < 8 → l r = l' r ∧ h r = h' r := fun r hr => by
  have a1 := a.2.2 _ b.1 r hr
  have a2 := b.2.2 _ a.1 r hr
  have a3 := a.2.2 _ b.2.1 r hr
  have a4 := b.2.2 _ a.2.1 r hr
  omega
theorem BST_ex {E : Nat → Nat → Int → Prop} {Lo Hi : Nat → Int → Prop} (h0 : ∀ s, ASol E Lo Hi s → ∀ r, r < 8 → 0 ≤ s r ∧ s r ≤ 999) (hs : ∃ s, ASol E Lo Hi s) : ∃ L H, BST E Lo Hi L H := by
  obtain ⟨L, a1, a2⟩ := A_least (fun s q r hr => (h0 s q r hr).1) hs
  obtain ⟨H, b1, b2⟩ := A_great (fun s q r hr => (h0 s q r hr).2) hs
  exact ⟨L, H, a1, b1, fun s q r hr => ⟨a2 s q r hr, b2 s q r hr⟩⟩
/-- one round -/
def RND (E : Nat → Nat → Int → Prop) (Lo Hi : Nat → Int → Prop) (l h l' h' : Nat → Int) : Prop :=
  (∀ r, r < 8 → l r ≤ l' r ∧ h' r ≤ h r) ∧ (∀ s, ASol E Lo Hi s → ∀ r, r < 8 → l' r ≤ s r ∧ s r ≤ h' r) ∧ (∀ r c, r < 8 → Lo r c → c ≤ l' r) ∧ (∀ r c, r < 8 → Hi r c → h' r ≤ c) ∧ ∀ a b w, E a b w → l a + w ≤ l' b ∧ h' a + w ≤ h b
def PG (E : Nat → Nat → Int → Prop) (Lo Hi : Nat → Int → Prop) (k : Nat) (l h : Nat → Int) : Prop := ∀ L H, BST E Lo Hi L H → (k ≤ cnI l L 8 ∨ cnI l L 8 = 8) ∧ (k ≤ cnI h H 8 ∨ cnI h H 8 = 8)
theorem PG_0 {E : Nat → Nat → Int → Prop} {Lo Hi : Nat → Int → Prop} (l h : Nat → Int) : PG E Lo Hi 0 l h := fun _ _ _ => ⟨Or.inl (Nat.zero_le _), Or.inl (Nat.zero_le _)⟩
theorem PG_s {E : Nat → Nat → Int → Prop} {Lo Hi : Nat → Int → Prop} (hE : EOK E) {l h l' h' : Nat → Int} {k : Nat} (hR : RND E Lo Hi l h l' h') (hP : PG E Lo Hi k l h) : PG E Lo Hi (k + 1) l' h' := by
  intro L H hB
  obtain ⟨p1, p2⟩ := hP L H hB
  obtain ⟨r1, r2, r3, r4, r5⟩ := hR
  refine ⟨A_up hE hB.1 (fun s q r hr => (hB.2.2 s q r hr).1) (fun r hr => (r1 r hr).1) (fun r hr => (r2 _ hB.1 r hr).1) r3 (fun a b w e => (r5 a b w e).1) p1, ?_⟩
  have := A_up (E := fun a b w => E b a w) (Lo := fun r c => Hi r (999 - c)) (Hi := fun r c => Lo r (999 - c)) (L := mir H) (l := mir h) (l' := mir h') (fun a b w e => (hE b a w e).symm) (mir_A hB.2.1) (fun s q r hr => by
    have := (hB.2.2 _ (mir_B q) r hr).2
    unfold mir at this ⊢
    omega) (fun r hr => by have := (r1 r hr).2; unfold mir; omega) (fun r hr => by have := (r2 _ hB.2.1 r hr).2; unfold mir; omega) (fun r c hr hc => by have := r4 r _ hr hc; unfold mir; omega) (fun a b w e => by have := (r5 b a w e).2; unfold mir; omega) (k := k) (by rw [cnI_mir]; exact p2)
  rw [cnI_mir] at this
  exact this
/-- who has all has no more to move -/
theorem PG_8 {E : Nat → Nat → Int → Prop} {Lo Hi : Nat → Int → Prop} {l h l' h' L H : Nat → Int} {k : Nat} (hR : RND E Lo Hi l h l' h') (hP : PG E Lo Hi k l h) (hB : BST E Lo Hi L H) (hm : ∃ r, r < 8 ∧ (l r < l' r ∨ h' r < h r)) : k < 8 := by
  obtain ⟨p1, p2⟩ := hP L H hB
  obtain ⟨r1, r2, -⟩ := hR
  obtain ⟨r, hr, hm⟩ := hm
  have q1 := cnI_le l L 8
  have q2 := cnI_le h H 8
  refine Classical.byContradiction fun hk => ?_
  have e1 : cnI l L 8 = 8 := by omega
  have e2 : cnI h H 8 = 8 := by omega
  have f1 := cnI_full 8 e1 r hr
  have f2 := cnI_full 8 e2 r hr
  have g1 := r2 _ hB.1 r hr
  have g2 := r2 _ hB.2.1 r hr
  omega
theorem FIX_B {E : Nat → Nat → Int → Prop} {Lo Hi : Nat → Int → Prop} (hE : EOK E) {l h : Nat → Int} (hR : RND E Lo Hi l h l h) (hle : ∀ r, r < 8 → l r ≤ h r) : BST E Lo Hi l h := by
  obtain ⟨-, r2, r3, r4, r5⟩ := hR
  exact ⟨⟨r3, fun r c hr hc => Int.le_trans (hle r hr) (r4 r c hr hc), fun a b w e => (r5 a b w e).1⟩, ⟨fun r c hr hc => Int.le_trans (r3 r c hr hc) (hle r hr), r4, fun a b w e => (r5 a b w e).2⟩, r2⟩
