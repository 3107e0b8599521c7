/-! ===== laid: rows of stages ===== -/
def bt (m v : Nat) : Bool := decide (m / 2 ^ v % 2 = 1)
def cC (m P : Nat → Nat) : Nat → Nat → (Nat → Nat) → Nat
  | 0, _, _ => 1
  | d + 1, a, lo => (if bt (m a) 0 = true ∧ lo (P a) ≤ 0 then cC m P d (a + 1) (va_up lo (P a) 0) else 0) + (if bt (m a) 1 = true ∧ lo (P a) ≤ 1 then cC m P d (a + 1) (va_up lo (P a) 1) else 0) + (if bt (m a) 2 = true ∧ lo (P a) ≤ 2 then cC m P d (a + 1) (va_up lo (P a) 2) else 0)
def tmv (m P : Nat → Nat) (d a : Nat) (lo : Nat → Nat) (v : Nat) : Nat := if bt (m a) v = true ∧ lo (P a) ≤ v then cC m P d (a + 1) (va_up lo (P a) v) else 0
theorem cC_s (m P : Nat → Nat) (d a : Nat) (lo : Nat → Nat) : cC m P (d + 1) a lo = tmv m P d a lo 0 + tmv m P d a lo 1 + tmv m P d a lo 2 := rfl
def fvv (m P : Nat → Nat) (d a : Nat) (lo : Nat → Nat) : Nat := if 0 < tmv m P d a lo 0 then 0 else if 0 < tmv m P d a lo 1 then 1 else 2
def frow (m P : Nat → Nat) : Nat → Nat → (Nat → Nat) → Nat → Nat
  | 0, _, _, _ => 0
  | d + 1, a, lo, j => if j = a then fvv m P d a lo else frow m P d (a + 1) (va_up lo (P a) (fvv m P d a lo)) j
def lv (m l : Nat) : Nat := if l ≤ 0 ∧ bt m 0 = true then 0 else if l ≤ 1 ∧ bt m 1 = true then 1 else 2
def grd (m P : Nat → Nat) : Nat → Nat → (Nat → Nat) → Nat → Nat
  | 0, _, _, _ => 0
  | d + 1, a, lo, j => if j = a then lv (m a) (lo (P a)) else grd m P d (a + 1) (va_up lo (P a) (lv (m a) (lo (P a)))) j
theorem tmv_le3 {m P : Nat → Nat} : ∀ d a lo, cC m P d a lo ≤ 3 ^ d
  | 0, _, _ => Nat.le_refl _
  | d + 1, a, lo => by
    have h : ∀ v, tmv m P d a lo v ≤ 3 ^ d := fun v => by
      unfold tmv
      by_cases c : bt (m a) v = true ∧ lo (P a) ≤ v
      · rw [if_pos c]; exact tmv_le3 d _ _
      · rw [if_neg c]; exact Nat.zero_le _
    rw [cC_s, Nat.pow_succ]
    have h0 := h 0
    have h1 := h 1
    have h2 := h 2
    omega
theorem cC_anti {m P : Nat → Nat} : ∀ d a lo lo', (∀ q, lo q ≤ lo' q) → cC m P d a lo' ≤ cC m P d a lo
  | 0, _, _, _, _ => Nat.le_refl _
  | d + 1, a, lo, lo', h => by
    have key : ∀ v, tmv m P d a lo' v ≤ tmv m P d a lo v := fun v => by
      unfold tmv
      by_cases c : bt (m a) v = true ∧ lo' (P a) ≤ v
      · rw [if_pos c, if_pos ⟨c.1, Nat.le_trans (h _) c.2⟩]
        refine cC_anti d (a + 1) _ _ (fun q => ?_)
        by_cases e : q = P a
        · subst e; rw [va_up_self, va_up_self]; exact Nat.le_refl _
        · rw [va_up_ne _ _ e, va_up_ne _ _ e]; exact h q
      · rw [if_neg c]; omega
    rw [cC_s, cC_s]
    have h0 := key 0
    have h1 := key 1
    have h2 := key 2
    omega
theorem tmv_pos {m P : Nat → Nat} {d a v : Nat} {lo : Nat → Nat} (h : 0 < tmv m P d a lo v) : bt (m a) v = true ∧ lo (P a) ≤ v := by
  unfold tmv at h
  by_cases c : bt (m a) v = true ∧ lo (P a) ≤ v
  · exact c
  · rw [if_neg c] at h; omega
theorem tmv_mono {m P : Nat → Nat} {d a v w : Nat} {lo : Nat → Nat} (h : 0 < tmv m P d a lo v) (hw : w ≤ v) (hb : bt (m a) w = true ∧ lo (P a) ≤ w) : 0 < tmv m P d a lo w := by
  have c := tmv_pos h
  unfold tmv at h ⊢
  rw [if_pos c] at h
  rw [if_pos hb]
  refine Nat.lt_of_lt_of_le h (cC_anti d (a + 1) _ _ (fun q => ?_))
  by_cases e : q = P a
  · subst e; rw [va_up_self, va_up_self]; exact hw
  · rw [va_up_ne _ _ e, va_up_ne _ _ e]; exact Nat.le_refl _
theorem fvv_lv {m P : Nat → Nat} {d a : Nat} {lo : Nat → Nat} (h : 0 < cC m P (d + 1) a lo) : fvv m P d a lo = lv (m a) (lo (P a)) ∧ 0 < cC m P d (a + 1) (va_up lo (P a) (fvv m P d a lo)) := by
  rw [cC_s] at h
  have hp : ∀ v, 0 < tmv m P d a lo v → 0 < cC m P d (a + 1) (va_up lo (P a) v) := fun v hv => by
    have c := tmv_pos hv
    unfold tmv at hv
    rw [if_pos c] at hv
    exact hv
  unfold fvv lv
  by_cases c0 : 0 < tmv m P d a lo 0
  · have b := tmv_pos c0
    rw [if_pos c0, if_pos ⟨b.2, b.1⟩]
    exact ⟨rfl, hp 0 c0⟩
  · rw [if_neg c0]
    by_cases c1 : 0 < tmv m P d a lo 1
    · have b := tmv_pos c1
      have n0 : ¬ (lo (P a) ≤ 0 ∧ bt (m a) 0 = true) := fun z => c0 (tmv_mono c1 (by omega) ⟨z.2, z.1⟩)
      rw [if_pos c1, if_neg n0, if_pos ⟨b.2, b.1⟩]
      exact ⟨rfl, hp 1 c1⟩
    · have c2 : 0 < tmv m P d a lo 2 := by omega
      have n0 : ¬ (lo (P a) ≤ 0 ∧ bt (m a) 0 = true) := fun z => c0 (tmv_mono c2 (by omega) ⟨z.2, z.1⟩)
      have n1 : ¬ (lo (P a) ≤ 1 ∧ bt (m a) 1 = true) := fun z => c1 (tmv_mono c2 (by omega) ⟨z.2, z.1⟩)
      rw [if_neg c1, if_neg n0, if_neg n1]
      exact ⟨rfl, hp 2 c2⟩
theorem frow_grd {m P : Nat → Nat} : ∀ d a lo, 0 < cC m P d a lo → ∀ j, frow m P d a lo j = grd m P d a lo j
  | 0, _, _, _, _ => rfl
  | d + 1, a, lo, h, j => by
    obtain ⟨h1, h2⟩ := fvv_lv h
    unfold frow grd
    rw [h1] at h2 ⊢
    by_cases c : j = a
    · rw [if_pos c, if_pos c]
    · rw [if_neg c, if_neg c, frow_grd d (a + 1) _ h2]
/-! how many: place by place -/
def pr (f : Nat → Nat) : Nat → Nat
  | 0 => 1
  | k + 1 => pr f k * f k
theorem pr_c {f g : Nat → Nat} : ∀ n, (∀ k, k < n → f k = g k) → pr f n = pr g n
  | 0, _ => rfl
  | n + 1, h => by unfold pr; rw [pr_c n (fun k hk => h k (by omega)), h n (by omega)]
theorem pr_1 {f : Nat → Nat} : ∀ n, (∀ k, k < n → f k = 1) → pr f n = 1
  | 0, _ => rfl
  | n + 1, h => by unfold pr; rw [pr_1 n (fun k hk => h k (by omega)), h n (by omega)]
theorem pr_split {f : Nat → Nat} {p : Nat} : ∀ n, p < n → pr f n = f p * pr (fun k => if k = p then 1 else f k) n
  | 0, h => by omega
  | n + 1, h => by
    show pr f n * f n = f p * (pr (fun k => if k = p then 1 else f k) n * (if n = p then 1 else f n))
    by_cases c : n = p
    · subst c
      rw [if_pos rfl, Nat.mul_one, Nat.mul_comm, pr_c (g := fun k => if k = n then 1 else f k) n (fun k hk => (if_neg (show ¬ k = n by omega)).symm)]
    · rw [if_neg c, pr_split (p := p) n (by omega), Nat.mul_assoc]
def dD (m P : Nat → Nat) (q : Nat) : Nat → Nat → Nat → Nat
  | 0, _, _ => 1
  | d + 1, a, l => if P a = q then (if bt (m a) 0 = true ∧ l ≤ 0 then dD m P q d (a + 1) 0 else 0) + (if bt (m a) 1 = true ∧ l ≤ 1 then dD m P q d (a + 1) 1 else 0) + (if bt (m a) 2 = true ∧ l ≤ 2 then dD m P q d (a + 1) 2 else 0) else dD m P q d (a + 1) l
theorem cC_pr {m P : Nat → Nat} : ∀ d a lo, (∀ i, a ≤ i → i < a + d → P i < 64) → cC m P d a lo = pr (fun q => dD m P q d a (lo q)) 64
  | 0, _, _, _ => (pr_1 64 (fun _ _ => rfl)).symm
  | d + 1, a, lo, hP => by
    have hp := hP a (by omega) (by omega)
    have e1 : ∀ v, tmv m P d a lo v = (if bt (m a) v = true ∧ lo (P a) ≤ v then dD m P (P a) d (a + 1) v else 0) * pr (fun q => if q = P a then 1 else dD m P q d (a + 1) (lo q)) 64 := by
      intro v
      unfold tmv
      by_cases c : bt (m a) v = true ∧ lo (P a) ≤ v
      · rw [if_pos c, if_pos c, cC_pr d (a + 1) _ (fun i h1 h2 => hP i (by omega) (by omega)), pr_split 64 hp, va_up_self]
        congr 1
        refine pr_c 64 (fun k hk => ?_)
        by_cases e : k = P a
        · rw [if_pos e, if_pos e]
        · rw [if_neg e, if_neg e, va_up_ne _ _ e]
      · rw [if_neg c, if_neg c, Nat.zero_mul]
    rw [cC_s, e1, e1, e1, ← Nat.add_mul, ← Nat.add_mul, pr_split (f := fun q => dD m P q (d + 1) a (lo q)) 64 hp]
    have e2 : dD m P (P a) (d + 1) a (lo (P a)) = (if bt (m a) 0 = true ∧ lo (P a) ≤ 0 then dD m P (P a) d (a + 1) 0 else 0) + (if bt (m a) 1 = true ∧ lo (P a) ≤ 1 then dD m P (P a) d (a + 1) 1 else 0) + (if bt (m a) 2 = true ∧ lo (P a) ≤ 2 then dD m P (P a) d (a + 1) 2 else 0) := if_pos rfl
    rw [e2]
    congr 1
    refine pr_c 64 (fun k hk => ?_)
    by_cases e : k = P a
    · rw [if_pos e, if_pos e]
    · rw [if_neg e, if_neg e]
      exact (if_neg (fun z => e z.symm)).symm
theorem dD_skip {m P : Nat → Nat} {q l : Nat} : ∀ i d a, (∀ o, a ≤ o → o < a + i → P o ≠ q) → dD m P q (i + d) a l = dD m P q d (a + i) l
  | 0, d, a, _ => by rw [Nat.zero_add, Nat.add_zero]
  | i + 1, d, a, h => by
    rw [show i + 1 + d = (i + d) + 1 by omega]
    show (if P a = q then _ else dD m P q (i + d) (a + 1) l) = _
    rw [if_neg (h a (by omega) (by omega)), dD_skip i d (a + 1) (fun o h1 h2 => h o (by omega) (by omega)), show a + 1 + i = a + (i + 1) by omega]
theorem dD_none {m P : Nat → Nat} {q l d a : Nat} (h : ∀ o, a ≤ o → o < a + d → P o ≠ q) : dD m P q d a l = 1 := by
  have := dD_skip (m := m) (l := l) d 0 a h
  rw [Nat.add_zero] at this
  rw [this]; rfl
def ap (P : Nat → Nat) (q : Nat) : Nat → Bool
  | 0 => false
  | i + 1 => ap P q i || decide (P i = q)
theorem ap_t {P : Nat → Nat} {q : Nat} : ∀ i, ap P q i = true ↔ ∃ o, o < i ∧ P o = q
  | 0 => ⟨fun h => (by cases h), fun ⟨o, h, _⟩ => (by omega)⟩
  | i + 1 => by
    unfold ap
    rw [Bool.or_eq_true, ap_t i, decide_eq_true_iff]
    constructor
    · rintro (⟨o, h1, h2⟩ | h)
      · exact ⟨o, by omega, h2⟩
      · exact ⟨i, by omega, h⟩
    · rintro ⟨o, h1, h2⟩
      by_cases c : o = i
      · subst c; exact Or.inr h2
      · exact Or.inl ⟨o, by omega, h2⟩
def RR (m P : Nat → Nat) (n i : Nat) : Nat := pr (fun q => if ap P q i = true then dD m P q n 0 0 else 1) 64
theorem RR_0 (m P : Nat → Nat) (n : Nat) : RR m P n 0 = 1 := pr_1 64 (fun _ _ => rfl)
theorem RR_n {m P : Nat → Nat} {n : Nat} (hP : ∀ i, i < n → P i < 64) : RR m P n n = cC m P n 0 (fun _ => 0) := by
  rw [cC_pr n 0 _ (fun i _ h => hP i (by omega))]
  refine pr_c 64 (fun q hq => ?_)
  by_cases c : ap P q n = true
  · rw [if_pos c]
  · rw [if_neg c]
    refine (dD_none (fun o _ h => fun z => c ((ap_t n).mpr ⟨o, by omega, z⟩))).symm
theorem RR_s {m P : Nat → Nat} {n i : Nat} (hi : i < n) (hp : P i < 64) : RR m P n (i + 1) = if ap P (P i) i = true then RR m P n i else RR m P n i * dD m P (P i) (n - i) i 0 := by
  unfold RR
  by_cases c : ap P (P i) i = true
  · rw [if_pos c]
    refine pr_c 64 (fun q hq => ?_)
    have e : ap P q (i + 1) = ap P q i := by
      by_cases z : P i = q
      · subst z
        show (ap P (P i) i || decide (P i = P i)) = ap P (P i) i
        rw [c]; rfl
      · show (ap P q i || decide (P i = q)) = ap P q i
        rw [decide_eq_false z, Bool.or_false]
    rw [e]
  · rw [if_neg c, pr_split 64 hp, pr_split (f := fun q => if ap P q i = true then dD m P q n 0 0 else 1) 64 hp, if_neg c, Nat.one_mul]
    have e0 : ap P (P i) (i + 1) = true := (ap_t _).mpr ⟨i, by omega, rfl⟩
    rw [if_pos e0, Nat.mul_comm]
    have e1 : dD m P (P i) n 0 0 = dD m P (P i) (n - i) i 0 := by
      have := dD_skip (m := m) (P := P) (q := P i) (l := 0) i (n - i) 0 (fun o _ h z => c ((ap_t i).mpr ⟨o, by omega, z⟩))
      rw [show i + (n - i) = n by omega, Nat.zero_add] at this
      exact this
    rw [e1]
    congr 1
    refine pr_c 64 (fun q hq => ?_)
    by_cases z : q = P i
    · rw [if_pos z, if_pos z]
    · rw [if_neg z, if_neg z]
      have e : ap P q (i + 1) = ap P q i := by
        show (ap P q i || decide (P i = q)) = ap P q i
        rw [decide_eq_false (fun w => z w.symm), Bool.or_false]
      rw [e]
