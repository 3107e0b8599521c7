/-! ===== the reference's carries ===== -/
/-- the places that a set of sums leads on to, in one stage -/
def onS (h : Nat → Int32) (T : Nat → Nat → Prop) (q : Nat) : Nat → Prop := fun u => ∃ p k t, p < 64 ∧ T p t ∧ itn h k p = q ∧ u = t + k
theorem itn_0 (h : Nat → Int32) (p : Nat) : itn h 0 p = p := rfl
theorem M_walk {bk : Nat → Int32} {s : Nat} (hs : s < 3) : ∀ (m : Nat) (p t : Nat) (y : Nat → Int32) (S : Nat → Nat → Prop) (fu : Nat), p < 64 → (∀ k, itn (fun q => bk (20 + (64 * s + q))) k p < 64 → k < m) → t + m ≤ 1000000 → m < fu → (∀ q, q < 64 → best (y q) (S q)) →
    ∃ y', f_X10_carries_L19 bk (nI s) fu y (nI p) (nI t) = some y' ∧ ∀ q, q < 64 → best (y' q) (fun u => S q u ∨ ∃ k, itn (fun q => bk (20 + (64 * s + q))) k p = q ∧ u = t + k) := by
  intro m
  induction m with
  | zero => intro p t y S fu hp hk; exact absurd (hk 0 hp) (by omega)
  | succ m ih =>
    intro p t y S fu hp hk ht hfu hy
    obtain ⟨fu, rfl⟩ : ∃ n, fu = n + 1 := ⟨fu - 1, by omega⟩
    unfold f_X10_carries_L19
    have e1 : ¬ (nI p = (-1 : Int32)) := by
      intro z
      have := congrArg Int32.toInt z
      rw [nI_toInt (by omega)] at this
      have e2 : (-1 : Int32).toInt = -1 := by decide
      omega
    rw [if_neg e1, gin_n hp (by decide), chk_t, cl_n (by omega), chk_t]
    have e3 : (if y p ≤ nI t then some (y p) else some (nI t)) = some (if y p ≤ nI t then y p else nI t) := by
      by_cases c : y p ≤ nI t
      · rw [if_pos c, if_pos c]
      · rw [if_neg c, if_neg c]
    rw [e3, bd1_s, chk_t, nm_s, M_flow hs hp, bd1_s]
    have hy1 : ∀ q, q < 64 → best (upd y p (if y p ≤ nI t then y p else nI t) q) (fun u => S q u ∨ (q = p ∧ u = t)) := by
      intro q hq
      by_cases c : q = p
      · subst c
        rw [upd_s]
        exact best_c (best_1 (hy q hq) (by omega)) (fun u => by simp)
      · rw [upd_n _ _ c]
        exact best_c (hy q hq) (fun u => by simp [c])
    rcases nxt_to (h := fun q => bk (20 + (64 * s + q))) hp with ⟨g1, g2⟩ | ⟨d, g1, g2, g3, g4, g5, g6⟩
    · rw [if_pos g1]
      have hf1 : 1 ≤ fu := by omega
      obtain ⟨fu, rfl⟩ : ∃ n, fu = n + 1 := ⟨fu - 1, by omega⟩
      refine ⟨_, by unfold f_X10_carries_L19; rw [if_pos rfl], fun q hq => best_c (hy1 q hq) (fun u => ?_)⟩
      constructor
      · rintro (a | ⟨a, b⟩)
        · exact Or.inl a
        · exact Or.inr ⟨0, a.symm, by omega⟩
      · rintro (a | ⟨k, a, b⟩)
        · exact Or.inl a
        · cases k with
          | zero => exact Or.inr ⟨a.symm, by omega⟩
          | succ k =>
            exfalso
            have a2 : itn (fun q => bk (20 + (64 * s + q))) k (nxt (fun q => bk (20 + (64 * s + q))) p) = q := a
            rw [g2, itn_64] at a2
            omega
    · rw [if_neg g3, g2, nb_M p hp d g1, bd1_s, g4, nI_1]
      obtain ⟨y', b1, b2⟩ := ih (nxt (fun q => bk (20 + (64 * s + q))) p) (t + 1) (upd y p (if y p ≤ nI t then y p else nI t)) (fun q u => S q u ∨ (q = p ∧ u = t)) fu g5 (fun k hk2 => by
        have := hk (k + 1) hk2
        omega) (by omega) (by omega) hy1
      refine ⟨y', b1, fun q hq => best_c (b2 q hq) (fun u => ?_)⟩
      constructor
      · rintro ((a | ⟨a, b⟩) | ⟨k, a, b⟩)
        · exact Or.inl a
        · exact Or.inr ⟨0, a.symm, by omega⟩
        · exact Or.inr ⟨k + 1, a, by omega⟩
      · rintro (a | ⟨k, a, b⟩)
        · exact Or.inl (Or.inl a)
        · cases k with
          | zero => exact Or.inl (Or.inr ⟨a.symm, by omega⟩)
          | succ k => exact Or.inr ⟨k, a, by omega⟩
/-- filling a row of 64 -/
theorem M_fill {p1 : Nat} (hp1 : p1 < 64) : ∀ (n i : Nat), i + n = 64 → ∀ (fu : Nat) (y : Nat → Int32), n < fu → ∃ y', f_X10_carries_L1 (nI p1) fu y (nI i) = some y' ∧ (∀ q, i ≤ q → q < 64 → y' q = if q = p1 then nI 0 else nI 1000000) ∧ ∀ q, q < i → y' q = y q := by
  intro n
  induction n with
  | zero =>
    intro i hi fu y hfu
    obtain ⟨fu, rfl⟩ : ∃ n, fu = n + 1 := ⟨fu - 1, by omega⟩
    unfold f_X10_carries_L1
    obtain rfl : i = 64 := by omega
    rw [if_pos (by decide)]
    exact ⟨y, rfl, fun q h1 h2 => by omega, fun q _ => rfl⟩
  | succ n ih =>
    intro i hi fu y hfu
    obtain ⟨fu, rfl⟩ : ∃ n, fu = n + 1 := ⟨fu - 1, by omega⟩
    unfold f_X10_carries_L1
    rw [if_neg (show ¬ (64 : Int32) ≤ nI i from nI_ge (b := 64) (by omega) (by decide))]
    have e1 : (if nI i = nI p1 then some (0 : Int32) else some (1000000 : Int32)) = some (if i = p1 then nI 0 else nI 1000000) := by
      by_cases c : i = p1
      · subst c; rw [if_pos rfl, if_pos rfl]; rfl
      · rw [if_neg (fun z => c ((nI_eq (by omega) (by omega)).mp z)), if_neg c]; rfl
    rw [e1, bd1_s, gin_n (by omega) (by decide), chk_t, nm_s, cl_n (by omega), nI_1]
    obtain ⟨y', b1, b2, b3⟩ := ih (i + 1) (by omega) fu (upd y i (if i = p1 then nI 0 else nI 1000000)) (by omega)
    refine ⟨y', b1, fun q h1 h2 => ?_, fun q hq => by rw [b3 q (by omega), upd_n _ _ (by omega)]⟩
    by_cases c : q = i
    · subst c; rw [b3 q (by omega), upd_s]
    · exact b2 q (by omega) h2
theorem M_fill2 : ∀ (n i : Nat), i + n = 64 → ∀ (fu : Nat) (y : Nat → Int32), n < fu → ∃ y', f_X10_carries_L15 fu y (nI i) = some y' ∧ (∀ q, i ≤ q → q < 64 → y' q = nI 1000000) ∧ ∀ q, q < i → y' q = y q := by
  intro n
  induction n with
  | zero =>
    intro i hi fu y hfu
    obtain ⟨fu, rfl⟩ : ∃ n, fu = n + 1 := ⟨fu - 1, by omega⟩
    unfold f_X10_carries_L15
    obtain rfl : i = 64 := by omega
    rw [if_pos (by decide)]
    exact ⟨y, rfl, fun q h1 h2 => by omega, fun q _ => rfl⟩
  | succ n ih =>
    intro i hi fu y hfu
    obtain ⟨fu, rfl⟩ : ∃ n, fu = n + 1 := ⟨fu - 1, by omega⟩
    unfold f_X10_carries_L15
    rw [if_neg (show ¬ (64 : Int32) ≤ nI i from nI_ge (b := 64) (by omega) (by decide)), gin_n (by omega) (by decide), chk_t, nm_s, cl_n (by omega), nI_1]
    obtain ⟨y', b1, b2, b3⟩ := ih (i + 1) (by omega) fu (upd y i (1000000 : Int32)) (by omega)
    refine ⟨y', b1, fun q h1 h2 => ?_, fun q hq => by rw [b3 q (by omega), upd_n _ _ (by omega)]⟩
    by_cases c : q = i
    · subst c; rw [b3 q (by omega), upd_s]; rfl
    · exact b2 q (by omega) h2
theorem M_copy {f : Nat → Int32} : ∀ (n i : Nat), i + n = 64 → ∀ (fu : Nat) (y : Nat → Int32), n < fu → ∃ y', f_X10_carries_L20 f fu y (nI i) = some y' ∧ (∀ q, i ≤ q → q < 64 → y' q = f q) ∧ ∀ q, q < i → y' q = y q := by
  intro n
  induction n with
  | zero =>
    intro i hi fu y hfu
    obtain ⟨fu, rfl⟩ : ∃ n, fu = n + 1 := ⟨fu - 1, by omega⟩
    unfold f_X10_carries_L20
    obtain rfl : i = 64 := by omega
    rw [if_pos (by decide)]
    exact ⟨y, rfl, fun q h1 h2 => by omega, fun q _ => rfl⟩
  | succ n ih =>
    intro i hi fu y hfu
    obtain ⟨fu, rfl⟩ : ∃ n, fu = n + 1 := ⟨fu - 1, by omega⟩
    unfold f_X10_carries_L20
    rw [if_neg (show ¬ (64 : Int32) ≤ nI i from nI_ge (b := 64) (by omega) (by decide)), gin_n (by omega) (by decide), chk_t, nm_s, chk_t, nm_s, cl_n (by omega), nI_1]
    obtain ⟨y', b1, b2, b3⟩ := ih (i + 1) (by omega) fu (upd y i (f i)) (by omega)
    refine ⟨y', b1, fun q h1 h2 => ?_, fun q hq => by rw [b3 q (by omega), upd_n _ _ (by omega)]⟩
    by_cases c : q = i
    · subst c; rw [b3 q (by omega), upd_s]
    · exact b2 q (by omega) h2
/-- all walks of a stage -/
theorem M_walks {bk far : Nat → Int32} {s b : Nat} (hs : s < 3) {T : Nat → Nat → Prop} (hT : ∀ q, q < 64 → best (far q) (T q)) (hb : ∀ q t, q < 64 → T q t → t ≤ b) (hb2 : b ≤ 500000) : ∀ (n i : Nat), i + n = 64 → ∀ (fu : Nat) (y : Nat → Int32), n < fu →
    (∀ q, q < 64 → best (y q) (fun u => ∃ p k t, p < i ∧ T p t ∧ itn (fun q => bk (20 + (64 * s + q))) k p = q ∧ u = t + k)) →
    ∃ y', f_X10_carries_L18 far bk (nI s) fu y (nI i) = some y' ∧ ∀ q, q < 64 → best (y' q) (onS (fun q => bk (20 + (64 * s + q))) T q) := by
  intro n
  induction n with
  | zero =>
    intro i hi fu y hfu hy
    obtain ⟨fu, rfl⟩ : ∃ n, fu = n + 1 := ⟨fu - 1, by omega⟩
    unfold f_X10_carries_L18
    obtain rfl : i = 64 := by omega
    rw [if_pos (by decide)]
    exact ⟨y, rfl, fun q hq => best_c (hy q hq) (fun u => Iff.rfl)⟩
  | succ n ih =>
    intro i hi fu y hfu hy
    obtain ⟨fu, rfl⟩ : ∃ n, fu = n + 1 := ⟨fu - 1, by omega⟩
    unfold f_X10_carries_L18
    rw [if_neg (show ¬ (64 : Int32) ≤ nI i from nI_ge (b := 64) (by omega) (by decide)), gin_n (by omega) (by decide), chk_t, cl_n (by omega)]
    have hTi := hT i (by omega)
    by_cases c : (nI 1000000) ≤ far i
    · -- nothing comes from here
      have hno : ∀ u, ¬ T i u := fun u hu => absurd ((best_lt hTi).mpr ⟨u, hu⟩) (Int32.not_lt.mpr c)
      have e1 : (if (1000000 : Int32) ≤ far i then some (-1 : Int32) else some (nI i)) = some (-1) := if_pos c
      rw [e1, bd1_s, chk_t, nm_s]
      have e2 : f_X10_carries_L19 bk (nI s) FU y (-1) (far i) = some y := by
        unfold FU
        unfold f_X10_carries_L19
        rw [if_pos rfl]
      rw [e2, bd1_s, nI_1]
      refine ih (i + 1) (by omega) fu y (by omega) (fun q hq => best_c (hy q hq) (fun u => ?_))
      constructor
      · rintro ⟨p, k, t, a1, a2⟩
        exact ⟨p, k, t, by omega, a2⟩
      · rintro ⟨p, k, t, a1, a2, a3⟩
        by_cases e : p = i
        · subst e; exact absurd a2 (hno t)
        · exact ⟨p, k, t, by omega, a2, a3⟩
    · have e1 : (if (1000000 : Int32) ≤ far i then some (-1 : Int32) else some (nI i)) = some (nI i) := if_neg c
      rw [e1, bd1_s, chk_t, nm_s]
      rcases hTi with ⟨z1, -⟩ | ⟨t0, z1, z2, z3, z4⟩
      · exact absurd (by rw [z1]; exact Int32.le_refl _) c
      · rw [z3]
        obtain ⟨y', b1, b2⟩ := M_walk (bk := bk) hs 64 i t0 y _ FU (by omega) (fun k hk => itn_end hk) (by have := hb i t0 (by omega) z1; omega) (FU_big (by decide)) hy
        rw [b1, bd1_s, nI_1]
        refine ih (i + 1) (by omega) fu y' (by omega) (fun q hq => ?_)
        -- the least comes with the least
        have b3 := b2 q hq
        rcases b3 with ⟨w1, w2⟩ | ⟨t, w1, w2, w3, w4⟩
        · refine Or.inl ⟨w1, fun u hu => ?_⟩
          obtain ⟨p, k, t, a1, a2, a3, a4⟩ := hu
          by_cases e : p = i
          · subst e; exact w2 (t0 + k) (Or.inr ⟨k, a3, rfl⟩)
          · exact w2 u (Or.inl ⟨p, k, t, by omega, a2, a3, a4⟩)
        · refine Or.inr ⟨t, ?_, w2, w3, fun u hu => ?_⟩
          · rcases w1 with ⟨p, k, t', a1, a2⟩ | ⟨k, a1, a2⟩
            · exact ⟨p, k, t', by omega, a2⟩
            · exact ⟨i, k, t0, by omega, z1, a1, a2⟩
          · obtain ⟨p, k, t', a1, a2, a3, a4⟩ := hu
            by_cases e : p = i
            · subst e
              have h1 := w4 (t0 + k) (Or.inr ⟨k, a3, rfl⟩)
              have h2 := z4 t' a2
              omega
            · exact w4 u (Or.inl ⟨p, k, t', by omega, a2, a3, a4⟩)
/-- sums after some stages -/
def TS (bk : Nat → Int32) (c : Nat) : Nat → Nat → Nat → Prop
  | 0 => fun q u => q = c ∧ u = 0
  | s + 1 => fun q => onS (fun q => bk (20 + (64 * s + q))) (TS bk c s) q
theorem TS_b {bk : Nat → Int32} {c : Nat} : ∀ s q t, q < 64 → TS bk c s q t → t ≤ 64 * s
  | 0, q, t, _, h => by obtain ⟨-, rfl⟩ := h; omega
  | s + 1, q, t, hq, h => by
    obtain ⟨p, k, t', a1, a2, a3, rfl⟩ := h
    have h1 := TS_b s p t' a1 a2
    have h2 : k < 64 := itn_end (h := fun q => bk (20 + (64 * s + q))) (by rw [a3]; exact hq)
    omega
theorem M_stages {bk : Nat → Int32} {c : Nat} : ∀ (n s : Nat), s + n = 3 → ∀ (fu : Nat) (far th : Nat → Int32), n < fu → (∀ q, q < 64 → best (far q) (TS bk c s q)) → ∃ far' th', f_X10_carries_L14 bk fu far th (nI s) = some (far', th') ∧ ∀ q, q < 64 → best (far' q) (TS bk c 3 q) := by
  intro n
  induction n with
  | zero =>
    intro s hs fu far th hfu hf
    obtain ⟨fu, rfl⟩ : ∃ n, fu = n + 1 := ⟨fu - 1, by omega⟩
    unfold f_X10_carries_L14
    obtain rfl : s = 3 := by omega
    rw [if_pos (by decide)]
    exact ⟨far, th, rfl, hf⟩
  | succ n ih =>
    intro s hs fu far th hfu hf
    obtain ⟨fu, rfl⟩ : ∃ n, fu = n + 1 := ⟨fu - 1, by omega⟩
    unfold f_X10_carries_L14
    rw [if_neg (show ¬ (3 : Int32) ≤ nI s from nI_ge (b := 3) (by omega) (by decide))]
    obtain ⟨y1, a1, a2, -⟩ := M_fill2 64 0 rfl FU th (FU_big (by decide))
    rw [show (0 : Int32) = nI 0 from rfl, a1, bd1_s]
    obtain ⟨y2, b1, b2⟩ := M_walks (bk := bk) (far := far) (s := s) (b := 64 * s) (T := TS bk c s) (by omega) hf (fun q t hq h => TS_b s q t hq h) (by omega) 64 0 rfl FU y1 (FU_big (by decide)) (fun q hq => by
      rw [a2 q (Nat.zero_le _) hq]
      exact best_c best_0 (fun u => ⟨fun z => z.elim, fun ⟨p, k, t, z, _⟩ => by omega⟩))
    rw [b1, bd1_s]
    obtain ⟨y3, c1, c2, -⟩ := M_copy (f := y2) 64 0 rfl FU far (FU_big (by decide))
    rw [c1, bd1_s, nI_1]
    exact ih (s + 1) (by omega) fu y3 y2 (by omega) (fun q hq => by rw [c2 q (Nat.zero_le _) hq]; exact b2 q hq)
/-- the reference's carries: the least sums from a place -/
theorem M_carries {bk far th : Nat → Int32} {c : Nat} (hc : c < 64) : ∃ far' th', f_X10_carries far th bk (nI c) = some (far', th') ∧ ∀ q, q < 64 → best (far' q) (TS bk c 3 q) := by
  unfold f_X10_carries
  obtain ⟨y1, a1, a2, -⟩ := M_fill hc 64 0 rfl FU far (FU_big (by decide))
  rw [show (0 : Int32) = nI 0 from rfl, a1, bd1_s]
  obtain ⟨f', t', b1, b2⟩ := M_stages (bk := bk) (c := c) 3 0 rfl FU y1 th (FU_big (by decide)) (fun q hq => by
    rw [a2 q (Nat.zero_le _) hq]
    by_cases e : q = c
    · rw [if_pos e]
      exact Or.inr ⟨0, ⟨e, rfl⟩, by decide, rfl, fun u hu => Nat.zero_le _⟩
    · rw [if_neg e]
      exact Or.inl ⟨rfl, fun u hu => e hu.1⟩)
  rw [b1, bd2_s]
  exact ⟨f', t', rfl, b2⟩
