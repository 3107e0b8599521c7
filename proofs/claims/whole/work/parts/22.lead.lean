/-! ===== the class's leadTo ===== -/
theorem X_fill {p1 : Nat} (hp1 : p1 < 64) : ∀ (n i : Nat), i + n = 64 → ∀ (fu : Nat) (y : Nat → Int32), n < fu → ∃ y', f_X7_leadTo_L1 (nI p1) fu y (nI i) = some y' ∧ (∀ q, i ≤ q → q < 64 → y' q = if q = p1 then nI 0 else nI 1000000) ∧ ∀ q, q < i → y' q = y q := by
  intro n
  induction n with
  | zero =>
    intro i hi fu y hfu
    obtain ⟨fu, rfl⟩ : ∃ n, fu = n + 1 := ⟨fu - 1, by omega⟩
    unfold f_X7_leadTo_L1
    obtain rfl : i = 64 := by omega
    rw [if_pos (by decide)]
    exact ⟨y, rfl, fun q h1 h2 => by omega, fun q _ => rfl⟩
  | succ n ih =>
    intro i hi fu y hfu
    obtain ⟨fu, rfl⟩ : ∃ n, fu = n + 1 := ⟨fu - 1, by omega⟩
    unfold f_X7_leadTo_L1
    rw [if_neg (show ¬ (64 : Int32) ≤ nI i from nI_ge (b := 64) (by omega) (by decide))]
    have e1 : (if nI i = nI p1 then some (0 : Int32) else some (1000000 : Int32)) = some (if i = p1 then nI 0 else nI 1000000) := by
      by_cases c : i = p1
      · subst c; rw [if_pos rfl, if_pos rfl]; rfl
      · rw [if_neg (fun z => c ((nI_eq (by omega) (by omega)).mp z)), if_neg c]; rfl
    rw [e1, bd1_s, gin_n (by omega) (by decide), chk_t, nm_s, cl_n (by omega), show (1 : Int32) = nI 1 from rfl, nI_add]
    obtain ⟨y', b1, b2, b3⟩ := ih (i + 1) (by omega) fu (upd y i (if i = p1 then nI 0 else nI 1000000)) (by omega)
    refine ⟨y', b1, fun q h1 h2 => ?_, fun q hq => by rw [b3 q (by omega), upd_n _ _ (by omega)]⟩
    by_cases c : q = i
    · subst c; rw [b3 q (by omega), upd_s]
    · exact b2 q (by omega) h2
/-- the next place as the class keeps it: -1 for none -/
def nxI (h : Nat → Int32) (p : Nat) : Int32 := if nxt h p = 64 then -1 else nI (nxt h p)
theorem X_beside_flow {h : Nat → Int32} {p : Nat} (hp : p < 64) : f_X7_placeBeside (nI p) (flowI h p) = some (nxI h p) := by
  unfold nxI
  rcases nxt_to (h := h) hp with ⟨a, b⟩ | ⟨d, a, b, c, e, f, g⟩
  · rw [a, b, if_pos rfl, nb_X1 p hp]
  · rw [b, nb_X p hp d a, e, if_neg (by omega)]
theorem X_next {n0 : Nat} {su : Nat → Int32} {s : Nat} (hn0 : n0 = 192) (hs : s < 3) : ∀ (n i : Nat), i + n = 64 → ∀ (fu : Nat) (y : Nat → Int32), n < fu → ∃ y', f_X7_leadTo_L7 n0 su (nI s) fu y (nI i) = some y' ∧ (∀ q, i ≤ q → q < 64 → y' q = nxI (fun q => su (64 * s + q)) q) ∧ ∀ q, q < i → y' q = y q := by
  intro n
  induction n with
  | zero =>
    intro i hi fu y hfu
    obtain ⟨fu, rfl⟩ : ∃ n, fu = n + 1 := ⟨fu - 1, by omega⟩
    unfold f_X7_leadTo_L7
    obtain rfl : i = 64 := by omega
    rw [if_pos (by decide)]
    exact ⟨y, rfl, fun q h1 h2 => by omega, fun q _ => rfl⟩
  | succ n ih =>
    intro i hi fu y hfu
    obtain ⟨fu, rfl⟩ : ∃ n, fu = n + 1 := ⟨fu - 1, by omega⟩
    unfold f_X7_leadTo_L7
    rw [if_neg (show ¬ (64 : Int32) ≤ nI i from nI_ge (b := 64) (by omega) (by decide)), X_flow hn0 hs (by omega), bd1_s, X_beside_flow (by omega), bd1_s, gin_n (by omega) (by decide), chk_t, nm_s, cl_n (by omega), show (1 : Int32) = nI 1 from rfl, nI_add]
    obtain ⟨y', b1, b2, b3⟩ := ih (i + 1) (by omega) fu (upd y i (nxI (fun q => su (64 * s + q)) i)) (by omega)
    refine ⟨y', b1, fun q h1 h2 => ?_, fun q hq => by rw [b3 q (by omega), upd_n _ _ (by omega)]⟩
    by_cases c : q = i
    · subst c; rw [b3 q (by omega), upd_s]
    · exact b2 q (by omega) h2
theorem best_le {y : Int32} {S : Nat → Prop} (h : best y S) : ∃ m, m ≤ 1000000 ∧ y = nI m := by
  rcases h with ⟨h1, -⟩ | ⟨t, -, h2, h3, -⟩
  · exact ⟨1000000, Nat.le_refl _, h1⟩
  · exact ⟨t, by omega, h3⟩
/-- the walk down from a place -/
theorem X_down {h tg nx : Nat → Int32} {U : Nat → Nat → Prop} (hU : ∀ q, q < 64 → best (tg q) (U q)) (hb : ∀ q t, q < 64 → U q t → t ≤ 500000) (hnx : ∀ q, q < 64 → nx q = nxI h q) : ∀ (r w a : Nat) (x : Int32) (S : Nat → Prop) (fu : Nat), w + r = 64 → a ≤ 64 → r < fu → best x S →
    ∃ y, f_X7_fewestDownFrom_L1 tg nx fu x (if a = 64 then -1 else nI a) (nI w) = some y ∧ best y (fun u => S u ∨ ∃ k t, k < r ∧ itn h k a < 64 ∧ U (itn h k a) t ∧ u = w + (k + t)) := by
  intro r
  induction r with
  | zero =>
    intro w a x S fu hw ha hfu hx
    obtain ⟨fu, rfl⟩ : ∃ n, fu = n + 1 := ⟨fu - 1, by omega⟩
    unfold f_X7_fewestDownFrom_L1
    obtain rfl : w = 64 := by omega
    rw [if_pos (by decide)]
    exact ⟨x, rfl, best_c hx (fun u => ⟨Or.inl, fun z => z.elim id (fun ⟨k, t, q, _⟩ => by omega)⟩)⟩
  | succ r ih =>
    intro w a x S fu hw ha hfu hx
    obtain ⟨fu, rfl⟩ : ∃ n, fu = n + 1 := ⟨fu - 1, by omega⟩
    unfold f_X7_fewestDownFrom_L1
    rw [if_neg (show ¬ (64 : Int32) ≤ nI w from nI_ge (b := 64) (by omega) (by decide))]
    by_cases c : a = 64
    · subst c
      rw [if_pos rfl, if_pos (by decide)]
      refine ⟨x, rfl, best_c hx (fun u => ⟨Or.inl, fun z => z.elim id (fun ⟨k, t, q, z, _⟩ => ?_)⟩)⟩
      rw [itn_64] at z
      omega
    · rw [if_neg c, if_neg (nI_pos (by omega)), if_neg (show ¬ (64 : Int32) ≤ nI a from nI_ge (b := 64) (by omega) (by decide)), gin_n (by omega) (by decide), chk_t, cl_n (by omega)]
      rw [nm_s, chk_t, nm_s, hnx a (by omega), show (1 : Int32) = nI 1 from rfl, nI_add]
      -- the step
      have hx1 : best (if nI w + tg a < x then nI w + tg a else x) (fun u => S u ∨ ∃ t, U a t ∧ u = w + t) := by
        rcases hU a (by omega) with ⟨z1, z2⟩ | ⟨t, z1, z2, z3, z4⟩
        · rw [z1, nI_add]
          obtain ⟨m, m1, m2⟩ := best_le hx
          rw [m2, if_neg (nI_nlt (by omega) (by omega)), ← m2]
          exact best_c hx (fun u => ⟨Or.inl, fun z => z.elim id (fun ⟨t, q, _⟩ => absurd q (z2 t))⟩)
        · rw [z3, nI_add]
          have hwt : w + t < 1000000 := by have := hb a t (by omega) z1; omega
          have h1 := best_1 hx (t := w + t) hwt
          have e1 : (if nI (w + t) < x then nI (w + t) else x) = (if x ≤ nI (w + t) then x else nI (w + t)) := by
            by_cases q : x ≤ nI (w + t)
            · rw [if_pos q, if_neg (Int32.not_lt.mpr q)]
            · rw [if_neg q, if_pos (Int32.not_le.mp q)]
          rw [e1]
          rcases h1 with ⟨y1, y2⟩ | ⟨v, y1, y2, y3, y4⟩
          · exact absurd rfl (fun q => y2 (w + t) (Or.inr q))
          · refine Or.inr ⟨v, ?_, y2, y3, fun u hu => ?_⟩
            · rcases y1 with y1 | y1
              · exact Or.inl y1
              · exact Or.inr ⟨t, z1, y1⟩
            · rcases hu with hu | ⟨t', q1, q2⟩
              · exact y4 u (Or.inl hu)
              · have := y4 (w + t) (Or.inr rfl)
                have := z4 t' q1
                omega
      have hn : nxI h a = (if nxt h a = 64 then -1 else nI (nxt h a)) := rfl
      rw [hn]
      obtain ⟨y, b1, b2⟩ := ih (w + 1) (nxt h a) _ _ fu (by omega) (nxt_le h a) (by omega) hx1
      refine ⟨y, b1, best_c b2 (fun u => ?_)⟩
      constructor
      · rintro ((q | ⟨t, q1, q2⟩) | ⟨k, t, q1, q2, q3, q4⟩)
        · exact Or.inl q
        · exact Or.inr ⟨0, t, by omega, by show a < 64; omega, q1, by omega⟩
        · exact Or.inr ⟨k + 1, t, by omega, q2, q3, by omega⟩
      · rintro (q | ⟨k, t, q1, q2, q3, q4⟩)
        · exact Or.inl (Or.inl q)
        · cases k with
          | zero => exact Or.inl (Or.inr ⟨t, q3, by omega⟩)
          | succ k => exact Or.inr ⟨k, t, by omega, q2, q3, by omega⟩
/-- sums from a place on, the last n stages, to g -/
def US (sv : Nat → Nat → Int32) (g : Nat) : Nat → Nat → Nat → Prop
  | 0 => fun p u => p = g ∧ u = 0
  | n + 1 => fun p u => ∃ k t, itn (sv (2 - n)) k p < 64 ∧ US sv g n (itn (sv (2 - n)) k p) t ∧ u = k + t
theorem US_b {sv : Nat → Nat → Int32} {g : Nat} : ∀ n p t, US sv g n p t → t ≤ 64 * n
  | 0, p, t, h => by obtain ⟨-, rfl⟩ := h; omega
  | n + 1, p, t, h => by
    obtain ⟨k, t', a1, a2, rfl⟩ := h
    have h1 := US_b n _ t' a2
    have h2 : k < 64 := itn_end a1
    omega
theorem X_downs {h tg nx : Nat → Int32} {U : Nat → Nat → Prop} (hU : ∀ q, q < 64 → best (tg q) (U q)) (hb : ∀ q t, q < 64 → U q t → t ≤ 500000) (hnx : ∀ q, q < 64 → nx q = nxI h q) : ∀ (n i : Nat), i + n = 64 → ∀ (fu : Nat) (y : Nat → Int32), n < fu → ∃ y', f_X7_leadTo_L8 tg nx fu y (nI i) = some y' ∧ (∀ q, i ≤ q → q < 64 → best (y' q) (fun u => ∃ k t, itn h k q < 64 ∧ U (itn h k q) t ∧ u = k + t)) ∧ ∀ q, q < i → y' q = y q := by
  intro n
  induction n with
  | zero =>
    intro i hi fu y hfu
    obtain ⟨fu, rfl⟩ : ∃ n, fu = n + 1 := ⟨fu - 1, by omega⟩
    unfold f_X7_leadTo_L8
    obtain rfl : i = 64 := by omega
    rw [if_pos (by decide)]
    exact ⟨y, rfl, fun q h1 h2 => by omega, fun q _ => rfl⟩
  | succ n ih =>
    intro i hi fu y hfu
    obtain ⟨fu, rfl⟩ : ∃ n, fu = n + 1 := ⟨fu - 1, by omega⟩
    unfold f_X7_leadTo_L8
    rw [if_neg (show ¬ (64 : Int32) ≤ nI i from nI_ge (b := 64) (by omega) (by decide))]
    have hd : ∃ z, f_X7_fewestDownFrom tg nx (nI i) = some z ∧ best z (fun u => ∃ k t, itn h k i < 64 ∧ U (itn h k i) t ∧ u = k + t) := by
      unfold f_X7_fewestDownFrom
      obtain ⟨z, z1, z2⟩ := X_down hU hb hnx 64 0 i (nI 1000000) (fun _ => False) FU rfl (by omega) (FU_big (by decide)) best_0
      rw [if_neg (by omega)] at z1
      rw [show (1000000 : Int32) = nI 1000000 from rfl, show (0 : Int32) = nI 0 from rfl, z1, bd1_s]
      refine ⟨z, rfl, best_c z2 (fun u => ?_)⟩
      constructor
      · rintro (q | ⟨k, t, q1, q2, q3, q4⟩)
        · exact q.elim
        · exact ⟨k, t, q2, q3, by omega⟩
      · rintro ⟨k, t, q2, q3, q4⟩
        exact Or.inr ⟨k, t, itn_end q2, q2, q3, by omega⟩
    obtain ⟨z, z1, z2⟩ := hd
    rw [z1, bd1_s, gin_n (by omega) (by decide), chk_t, nm_s, cl_n (by omega), show (1 : Int32) = nI 1 from rfl, nI_add]
    obtain ⟨y', b1, b2, b3⟩ := ih (i + 1) (by omega) fu (upd y i z) (by omega)
    refine ⟨y', b1, fun q h1 h2 => ?_, fun q hq => by rw [b3 q (by omega), upd_n _ _ (by omega)]⟩
    by_cases c : q = i
    · subst c; rw [b3 q (by omega), upd_s]; exact z2
    · exact b2 q (by omega) h2
theorem X_stages {n0 : Nat} {su : Nat → Int32} {g : Nat} (hn0 : n0 = 192) : ∀ (r : Nat), r ≤ 3 → ∀ (fu : Nat) (nx fe tg : Nat → Int32), r < fu → (∀ q, q < 64 → best (tg q) (US (fun s q => su (64 * s + q)) g (3 - r) q)) →
    ∃ nx' fe' tg', f_X7_leadTo_L6 n0 su fu nx fe tg (if r = 0 then -1 else nI (r - 1)) = some (nx', fe', tg') ∧ ∀ q, q < 64 → best (tg' q) (US (fun s q => su (64 * s + q)) g 3 q) := by
  intro r
  induction r with
  | zero =>
    intro _ fu nx fe tg hfu ht
    obtain ⟨fu, rfl⟩ : ∃ n, fu = n + 1 := ⟨fu - 1, by omega⟩
    unfold f_X7_leadTo_L6
    rw [if_pos rfl, if_pos (by decide)]
    exact ⟨nx, fe, tg, rfl, ht⟩
  | succ r ih =>
    intro hr fu nx fe tg hfu ht
    obtain ⟨fu, rfl⟩ : ∃ n, fu = n + 1 := ⟨fu - 1, by omega⟩
    unfold f_X7_leadTo_L6
    have e0 : (if r + 1 = 0 then (-1 : Int32) else nI (r + 1 - 1)) = nI r := by rw [if_neg (Nat.succ_ne_zero r)]; rfl
    rw [e0, if_neg (nI_pos (n := r) (by omega))]
    obtain ⟨y1, a1, a2, -⟩ := X_next (su := su) hn0 (s := r) (by omega) 64 0 rfl FU nx (FU_big (by decide))
    rw [show (0 : Int32) = nI 0 from rfl, a1, bd1_s]
    obtain ⟨y2, b1, b2, -⟩ := X_downs (h := fun q => su (64 * r + q)) (tg := tg) (nx := y1) ht (fun q t hq h => by have := US_b _ _ _ h; omega) (fun q hq => a2 q (Nat.zero_le _) hq) 64 0 rfl FU fe (FU_big (by decide))
    rw [b1, bd1_s]
    have hg : gcp (nI 0) (nI 0) (64 : Int32) 64 64 = true := by decide
    rw [hg, chk_t, nm_s]
    have hc : ∀ q, q < 64 → va_cpy y2 tg (nI 0).toNatClampNeg (nI 0).toNatClampNeg (64 : Int32).toNatClampNeg q = y2 q := by
      intro q hq
      rw [cl_n (by omega), show (64 : Int32).toNatClampNeg = 64 from by decide, pk_cpy_in (by omega) (by omega)]
      congr 1
      omega
    have e1 : nI r + -1 = (if r = 0 then -1 else nI (r - 1)) := by
      by_cases c : r = 0
      · subst c; rw [if_pos rfl]; rfl
      · rw [if_neg c]
        obtain ⟨r', rfl⟩ : ∃ n, r = n + 1 := ⟨r - 1, by omega⟩
        rw [pk_m1, show r' + 1 - 1 = r' by omega]
    rw [e1]
    refine ih (by omega) fu y1 y2 _ (by omega) (fun q hq => ?_)
    rw [hc q hq]
    have e2 : 3 - r = (3 - (r + 1)) + 1 := by omega
    rw [e2]
    refine best_c (b2 q (Nat.zero_le _) hq) (fun u => ?_)
    show _ ↔ ∃ k t, itn (fun q => su (64 * (2 - (3 - (r + 1))) + q)) k q < 64 ∧ _ ∧ _
    rw [show 2 - (3 - (r + 1)) = r by omega]
theorem X_leadTo {n0 : Nat} {su nx fe tg : Nat → Int32} {g : Nat} (hn0 : n0 = 192) (hg : g < 64) : ∃ tg' nx' fe', f_X7_leadTo tg n0 su nx fe (nI g) = some (tg', nx', fe') ∧ ∀ q, q < 64 → best (tg' q) (US (fun s q => su (64 * s + q)) g 3 q) := by
  unfold f_X7_leadTo
  obtain ⟨y1, a1, a2, -⟩ := X_fill hg 64 0 rfl FU tg (FU_big (by decide))
  rw [show (0 : Int32) = nI 0 from rfl, a1, bd1_s]
  obtain ⟨nx', fe', tg', b1, b2⟩ := X_stages (su := su) (g := g) hn0 3 (Nat.le_refl 3) FU nx fe y1 (FU_big (by decide)) (fun q hq => by
    rw [a2 q (Nat.zero_le _) hq]
    by_cases e : q = g
    · rw [if_pos e]
      exact Or.inr ⟨0, ⟨e, rfl⟩, by decide, rfl, fun u hu => Nat.zero_le _⟩
    · rw [if_neg e]
      exact Or.inl ⟨rfl, fun u hu => e hu.1⟩)
  rw [show (2 : Int32) = (if 3 = 0 then -1 else nI (3 - 1)) from rfl, b1, bd3_s]
  exact ⟨tg', nx', fe', rfl, b2⟩
/-- forth and back it is the same -/
theorem TS_US {bk : Nat → Int32} {c g u : Nat} (hc : c < 64) (hg : g < 64) : TS bk c 3 g u ↔ US (fun s q => bk (20 + (64 * s + q))) g 3 c u := by
  constructor
  · rintro ⟨p2, k2, t2, a1, ⟨p1, k1, t1, b1, ⟨p0, k0, t0, c1, ⟨d1, d2⟩, c3, c4⟩, b3, b4⟩, a3, a4⟩
    subst d1; subst d2
    refine ⟨k0, k1 + k2, by show itn _ k0 p0 < 64; rw [c3]; exact b1, ⟨k1, k2, by show itn _ k1 (itn _ k0 p0) < 64; rw [c3, b3]; exact a1, ⟨k2, 0, ?_, ⟨?_, rfl⟩, rfl⟩, rfl⟩, by omega⟩
    · show itn _ k2 (itn _ k1 (itn _ k0 p0)) < 64
      rw [c3, b3, a3]; exact hg
    · show itn _ k2 (itn _ k1 (itn _ k0 p0)) = g
      rw [c3, b3, a3]
  · rintro ⟨k0, t0, a1, ⟨k1, t1, b1, ⟨k2, t2, c1, ⟨d1, d2⟩, c2⟩, b2⟩, a2⟩
    refine ⟨_, k2, k0 + k1, b1, ⟨_, k1, k0, a1, ⟨c, k0, 0, hc, ⟨rfl, rfl⟩, rfl, by omega⟩, rfl, rfl⟩, d1, by omega⟩
