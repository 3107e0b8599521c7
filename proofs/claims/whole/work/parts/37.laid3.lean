/-! ===== laid: the search, step by step ===== -/
def BB : Nat → Nat
  | 0 => 0
  | d + 1 => 3 * (1 + BB d) + 1
section DFS
variable {n : Nat} {P m : Nat → Nat} {bk my : Nat → Int32}
theorem M_cpL (hn : n ≤ 10) {row : Nat → Int32} : ∀ k i, i + k = n → ∀ fu, k < fu → ∀ y : Nat → Int32, ∃ y', f_X10_lays_L5 (nI n) (nI 0) row fu y (nI i) = some y' ∧ (∀ s, i ≤ s → s < n → y' s = row s) ∧ ∀ s, s < i → y' s = y s := by
  intro k
  induction k with
  | zero =>
    intro i hi fu hfu y
    obtain ⟨fu, rfl⟩ : ∃ n, fu = n + 1 := ⟨fu - 1, by omega⟩
    obtain rfl : i = n := by omega
    refine ⟨y, ?_, fun s a b => by omega, fun _ _ => rfl⟩
    unfold f_X10_lays_L5
    rw [if_pos (Int32.le_refl _)]
  | succ k ih =>
    intro i hi fu hfu y
    obtain ⟨fu, rfl⟩ : ∃ n, fu = n + 1 := ⟨fu - 1, by omega⟩
    obtain ⟨y', b1, b2, b3⟩ := ih (i + 1) (by omega) fu (by omega) (upd y i (row i))
    refine ⟨y', ?_, fun s h1 h2 => ?_, fun s hs => by rw [b3 s (by omega), upd_n _ _ (by omega)]⟩
    · unfold f_X10_lays_L5
      rw [if_neg (nI_ge (by omega) (by omega)), if_pos (by rfl), gin_n (by omega) (by decide), chk_t, nm_s, chk_t, nm_s, cl_n (by omega), nI_1]
      exact b1
    · by_cases c : s = i
      · subst c; rw [b3 s (by omega), upd_s]
      · exact b2 s (by omega) h2
/-- what the search does from a place on, given its last values' state -/
def DS (n : Nat) (P m : Nat → Nat) (bk my : Nat → Int32) (d : Nat) : Prop := ∀ a, a + d = n → 1 ≤ d → ∀ (lo rw' : Nat → Nat) (y row : Nat → Int32) (f : Nat), (∀ q w, (∀ j, j < a → P j = q → rw' j ≤ w) ↔ lo q ≤ w) → (∀ j, j < a → row j = nI (rw' j) ∧ rw' j < 3) → row a + 1 = nI 0 → f + cC m P d a lo ≤ 1000000 → ∃ T y' row', T ≤ BB d ∧ (∀ fu, f_X10_lays_L4 my bk (nI n) (fu + T) y row (nI f) (nI a) = f_X10_lays_L4 my bk (nI n) fu y' row' (nI (f + cC m P d a lo)) (if a = 0 then -1 else nI (a - 1))) ∧ (∀ j, j < a → row' j = row j) ∧ ((0 < f ∨ cC m P d a lo = 0) → ∀ j, j < n → y' j = y j) ∧ (f = 0 → 0 < cC m P d a lo → (∀ j, j < a → y' j = row j) ∧ ∀ j, a ≤ j → j < n → y' j = nI (frow m P d a lo j))
theorem relUp {a v : Nat} {lo rw' : Nat → Nat} (h : ∀ q w, (∀ j, j < a → P j = q → rw' j ≤ w) ↔ lo q ≤ w) (hv : lo (P a) ≤ v) : ∀ q w, (∀ j, j < a + 1 → P j = q → va_up rw' a v j ≤ w) ↔ va_up lo (P a) v q ≤ w := by
  intro q w
  by_cases c : q = P a
  · subst c
    rw [va_up_self]
    constructor
    · intro z
      have := z a (by omega) rfl
      rw [va_up_self] at this
      exact this
    · intro z j h1 h2
      by_cases e : j = a
      · subst e; rw [va_up_self]; exact z
      · rw [va_up_ne _ _ e]
        exact (h (P a) w).mpr (by omega) j (by omega) h2
  · rw [va_up_ne _ _ c, ← h q w]
    constructor
    · intro z j h1 h2
      have := z j (by omega) h2
      rw [va_up_ne _ _ (by omega)] at this
      exact this
    · intro z j h1 h2
      by_cases e : j = a
      · subst e; exact absurd h2.symm c
      · rw [va_up_ne _ _ e]
        exact z j (by omega) h2
/-- one value at one place -/
theorem stepV (hn : n ≤ 10) (hP : ∀ s, s < n → P s < 64) (hm : ∀ s, s < n → m s < 8) (hB : ∀ s, s < n → bk (260 + 2 * s) = nI (P s)) (hmy : ∀ s, s < n → my s = nI (m s)) {d a v : Nat} (ha : a + (d + 1) = n) (hv : v < 3) (IH : DS n P m bk my d) {lo rw' : Nat → Nat} {row : Nat → Int32} (y : Nat → Int32) (f : Nat) (hlo : ∀ q w, (∀ j, j < a → P j = q → rw' j ≤ w) ↔ lo q ≤ w) (hr : ∀ j, j < a → row j = nI (rw' j) ∧ rw' j < 3) (hra : row a + 1 = nI v) (hf : f + tmv m P d a lo v ≤ 1000000) :
    ∃ T y' row', T ≤ 1 + BB d ∧ (∀ fu, f_X10_lays_L4 my bk (nI n) (fu + T) y row (nI f) (nI a) = f_X10_lays_L4 my bk (nI n) fu y' row' (nI (f + tmv m P d a lo v)) (nI a)) ∧ (∀ j, j < a → row' j = row j) ∧ row' a = nI v ∧ ((0 < f ∨ tmv m P d a lo v = 0) → ∀ j, j < n → y' j = y j) ∧ (f = 0 → 0 < tmv m P d a lo v → (∀ j, j < a → y' j = row j) ∧ y' a = nI v ∧ ∀ j, a + 1 ≤ j → j < n → y' j = nI (frow m P d (a + 1) (va_up lo (P a) v) j)) := by
  have ha' : a < n := by omega
  have hr1 : ∀ j, j < a → upd row a (nI v) j = nI (rw' j) ∧ rw' j < 3 := fun j hj => by rw [upd_n _ _ (by omega)]; exact hr j hj
  obtain ⟨r, r1, r2⟩ := isLaid_r (my := my) (v := v) hn hP hm hB ha' hv (hmy a ha') hr1 (upd_s row a (nI v)) hlo
  have pre : ∀ fu, f_X10_lays_L4 my bk (nI n) (fu + 1) y row (nI f) (nI a) = (if r = 0 then f_X10_lays_L4 my bk (nI n) fu y (upd row a (nI v)) (nI f) (nI a) else if nI n ≤ nI (a + 1) then bd1 (f_X10_lays_L5 (nI n) (nI f) (upd row a (nI v)) FU y 0) (fun y107 => f_X10_lays_L4 my bk (nI n) fu y107 (upd row a (nI v)) (nI (f + 1)) (nI a)) else chk (gin (nI (a + 1)) 10) (nm (upd (upd row a (nI v)) (nI (a + 1)).toNatClampNeg (-1)) (fun y123 => f_X10_lays_L4 my bk (nI n) fu y y123 (nI f) (nI (a + 1))))) := by
    intro fu
    rw [f_X10_lays_L4]
    rw [if_neg (nI_pos (by omega)), gin_n (by omega) (by decide), chk_t, cl_n (by omega), hra, nm_s, chk_t, nm_s, chk_t, upd_s, if_neg (show ¬ nI v = (3 : Int32) from fun z => by have := (nI_eq (a := v) (b := 3) (by omega) (by decide)).mp z; omega), r1, bd1_s, nI_1, nI_1]
  rcases r2 with ⟨q1, q2⟩ | ⟨q1, q2⟩
  · -- it may stand
    have et : tmv m P d a lo v = cC m P d (a + 1) (va_up lo (P a) v) := if_pos q2
    rw [et] at hf ⊢
    have nz : ¬ r = 0 := by rw [q1]; decide
    by_cases hd : d = 0
    · subst hd
      have e1 : cC m P 0 (a + 1) (va_up lo (P a) v) = 1 := rfl
      rw [e1] at hf ⊢
      have hl : nI n ≤ nI (a + 1) := nI_le (by omega) (by omega)
      by_cases hf0 : f = 0
      · subst hf0
        obtain ⟨y', b1, b2, -⟩ := M_cpL hn (row := upd row a (nI v)) n 0 (by omega) FU (FU_big (by omega)) y
        refine ⟨1, y', upd row a (nI v), by omega, fun fu => ?_, fun j hj => upd_n _ _ (by omega), upd_s _ _ _, fun h => absurd h (by omega), fun _ _ => ⟨fun j hj => ?_, ?_, fun j h1 h2 => by omega⟩⟩
        · rw [pre, if_neg nz, if_pos hl, show f_X10_lays_L5 (nI n) (nI 0) (upd row a (nI v)) FU y 0 = some y' from b1, bd1_s]
        · rw [b2 j (by omega) (by omega), upd_n _ _ (by omega)]
        · rw [b2 a (by omega) (by omega), upd_s]
      · have e2 : f_X10_lays_L5 (nI n) (nI f) (upd row a (nI v)) FU y 0 = some y := by
          unfold FU
          unfold f_X10_lays_L5
          rw [if_neg (show ¬ nI n ≤ (0 : Int32) from nI_nle (by omega) (by omega)), if_neg (nI_ne0 (by omega) (by omega))]
        refine ⟨1, y, upd row a (nI v), by omega, fun fu => ?_, fun j hj => upd_n _ _ (by omega), upd_s _ _ _, fun _ j _ => rfl, fun h => absurd h hf0⟩
        rw [pre, if_neg nz, if_pos hl, e2, bd1_s]
    · have hl : ¬ nI n ≤ nI (a + 1) := nI_ge (by omega) (by omega)
      have hr2 : ∀ j, j < a + 1 → upd (upd row a (nI v)) (a + 1) (-1) j = nI (va_up rw' a v j) ∧ va_up rw' a v j < 3 := by
        intro j hj
        rw [upd_n _ _ (by omega)]
        by_cases e : j = a
        · subst e; rw [upd_s, va_up_self]; exact ⟨rfl, hv⟩
        · rw [upd_n _ _ e, va_up_ne _ _ e]; exact hr j (by omega)
      obtain ⟨T, y', row', t1, t2, t3, t4, t5⟩ := IH (a + 1) (by omega) (by omega) (va_up lo (P a) v) (va_up rw' a v) y (upd (upd row a (nI v)) (a + 1) (-1)) f (relUp hlo q2.2) hr2 (by rw [upd_s]; rfl) hf
      refine ⟨T + 1, y', row', by omega, fun fu => ?_, fun j hj => ?_, ?_, t4, fun h1 h2 => ?_⟩
      · rw [← Nat.add_assoc, pre, if_neg nz, if_neg hl, gin_n (by omega) (by decide), chk_t, nm_s, cl_n (by omega), t2, if_neg (by omega), show a + 1 - 1 = a by omega]
      · rw [t3 j (by omega), upd_n _ _ (by omega), upd_n _ _ (by omega)]
      · rw [t3 a (by omega), upd_n _ _ (by omega), upd_s]
      · obtain ⟨u1, u2⟩ := t5 h1 h2
        refine ⟨fun j hj => ?_, ?_, fun j h3 h4 => u2 j h3 h4⟩
        · rw [u1 j (by omega), upd_n _ _ (by omega), upd_n _ _ (by omega)]
        · rw [u1 a (by omega), upd_n _ _ (by omega), upd_s]
  · have et : tmv m P d a lo v = 0 := if_neg q2
    rw [et] at hf ⊢
    refine ⟨1, y, upd row a (nI v), by omega, fun fu => ?_, fun j hj => upd_n _ _ (by omega), upd_s _ _ _, fun _ j _ => rfl, fun _ h => absurd h (by omega)⟩
    rw [pre, if_pos q1, Nat.add_zero]
theorem dfs_all (hn : n ≤ 10) (hP : ∀ s, s < n → P s < 64) (hm : ∀ s, s < n → m s < 8) (hB : ∀ s, s < n → bk (260 + 2 * s) = nI (P s)) (hmy : ∀ s, s < n → my s = nI (m s)) : ∀ d, DS n P m bk my d := by
  intro d
  induction d with
  | zero => intro a _ h; omega
  | succ d IH =>
    intro a ha _ lo rw' y row f hlo hr hra hf
    rw [cC_s] at hf
    obtain ⟨T0, y0, w0, t0, e0, p0, s0, k0, g0⟩ := stepV hn hP hm hB hmy ha (v := 0) (by omega) IH y f hlo hr hra (by omega)
    have hr0 : ∀ j, j < a → w0 j = nI (rw' j) ∧ rw' j < 3 := fun j hj => by rw [p0 j hj]; exact hr j hj
    obtain ⟨T1, y1, w1, t1, e1, p1, s1, k1, g1⟩ := stepV hn hP hm hB hmy ha (v := 1) (by omega) IH y0 (f + tmv m P d a lo 0) hlo hr0 (by rw [s0]; rfl) (by omega)
    have hr1 : ∀ j, j < a → w1 j = nI (rw' j) ∧ rw' j < 3 := fun j hj => by rw [p1 j hj]; exact hr0 j hj
    obtain ⟨T2, y2, w2, t2, e2, p2, s2, k2, g2⟩ := stepV hn hP hm hB hmy ha (v := 2) (by omega) IH y1 (f + tmv m P d a lo 0 + tmv m P d a lo 1) hlo hr1 (by rw [s1]; rfl) (by omega)
    have ex : ∀ fu, f_X10_lays_L4 my bk (nI n) (fu + 1) y2 w2 (nI (f + tmv m P d a lo 0 + tmv m P d a lo 1 + tmv m P d a lo 2)) (nI a) = f_X10_lays_L4 my bk (nI n) fu y2 (upd w2 a (nI 3)) (nI (f + tmv m P d a lo 0 + tmv m P d a lo 1 + tmv m P d a lo 2)) (if a = 0 then -1 else nI (a - 1)) := by
      intro fu
      have e3 : nI a + -1 = (if a = 0 then (-1 : Int32) else nI (a - 1)) := by
        by_cases c : a = 0
        · subst c; rfl
        · obtain ⟨j, rfl⟩ : ∃ j, a = j + 1 := ⟨a - 1, by omega⟩
          rw [if_neg c, pk_m1]
          rfl
      rw [f_X10_lays_L4]
      rw [if_neg (nI_pos (by omega)), gin_n (by omega) (by decide), chk_t, cl_n (by omega), s2, nm_s, chk_t, nm_s, chk_t, upd_s, if_pos (by rfl), e3]
      rfl
    refine ⟨1 + T2 + T1 + T0, y2, upd w2 a (nI 3), ?_, fun fu => ?_, fun j hj => ?_, fun h j hj => ?_, fun h1 h2 => ?_⟩
    · unfold BB; omega
    · rw [show fu + (1 + T2 + T1 + T0) = (fu + 1 + T2 + T1) + T0 by omega, e0, e1, e2, ex, cC_s]
      rw [show f + tmv m P d a lo 0 + tmv m P d a lo 1 + tmv m P d a lo 2 = f + (tmv m P d a lo 0 + tmv m P d a lo 1 + tmv m P d a lo 2) by omega]
    · rw [upd_n _ _ (by omega), p2 j hj, p1 j hj, p0 j hj]
    · rw [cC_s] at h
      rw [k2 (by omega) j hj, k1 (by omega) j hj, k0 (by omega) j hj]
    · subst h1
      rw [cC_s] at h2
      have hfr : ∀ j, frow m P (d + 1) a lo j = if j = a then fvv m P d a lo else frow m P d (a + 1) (va_up lo (P a) (fvv m P d a lo)) j := fun j => rfl
      have fin : ∀ v, fvv m P d a lo = v → (∀ j, j < n → y2 j = y2 j) → ((∀ j, j < a → y2 j = row j) ∧ y2 a = nI v ∧ ∀ j, a + 1 ≤ j → j < n → y2 j = nI (frow m P d (a + 1) (va_up lo (P a) v) j)) → (∀ j, j < a → y2 j = row j) ∧ ∀ j, a ≤ j → j < n → y2 j = nI (frow m P (d + 1) a lo j) := by
        intro v hv _ ⟨z1, z2, z3⟩
        refine ⟨z1, fun j h3 h4 => ?_⟩
        rw [hfr, hv]
        by_cases c : j = a
        · subst c; rw [if_pos rfl]; exact z2
        · rw [if_neg c]; exact z3 j (by omega) h4
      by_cases c0 : 0 < tmv m P d a lo 0
      · obtain ⟨z1, z2, z3⟩ := g0 rfl c0
        have eq2 : ∀ j, j < n → y2 j = y0 j := fun j hj => by rw [k2 (by omega) j hj, k1 (by omega) j hj]
        refine fin 0 (if_pos c0) (fun _ _ => rfl) ⟨fun j hj => ?_, ?_, fun j h3 h4 => ?_⟩
        · rw [eq2 j (by omega), z1 j hj]
        · rw [eq2 a (by omega), z2]
        · rw [eq2 j h4, z3 j h3 h4]
      · by_cases c1 : 0 < tmv m P d a lo 1
        · obtain ⟨z1, z2, z3⟩ := g1 (by omega) c1
          have eq2 : ∀ j, j < n → y2 j = y1 j := fun j hj => k2 (by omega) j hj
          refine fin 1 (by unfold fvv; rw [if_neg c0, if_pos c1]) (fun _ _ => rfl) ⟨fun j hj => ?_, ?_, fun j h3 h4 => ?_⟩
          · rw [eq2 j (by omega), z1 j hj, p0 j hj]
          · rw [eq2 a (by omega), z2]
          · rw [eq2 j h4, z3 j h3 h4]
        · obtain ⟨z1, z2, z3⟩ := g2 (by omega) (by omega)
          refine fin 2 (by unfold fvv; rw [if_neg c0, if_neg c1]) (fun _ _ => rfl) ⟨fun j hj => ?_, z2, z3⟩
          rw [z1 j hj, p1 j hj, p0 j hj]
end DFS
theorem laysAll {n : Nat} {P m : Nat → Nat} {bk : Nat → Int32} (mys row fr : Nat → Int32) (hn : n ≤ 10) (hP : ∀ s, s < n → P s < 64) (hm : ∀ s, s < n → m s < 8) (h2 : bk 2 = nI n) (hB : ∀ s, s < n → bk (260 + 2 * s) = nI (P s)) (hS : ∀ s, s < n → f_X10_mayOf bk (nI s) = some (nI (m s))) : ∃ my' row' fr', f_X10_lays bk mys row fr = some (nI (cC m P n 0 (fun _ => 0)), my', row', fr') ∧ (0 < cC m P n 0 (fun _ => 0) → ∀ s, s < n → fr' s = nI (grd m P n 0 (fun _ => 0) s)) := by
  obtain ⟨my, b1, b2, -⟩ := M_maysL hn hS n 0 (by omega) FU (FU_big (by omega)) mys
  unfold f_X10_lays
  rw [show gin (2 : Int32) 460 = true from by decide, chk_t, show (2 : Int32).toNatClampNeg = 2 from by decide, h2, nm_s, show f_X10_lays_L1 (nI n) bk FU mys 0 = some my from b1, bd1_s]
  by_cases c : n = 0
  · subst c
    rw [if_pos (show nI 0 = (0 : Int32) from rfl)]
    exact ⟨my, row, fr, rfl, fun _ s hs => by omega⟩
  · rw [if_neg (nI_ne0 (by omega) (by omega)), show gin (0 : Int32) 10 = true from by decide, chk_t, nm_s, cl_0]
    have hcC := tmv_le3 (m := m) (P := P) n 0 (fun _ => 0)
    have h3n : 3 ^ n ≤ 3 ^ 10 := Nat.pow_le_pow_right (by omega) hn
    have h310 : (3 : Nat) ^ 10 = 59049 := by decide
    have hBB : ∀ d, d ≤ 10 → BB d ≤ 200000 := by decide
    have hBn := hBB n hn
    obtain ⟨T, y', row', t1, t2, t3, t4, t5⟩ := dfs_all (my := my) hn hP hm hB (fun s hs => b2 s (Nat.zero_le _) hs) n 0 (by omega) (by omega) (fun _ => 0) (fun _ => 0) fr (upd row 0 (-1)) 0 (fun q w => ⟨fun _ => Nat.zero_le _, fun _ j hj => by omega⟩) (fun j hj => by omega) (by rw [upd_s]; rfl) (by omega)
    obtain ⟨fu, hfu⟩ : ∃ fu, FU = fu + 1 + T := ⟨FU - 1 - T, by unfold FU; omega⟩
    have e1 : f_X10_lays_L4 my bk (nI n) FU fr (upd row 0 (-1)) (nI 0) (nI 0) = some (y', row', nI (0 + cC m P n 0 (fun _ => 0))) := by
      rw [hfu, t2, if_pos rfl, f_X10_lays_L4, if_pos (by decide)]
    rw [show f_X10_lays_L4 my bk (nI n) FU fr (upd row 0 (-1)) 0 0 = _ from e1, bd3_s, Nat.zero_add]
    refine ⟨my, row', y', rfl, fun h s hs => ?_⟩
    rw [(t5 rfl h).2 s (Nat.zero_le _) hs, frow_grd n 0 _ h]
theorem q_laid : PP_laid INV := by
  intro xi xa mi ma hI p1
  obtain ⟨nc, nb, nd, nr, nf, ng, h1, h2, h3, h4, h5, h6, h7, h8, h9, h10, h11, h12⟩ := FB_now hI
  obtain ⟨⟨n1, n2, n3, n4, n5, n6⟩, k0, k1, k2, k3, k4, k5⟩ := h2
  obtain ⟨s1, s2, s3, s4, s5, s6⟩ := h3
  have hW : ∀ a b c : Nat → Int32, INV xi xa mi (va_up (va_up (va_up ma 7 a) 6 b) 8 c) := fun a b c => INV_wk hI (fun k _ => rfl) (fun k _ => rfl) rfl (fun k hk => by rw [va_up_ne _ _ (by omega), va_up_ne _ _ (by omega), va_up_ne _ _ (by omega)])
  have key : ∀ s : Nat, ∃ q, s < nd → (q < 8 ∧ f_X5_stagesOf (nI nd) 50 (xa 3) (xa 0) (xa 4) (nI s) = some (nI q) ∧ f_X10_mayOf (ma 0) (nI s) = some (nI q)) := fun s => by
    by_cases c : s < nd
    · obtain ⟨q, hq⟩ := may_ex n3 h4 h8 h7 c
      exact ⟨q, fun _ => hq⟩
    · exact ⟨0, fun z => absurd z c⟩
  obtain ⟨m, hm⟩ := Classical.axiomOfChoice key
  have hP : ∀ s, s < nd → (fun s => vN (ma 0 (260 + 2 * s))) s < 64 := fun s hs => (pl_eq (h7 s hs).2.2.1).2
  have hB : ∀ s, s < nd → ma 0 (260 + 2 * s) = nI ((fun s => vN (ma 0 (260 + 2 * s))) s) := fun s hs => (pl_eq (h7 s hs).2.2.1).1
  have hc : ∀ s, s < nd → xa 3 (5 * s) = nI ((fun s => vN (ma 0 (260 + 2 * s))) s) := fun s hs => by rw [(h7 s hs).1]; exact hB s hs
  have hX := X_rowsP n3 hc hP (fun s hs => (hm s hs).1) (fun s hs => (hm s hs).2.1)
  obtain ⟨my', row', fr', e1, e2⟩ := laysAll (ma 7) (ma 6) (ma 8) n3 hP (fun s hs => (hm s hs).1) k2 hB (fun s hs => (hm s hs).2.2)
  have hle := tmv_le3 (m := m) (P := fun s => vN (ma 0 (260 + 2 * s))) nd 0 (fun _ => 0)
  have h3n : 3 ^ nd ≤ 3 ^ 10 := Nat.pow_le_pow_right (by omega) n3
  have h310 : (3 : Nat) ^ 10 = 59049 := by decide
  unfold f_X9_laid f_X10_laid
  rw [s3]
  by_cases c : p1 = -1
  · rw [if_pos c, hX, bd1_s, if_pos c, e1, bd4_s, if_pos c]
    exact ⟨_, _, _, _, rfl, rfl, hW _ _ _⟩
  · rw [if_neg c, if_neg c]
    rcases rcR p1 nd (by omega) with ⟨s, hs, rfl⟩ | e
    · have hst := X_stageL (s := s) n3 hc hP (fun s hs => (hm s hs).1) (fun s hs => (hm s hs).2.1) hs s 0 (by omega) FU (FU_big (by omega)) (fun _ => 0) (by omega)
      rw [Nat.sub_zero] at hst
      unfold f_X5_stageInFirstRow
      rw [X_hasT hs (by omega), bd1_s, if_neg n10, hX, bd1_s, show f_X10_is (ma 0) (2 : Int32) (nI s) = some (nI 1) from M_is_t (k := 2) (by decide) k2 hs (by omega), bd1_s, if_neg n10, e1, bd4_s, if_neg c]
      by_cases z : cC m (fun s => vN (ma 0 (260 + 2 * s))) nd 0 (fun _ => 0) = 0
      · rw [z, if_pos (show nI 0 = (0 : Int32) from rfl), if_pos (show nI 0 = (0 : Int32) from rfl), bd1_s]
        exact ⟨_, _, _, _, rfl, rfl, hW _ _ _⟩
      · have nz : ¬ nI (cC m (fun s => vN (ma 0 (260 + 2 * s))) nd 0 (fun _ => 0)) = 0 := nI_ne0 (by omega) (by omega)
        rw [if_neg nz, if_neg nz, show f_X5_stageInFirstRow_L1 (nI s) (nI nd) 50 (xa 3) (xa 0) (xa 4) FU 0 0 = _ from hst, bd1_s, bd1_s, gin_n (by omega) (by decide), chk_t, cl_n (by omega), e2 (by omega) s hs]
        exact ⟨_, _, _, _, rfl, rfl, hW _ _ _⟩
    · rw [X_hasF (by omega) e, bd1_s, if_pos (by decide), show f_X10_is (ma 0) (2 : Int32) p1 = some (nI 0) from M_is_f (k := 2) (by decide) k2 e, bd1_s, if_pos (by decide)]
      exact ⟨_, _, _, _, rfl, rfl, hW _ _ _⟩
