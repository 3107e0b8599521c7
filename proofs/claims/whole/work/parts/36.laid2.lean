/-! ===== laid: the programs ===== -/
theorem and4 : ∀ m, m < 8 → decide ((nI m &&& 4) = 0) = !bt m 2 := by decide +kernel
theorem and2 : ∀ m, m < 8 → decide ((nI m &&& 2) = 0) = !bt m 1 := by decide +kernel
theorem and1 : ∀ m, m < 8 → decide ((nI m &&& 1) = 0) = !bt m 0 := by decide +kernel
theorem andN {b : Bool} {c : Prop} [Decidable c] (h : decide c = !b) : c ↔ b = false := by
  cases b
  · exact ⟨fun _ => rfl, fun _ => of_decide_eq_true h⟩
  · exact ⟨fun z => absurd z (of_decide_eq_false h), fun z => by cases z⟩
def tzI (m e : Nat) : Int32 := match f_J6_numberOfTrailingZeros_0f7a4 ((nI m >>> (nI e &&& 31)) <<< (nI e &&& 31)) with
  | some r => r
  | none => 0
theorem tz_1 : ∀ m, m < 8 → ∀ e, e < 3 → f_J6_numberOfTrailingZeros_0f7a4 ((nI m >>> (nI e &&& 31)) <<< (nI e &&& 31)) = some (tzI m e) := by decide +kernel
theorem tz_2 : ∀ m, m < 8 → ∀ e, e < 3 → (if tzI m e < 2 then tzI m e else 2) = nI (lv m e) := by decide +kernel
theorem lvv_lt (m l : Nat) : lv m l < 3 := by
  unfold lv
  by_cases c : l ≤ 0 ∧ bt m 0 = true
  · rw [if_pos c]; omega
  · rw [if_neg c]
    by_cases c : l ≤ 1 ∧ bt m 1 = true
    · rw [if_pos c]; omega
    · rw [if_neg c]; omega
section LAID
variable {n : Nat} {P m : Nat → Nat} {sc su nu bk : Nat → Int32}
theorem X_one (hn : n ≤ 10) (hc : ∀ s, s < n → sc (5 * s) = nI (P s)) (hP : ∀ s, s < n → P s < 64) {a b : Nat} (ha : a < n) (hb : b < n) : f_X5_areAtOnePlace (nI n) 50 sc (nI a) (nI b) = some (if P a = P b then 1 else 0) := by
  have h1 := hP a ha
  have h2 := hP b hb
  unfold f_X5_areAtOnePlace
  rw [show (0 : Int32) = nI 0 from rfl, X_cell (c := 0) ha (by omega) (by omega) (by omega) (by omega), X_cell (c := 0) hb (by omega) (by omega) (by omega) (by omega), bd1_s, bd1_s, Nat.add_zero (5 * a), Nat.add_zero (5 * b), hc a ha, hc b hb]
  by_cases c : P a = P b
  · rw [if_pos c, if_pos (by rw [c])]
  · rw [if_neg c, if_neg (fun z => c ((nI_eq (by omega) (by omega)).mp z))]
theorem X_firstL (hn : n ≤ 10) (hc : ∀ s, s < n → sc (5 * s) = nI (P s)) (hP : ∀ s, s < n → P s < 64) {i : Nat} (hi : i < n) : ∀ k o, o + k = i → (∀ j, j < o → P j ≠ P i) → ∀ fu, k < fu → f_X5_isFirstAtItsPlace_L1 (nI i) (nI n) 50 sc fu (nI o) = some (if ap P (P i) i = true then 0 else 1) := by
  intro k
  induction k with
  | zero =>
    intro o ho hj fu hfu
    obtain ⟨fu, rfl⟩ : ∃ n, fu = n + 1 := ⟨fu - 1, by omega⟩
    obtain rfl : o = i := by omega
    have e : ¬ ap P (P o) o = true := fun z => by
      obtain ⟨j, j1, j2⟩ := (ap_t o).mp z
      exact hj j j1 j2
    unfold f_X5_isFirstAtItsPlace_L1
    rw [if_pos (Int32.le_refl _), if_neg e]
  | succ k ih =>
    intro o ho hj fu hfu
    obtain ⟨fu, rfl⟩ : ∃ n, fu = n + 1 := ⟨fu - 1, by omega⟩
    unfold f_X5_isFirstAtItsPlace_L1
    rw [if_neg (nI_ge (by omega) (by omega)), X_one hn hc hP (show o < n by omega) hi, bd1_s]
    by_cases c : P o = P i
    · rw [if_pos c, if_neg one0, if_pos ((ap_t i).mpr ⟨o, by omega, c⟩)]
    · rw [if_neg c, if_pos rfl, nI_1]
      refine ih (o + 1) (by omega) (fun j hj2 => ?_) fu (by omega)
      by_cases z : j = o
      · subst z; exact c
      · exact hj j (by omega)
theorem X_first (hn : n ≤ 10) (hc : ∀ s, s < n → sc (5 * s) = nI (P s)) (hP : ∀ s, s < n → P s < 64) {i : Nat} (hi : i < n) : f_X5_isFirstAtItsPlace (nI n) 50 sc (nI i) = some (if ap P (P i) i = true then 0 else 1) := by
  unfold f_X5_isFirstAtItsPlace
  rw [show f_X5_isFirstAtItsPlace_L1 (nI i) (nI n) 50 sc FU 0 = _ from X_firstL hn hc hP hi i 0 (by omega) (fun j hj => by omega) FU (FU_big (by omega)), bd1_s]
  by_cases c : ap P (P i) i = true
  · rw [if_pos c, if_pos c, if_pos rfl]
  · rw [if_neg c, if_neg c, if_neg (by decide)]
theorem X_placeL (hn : n ≤ 10) (hc : ∀ s, s < n → sc (5 * s) = nI (P s)) (hP : ∀ s, s < n → P s < 64) (hm : ∀ s, s < n → m s < 8) (hS : ∀ s, s < n → f_X5_stagesOf (nI n) 50 sc su nu (nI s) = some (nI (m s))) {s : Nat} (hs : s < n) : ∀ d a, a + d = n → ∀ fu, d < fu → ∀ e0 e1 e2 : Nat, ∃ r0 r1 r2, f_X5_rowsAtPlaceOf_L1 (nI n) 50 sc (nI s) su nu fu (nI e0) (nI e1) (nI e2) (nI a) = some (nI r0, nI r1, nI r2) ∧ r0 + r1 + r2 = e0 * dD m P (P s) d a 0 + e1 * dD m P (P s) d a 1 + e2 * dD m P (P s) d a 2 := by
  intro d
  induction d with
  | zero =>
    intro a ha fu hfu e0 e1 e2
    obtain ⟨fu, rfl⟩ : ∃ n, fu = n + 1 := ⟨fu - 1, by omega⟩
    obtain rfl : a = n := by omega
    refine ⟨e0, e1, e2, ?_, ?_⟩
    · unfold f_X5_rowsAtPlaceOf_L1 f_X4_size
      rw [bd1_s, if_pos (Int32.le_refl _)]
    · show _ = e0 * 1 + e1 * 1 + e2 * 1
      omega
  | succ d ih =>
    intro a ha fu hfu e0 e1 e2
    obtain ⟨fu, rfl⟩ : ∃ n, fu = n + 1 := ⟨fu - 1, by omega⟩
    have han : a < n := by omega
    by_cases c : P s = P a
    · have hD : ∀ l, dD m P (P s) (d + 1) a l = (if bt (m a) 0 = true ∧ l ≤ 0 then dD m P (P s) d (a + 1) 0 else 0) + (if bt (m a) 1 = true ∧ l ≤ 1 then dD m P (P s) d (a + 1) 1 else 0) + (if bt (m a) 2 = true ∧ l ≤ 2 then dD m P (P s) d (a + 1) 2 else 0) := fun l => if_pos c.symm
      obtain ⟨r0, r1, r2, b1, b2⟩ := ih (a + 1) (by omega) fu (by omega) (if bt (m a) 0 = true then e0 else 0) (if bt (m a) 1 = true then e0 + e1 else 0) (if bt (m a) 2 = true then e0 + e1 + e2 else 0)
      refine ⟨r0, r1, r2, ?_, ?_⟩
      · unfold f_X5_rowsAtPlaceOf_L1 f_X4_size
        rw [bd1_s, if_neg (nI_ge (by omega) (by omega)), X_one hn hc hP hs han, bd1_s, if_pos c, if_neg one0, hS a han, bd1_s, nI_add, nI_add]
        have t4 := andN (and4 (m a) (hm a han))
        have t2 := andN (and2 (m a) (hm a han))
        have t1 := andN (and1 (m a) (hm a han))
        have x2 : (if (nI (m a) &&& 4) = 0 then some (0 : Int32) else some (nI (e0 + e1 + e2))) = some (nI (if bt (m a) 2 = true then e0 + e1 + e2 else 0)) := by
          by_cases z : bt (m a) 2 = true
          · rw [if_pos z, if_neg (fun w => by rw [t4.mp w] at z; cases z)]
          · rw [if_neg z, if_pos (t4.mpr (by simpa using z))]; rfl
        have x1 : (if (nI (m a) &&& 2) = 0 then some (0 : Int32) else some (nI (e0 + e1))) = some (nI (if bt (m a) 1 = true then e0 + e1 else 0)) := by
          by_cases z : bt (m a) 1 = true
          · rw [if_pos z, if_neg (fun w => by rw [t2.mp w] at z; cases z)]
          · rw [if_neg z, if_pos (t2.mpr (by simpa using z))]; rfl
        rw [x2, bd1_s, x1, bd1_s, nI_1]
        by_cases z : bt (m a) 0 = true
        · rw [if_pos z] at b1
          rw [if_neg (fun w => by rw [t1.mp w] at z; cases z)]
          exact b1
        · rw [if_neg z] at b1
          rw [if_pos (t1.mpr (by simpa using z))]
          exact b1
      · rw [b2, hD, hD, hD]
        by_cases z0 : bt (m a) 0 = true
        all_goals by_cases z1 : bt (m a) 1 = true
        all_goals by_cases z2 : bt (m a) 2 = true
        all_goals simp [z0, z1, z2, Nat.mul_add, Nat.add_mul]
        all_goals omega
    · have hD : ∀ l, dD m P (P s) (d + 1) a l = dD m P (P s) d (a + 1) l := fun l => if_neg (fun z => c z.symm)
      obtain ⟨r0, r1, r2, b1, b2⟩ := ih (a + 1) (by omega) fu (by omega) e0 e1 e2
      refine ⟨r0, r1, r2, ?_, by rw [b2, hD, hD, hD]⟩
      unfold f_X5_rowsAtPlaceOf_L1 f_X4_size
      rw [bd1_s, if_neg (nI_ge (by omega) (by omega)), X_one hn hc hP hs han, bd1_s, if_neg c, if_pos rfl, nI_1]
      exact b1
theorem X_place (hn : n ≤ 10) (hc : ∀ s, s < n → sc (5 * s) = nI (P s)) (hP : ∀ s, s < n → P s < 64) (hm : ∀ s, s < n → m s < 8) (hS : ∀ s, s < n → f_X5_stagesOf (nI n) 50 sc su nu (nI s) = some (nI (m s))) {s : Nat} (hs : s < n) : f_X5_rowsAtPlaceOf (nI n) 50 sc su nu (nI s) = some (nI (dD m P (P s) (n - s) s 0)) := by
  obtain ⟨r0, r1, r2, b1, b2⟩ := X_placeL hn hc hP hm hS hs (n - s) s (by omega) FU (FU_big (by omega)) 1 0 0
  unfold f_X5_rowsAtPlaceOf
  rw [show f_X5_rowsAtPlaceOf_L1 (nI n) 50 sc (nI s) su nu FU 1 0 0 (nI s) = _ from b1, bd3_s, nI_add, nI_add, b2]
  simp
theorem X_rowsPL (hn : n ≤ 10) (hc : ∀ s, s < n → sc (5 * s) = nI (P s)) (hP : ∀ s, s < n → P s < 64) (hm : ∀ s, s < n → m s < 8) (hS : ∀ s, s < n → f_X5_stagesOf (nI n) 50 sc su nu (nI s) = some (nI (m s))) : ∀ k i, i + k = n → ∀ fu, k < fu → f_X5_rows_L1 (nI n) 50 sc su nu fu (nI (RR m P n i)) (nI i) = some (nI (RR m P n n)) := by
  intro k
  induction k with
  | zero =>
    intro i hi fu hfu
    obtain ⟨fu, rfl⟩ : ∃ n, fu = n + 1 := ⟨fu - 1, by omega⟩
    obtain rfl : i = n := by omega
    unfold f_X5_rows_L1 f_X4_size
    rw [bd1_s, if_pos (Int32.le_refl _)]
  | succ k ih =>
    intro i hi fu hfu
    obtain ⟨fu, rfl⟩ : ∃ n, fu = n + 1 := ⟨fu - 1, by omega⟩
    have h1 := ih (i + 1) (by omega) fu (by omega)
    rw [RR_s (show i < n by omega) (hP i (by omega))] at h1
    unfold f_X5_rows_L1 f_X4_size
    rw [bd1_s, if_neg (nI_ge (by omega) (by omega)), X_first hn hc hP (show i < n by omega), bd1_s, nI_1]
    by_cases c : ap P (P i) i = true
    · rw [if_pos c] at h1
      rw [if_pos c, if_pos rfl]
      exact h1
    · rw [if_neg c] at h1
      rw [if_neg c, if_neg one0, X_place hn hc hP hm hS (show i < n by omega), bd1_s, pk_mul, nm_s]
      exact h1
theorem X_rowsP (hn : n ≤ 10) (hc : ∀ s, s < n → sc (5 * s) = nI (P s)) (hP : ∀ s, s < n → P s < 64) (hm : ∀ s, s < n → m s < 8) (hS : ∀ s, s < n → f_X5_stagesOf (nI n) 50 sc su nu (nI s) = some (nI (m s))) : f_X5_rows (nI n) 50 sc su nu = some (nI (cC m P n 0 (fun _ => 0))) := by
  have h1 := X_rowsPL hn hc hP hm hS n 0 (by omega) FU (FU_big (by omega))
  rw [RR_0, RR_n hP] at h1
  unfold f_X5_rows
  rw [show f_X5_rows_L1 (nI n) 50 sc su nu FU 1 0 = _ from h1, bd1_s]
theorem X_stageL (hn : n ≤ 10) (hc : ∀ s, s < n → sc (5 * s) = nI (P s)) (hP : ∀ s, s < n → P s < 64) (hm : ∀ s, s < n → m s < 8) (hS : ∀ s, s < n → f_X5_stagesOf (nI n) 50 sc su nu (nI s) = some (nI (m s))) {s : Nat} (hs : s < n) : ∀ k a, a + k = s → ∀ fu, k + 1 < fu → ∀ lo : Nat → Nat, lo (P s) < 3 → f_X5_stageInFirstRow_L1 (nI s) (nI n) 50 sc su nu fu (nI (lo (P s))) (nI a) = some (nI (grd m P (n - a) a lo s)) := by
  intro k
  induction k with
  | zero =>
    intro a ha fu hfu lo hlo
    obtain ⟨fu, rfl⟩ : ∃ n, fu = n + 2 := ⟨fu - 2, by omega⟩
    obtain rfl : a = s := by omega
    obtain ⟨d, hd⟩ : ∃ d, n - a = d + 1 := ⟨n - a - 1, by omega⟩
    rw [hd]
    unfold f_X5_stageInFirstRow_L1 grd
    rw [if_neg Int32.lt_irrefl, X_one hn hc hP hs hs, bd1_s, if_pos rfl, if_neg one0, hS a hs, bd1_s, nm_s, tz_1 _ (hm a hs) _ hlo, bd1_s, tz_2 _ (hm a hs) _ hlo, nm_s, if_pos rfl, nI_1]
    unfold f_X5_stageInFirstRow_L1
    rw [if_pos (nI_lt (by omega) (by omega))]
  | succ k ih =>
    intro a ha fu hfu lo hlo
    obtain ⟨fu, rfl⟩ : ∃ n, fu = n + 1 := ⟨fu - 1, by omega⟩
    obtain ⟨d, hd⟩ : ∃ d, n - a = d + 1 := ⟨n - a - 1, by omega⟩
    rw [hd]
    unfold f_X5_stageInFirstRow_L1 grd
    rw [if_neg (nI_nlt (by omega) (by omega)), X_one hn hc hP (show a < n by omega) hs, bd1_s, if_neg (show ¬ s = a by omega), nI_1]
    have h1 := ih (a + 1) (by omega) fu (by omega) (va_up lo (P a) (lv (m a) (lo (P a))))
    rw [show n - (a + 1) = d by omega] at h1
    by_cases c : P a = P s
    · rw [if_pos c, if_neg one0, hS a (by omega), bd1_s, nm_s, tz_1 _ (hm a (by omega)) _ hlo, bd1_s, tz_2 _ (hm a (by omega)) _ hlo, nm_s]
      have h2 := h1 (by rw [c, va_up_self]; exact lvv_lt _ _)
      rw [c] at h2 ⊢
      rw [va_up_self] at h2
      exact h2
    · rw [if_neg c, if_pos rfl]
      have h2 := h1 (by rw [va_up_ne _ _ (fun z => c z.symm)]; exact hlo)
      rw [va_up_ne _ _ (fun z => c z.symm)] at h2
      exact h2
/-! the reference's search -/
theorem M_maysL (hn : n ≤ 10) (hS : ∀ s, s < n → f_X10_mayOf bk (nI s) = some (nI (m s))) : ∀ k i, i + k = n → ∀ fu, k < fu → ∀ y : Nat → Int32, ∃ y', f_X10_lays_L1 (nI n) bk fu y (nI i) = some y' ∧ (∀ s, i ≤ s → s < n → y' s = nI (m s)) ∧ ∀ s, s < i → y' s = y s := by
  intro k
  induction k with
  | zero =>
    intro i hi fu hfu y
    obtain ⟨fu, rfl⟩ : ∃ n, fu = n + 1 := ⟨fu - 1, by omega⟩
    obtain rfl : i = n := by omega
    refine ⟨y, ?_, fun s a b => by omega, fun _ _ => rfl⟩
    unfold f_X10_lays_L1
    rw [if_pos (Int32.le_refl _)]
  | succ k ih =>
    intro i hi fu hfu y
    obtain ⟨fu, rfl⟩ : ∃ n, fu = n + 1 := ⟨fu - 1, by omega⟩
    obtain ⟨y', b1, b2, b3⟩ := ih (i + 1) (by omega) fu (by omega) (upd y i (nI (m i)))
    refine ⟨y', ?_, fun s h1 h2 => ?_, fun s hs => by rw [b3 s (by omega), upd_n _ _ (by omega)]⟩
    · unfold f_X10_lays_L1
      rw [if_neg (nI_ge (by omega) (by omega)), hS i (by omega), bd1_s, gin_n (by omega) (by decide), chk_t, nm_s, cl_n (by omega), nI_1]
      exact b1
    · by_cases c : s = i
      · subst c; rw [b3 s (by omega), upd_s]
      · exact b2 s (by omega) h2
theorem bit_t : ∀ m, m < 8 → ∀ v, v < 3 → (if ((nI m >>> (nI v &&& 31)) &&& 1) = 1 then some (1 : Int32) else some 0) = some (if bt m v = true then 1 else 0) := by decide +kernel
theorem isLaidL (hn : n ≤ 10) (hP : ∀ s, s < n → P s < 64) (hB : ∀ s, s < n → bk (260 + 2 * s) = nI (P s)) {a v : Nat} (ha : a < n) (hv : v < 3) {row : Nat → Int32} {rw' : Nat → Nat} (hr : ∀ j, j < a → row j = nI (rw' j) ∧ rw' j < 3) (hra : row a = nI v) : ∀ k o, o + k = a → ∀ fu, k < fu → ∃ r, f_X10_isLaid_L1 (nI a) bk row fu 1 (nI o) = some r ∧ ((r = 1 ∧ ∀ j, o ≤ j → j < a → P j = P a → rw' j ≤ v) ∨ (r = 0 ∧ ¬ ∀ j, o ≤ j → j < a → P j = P a → rw' j ≤ v)) := by
  intro k
  induction k with
  | zero =>
    intro o ho fu hfu
    obtain ⟨fu, rfl⟩ : ∃ n, fu = n + 1 := ⟨fu - 1, by omega⟩
    obtain rfl : o = a := by omega
    refine ⟨1, ?_, Or.inl ⟨rfl, fun j h1 h2 => by omega⟩⟩
    unfold f_X10_isLaid_L1
    rw [if_pos (Int32.le_refl _)]
  | succ k ih =>
    intro o ho fu hfu
    obtain ⟨fu, rfl⟩ : ∃ n, fu = n + 1 := ⟨fu - 1, by omega⟩
    have h1 := hP o (by omega)
    have h2 := hP a ha
    obtain ⟨q1, q2⟩ := hr o (by omega)
    have e1 : ∀ x, (260 : Int32) + 2 * nI x = nI (260 + 2 * x) := fun x => by simp (disch := omega) only [↓lm1, ln0, ln1, ln2, ln3, ln4, ln5, ln6, ln7, ln8, ln9, ln10, ln11, ln12, ln13, ln14, ln15, ln16, ln17, ln18, ln19, ln20, ln21, ln22, ln26, ln30, ln31, ln32, ln36, ln39, ln40, ln48, ln50, ln59, ln60, ln61, ln63, ln64, ln80, ln97, ln99, ln100, ln103, ln122, ln192, ln220, ln240, ln255, ln260, ln290, ln300, ln370, ln410, ln430, ln460, ln920, ln960, ln999, ln1000, ln2000, ln26880, ln1000000, ofNat_nI, nI_add, pk_mul, pk_sub, nI_leP, nI_ltP, nI_eqP, nI_clamp, gin_n, chk_t, nm_s, bd1_s, bd2_s, bd3_s, bd4_s, bI_n0, bI_1, chk_gz_bI, if_pos, if_neg, if_true, if_false, ite_some, nI_m1, m1_nI, m1_le, le_m1, m1_lt, lt_m1, m1_1, n_m1, n0_m1, m1_m1, not_true_eq_false, not_false_eq_true]
    obtain ⟨r, r1, r2⟩ := ih (o + 1) (by omega) fu (by omega)
    have ext : (P o = P a → rw' o ≤ v) → ((∀ j, o + 1 ≤ j → j < a → P j = P a → rw' j ≤ v) ↔ ∀ j, o ≤ j → j < a → P j = P a → rw' j ≤ v) := by
      intro h0
      constructor
      · intro h j h1 h2 h3
        by_cases z : j = o
        · subst z; exact h0 h3
        · exact h j (by omega) h2 h3
      · intro h j h1 h2 h3
        exact h j (by omega) h2 h3
    unfold f_X10_isLaid_L1
    rw [if_neg (nI_ge (by omega) (by omega)), if_neg one0, e1, e1, gin_n (by omega) (by decide), gin_n (by omega) (by decide), chk_t, chk_t, cl_n (by omega), cl_n (by omega), hB o (by omega), hB a ha, gin_n (by omega) (by decide), gin_n (by omega) (by decide), chk_t, chk_t, cl_n (by omega), cl_n (by omega), q1, hra, nI_1]
    by_cases c : P o = P a
    · rw [if_pos (by rw [c])]
      by_cases d : v < rw' o
      · rw [if_pos (nI_lt d (by omega))]
        obtain ⟨fu, rfl⟩ : ∃ n, fu = n + 1 := ⟨fu - 1, by omega⟩
        refine ⟨0, ?_, Or.inr ⟨rfl, fun h => by have := h o (by omega) (by omega) c; omega⟩⟩
        unfold f_X10_isLaid_L1
        by_cases z : nI a ≤ nI (o + 1)
        · rw [if_pos z]
        · rw [if_neg z, if_pos rfl]
      · rw [if_neg (nI_nlt (by omega) (by omega))]
        rw [ext (fun _ => by omega)] at r2
        exact ⟨r, r1, r2⟩
    · rw [if_neg (fun z => c ((nI_eq (by omega) (by omega)).mp z))]
      rw [ext (fun z => absurd z c)] at r2
      exact ⟨r, r1, r2⟩
theorem isLaid_r (hn : n ≤ 10) (hP : ∀ s, s < n → P s < 64) (hm : ∀ s, s < n → m s < 8) (hB : ∀ s, s < n → bk (260 + 2 * s) = nI (P s)) {a v : Nat} (ha : a < n) (hv : v < 3) {row my : Nat → Int32} {rw' lo : Nat → Nat} (hmy : my a = nI (m a)) (hr : ∀ j, j < a → row j = nI (rw' j) ∧ rw' j < 3) (hra : row a = nI v) (hlo : ∀ q w, (∀ j, j < a → P j = q → rw' j ≤ w) ↔ lo q ≤ w) : ∃ r, f_X10_isLaid my row bk (nI a) = some r ∧ ((r = 1 ∧ (bt (m a) v = true ∧ lo (P a) ≤ v)) ∨ (r = 0 ∧ ¬ (bt (m a) v = true ∧ lo (P a) ≤ v))) := by
  unfold f_X10_isLaid
  rw [gin_n (by omega) (by decide), chk_t, chk_t, cl_n (by omega), hmy, hra, bit_t _ (hm a ha) v hv, bd1_s]
  by_cases b : bt (m a) v = true
  · obtain ⟨r, r1, r2⟩ := isLaidL hn hP hB ha hv hr hra a 0 (by omega) FU (FU_big (by omega))
    rw [if_pos b, show f_X10_isLaid_L1 (nI a) bk row FU 1 0 = some r from r1, bd1_s]
    have hl := hlo (P a) v
    rcases r2 with ⟨h1, h2⟩ | ⟨h1, h2⟩
    · subst h1
      exact ⟨1, rfl, Or.inl ⟨rfl, b, hl.mp (fun j h3 h4 => h2 j (Nat.zero_le _) h3 h4)⟩⟩
    · subst h1
      exact ⟨0, rfl, Or.inr ⟨rfl, fun z => h2 (fun j _ h3 h4 => hl.mpr z.2 j h3 h4)⟩⟩
  · rw [if_neg b]
    have e : f_X10_isLaid_L1 (nI a) bk row FU 0 0 = some 0 := by
      unfold FU
      unfold f_X10_isLaid_L1
      by_cases z : nI a ≤ 0
      · rw [if_pos z]
      · rw [if_neg z, if_pos rfl]
    rw [e, bd1_s]
    exact ⟨0, rfl, Or.inr ⟨rfl, fun z => b z.1⟩⟩
end LAID
