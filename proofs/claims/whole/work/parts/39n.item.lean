/-! ===== texts: items ===== -/
def dueN (w : Nat) : Nat := vN (tb4 w)
theorem due_ok : ∀ w, w < 12 → dueN w ≤ 4 ∧ (if (4 : Int32) < tb4 w then (4 : Int32) else tb4 w) = nI (dueN w) ∧ f_X10_numbers (nI (10 + w)) = some (nI (dueN w)) := by decide +kernel
section IT
variable {n : Nat} {x m : Nat → Int32} {t : Nat → Nat}
def XE (n : Nat) (x : Nat → Int32) (p : Nat) : Prop := ∀ vv ww y, ∃ st v' e', f_X6_takeItem (nI n) vv (nI p) ww x y = some (0, st, v', e', ww, y)
def XF (n : Nat) (x : Nat → Int32) (p s : Nat) : Prop := ∀ vv ww y, ∃ v' e' w' y', f_X6_takeItem (nI n) vv (nI p) ww x y = some (-1, nI s, v', e', w', y')
def XI (n : Nat) (x : Nat → Int32) (p p' w : Nat) (v : Nat → Nat) : Prop := ∀ vv ww y, ∃ st v' y', f_X6_takeItem (nI n) vv (nI p) ww x y = some (1, st, v', nI p', nI w, y') ∧ ∀ j, j < dueN w → y' j = nI (v j)
def ME (n : Nat) (m : Nat → Int32) (p : Nat) : Prop := ∀ v0 a st tk v1, f_X10_scans (nI n) (nI p) v0 m = some (a, st, tk, v1) → tk = 0
def MF (n : Nat) (m : Nat → Int32) (p s : Nat) : Prop := ∀ K, K < 240 → ∀ v0 a st tk v1, f_X10_scans (nI n) (nI p) v0 m = some (a, st, tk, v1) → ∀ fu nums verbs, ∃ q nums' a' tk' v', f_X10_reads_L3 (nI n) m (fu + 1) nums verbs a st tk v1 (nI K) = some (q, nums', verbs, a', nI s, tk', v', nI K) ∧ (q = 0 ∨ q = 1 ∨ q = 2)
def MI (n : Nat) (m : Nat → Int32) (p p' w : Nat) (v : Nat → Nat) : Prop := ∀ K, K < 240 → ∀ v0 a st tk v1, f_X10_scans (nI n) (nI p) v0 m = some (a, st, tk, v1) → ∀ fu nums verbs, ∃ nums' a2 st2 tk2 v2 v3, f_X10_reads_L3 (nI n) m (fu + 1) nums verbs a st tk v1 (nI K) = f_X10_reads_L3 (nI n) m fu nums' (upd verbs K (nI (10 + w))) a2 st2 tk2 v2 (nI (K + 1)) ∧ f_X10_scans (nI n) (nI p') v3 m = some (a2, st2, tk2, v2) ∧ (∀ j, j < dueN w → nums' (4 * K + j) = nI (v j)) ∧ ∀ q, q < 4 * K → nums' q = nums q
theorem scans_some (h : TB n x m t) {p : Nat} (hp : p ≤ n) (v : Int32) : ∃ a st tk v1, f_X10_scans (nI n) (nI p) v m = some (a, st, tk, v1) := by
  obtain ⟨s, -, -, ht⟩ := tok h hp
  rcases ht with ⟨-, b⟩ | ⟨w, e, -, -, -, -, b⟩ | ⟨z, e, -, -, -, -, b⟩ | ⟨-, -, b⟩ | ⟨-, -, b⟩
  · exact ⟨_, _, _, _, b v⟩
  · exact ⟨_, _, _, _, b v⟩
  · exact ⟨_, _, _, _, b v⟩
  · exact ⟨_, _, _, _, b v⟩
  · obtain ⟨e', v', b'⟩ := b v
    exact ⟨_, _, _, _, b'⟩
/-- what is no number -/
theorem tok_nn {p s : Nat} (ht : TOK n x m p s) (hn : ¬ ∃ z e, z ≤ 9999 ∧ s < e ∧ e ≤ n ∧ (∀ v, f_X6_takeToken (nI n) v (nI p) x = some (2, nI s, nI z, nI e)) ∧ (∀ v, f_X10_scans (nI n) (nI p) v m = some (nI e, nI s, 2, nI z))) : (∀ v, ∃ k v' e', k ≠ 2 ∧ f_X6_takeToken (nI n) v (nI p) x = some (k, nI s, v', e')) ∧ ∀ v, ∃ a tk v1, tk ≠ 2 ∧ f_X10_scans (nI n) (nI p) v m = some (a, nI s, tk, v1) := by
  rcases ht with ⟨a, b⟩ | ⟨w, e, hw, -, -, a, b⟩ | h | ⟨-, a, b⟩ | ⟨-, a, b⟩
  · exact ⟨fun v => ⟨_, _, _, by decide, a v⟩, fun v => ⟨_, _, _, by decide, b v⟩⟩
  · exact ⟨fun v => ⟨_, _, _, by decide, a v⟩, fun v => ⟨_, _, _, fun z => by have := (nI_eq (b := 2) (by omega) (by decide)).mp z; omega, b v⟩⟩
  · exact absurd h hn
  · exact ⟨fun v => ⟨_, _, _, by decide, a v⟩, fun v => ⟨_, _, _, by decide, b v⟩⟩
  · exact ⟨fun v => by obtain ⟨v', e', q⟩ := a v; exact ⟨_, _, _, by decide, q⟩, fun v => by obtain ⟨e', v', q⟩ := b v; exact ⟨_, _, _, by decide, q⟩⟩
theorem tok_ns {p s : Nat} (ht : TOK n x m p s) (hn : ¬ (s < n ∧ (∀ v, f_X6_takeToken (nI n) v (nI p) x = some (3, nI s, v, nI (s + 1))) ∧ (∀ v, f_X10_scans (nI n) (nI p) v m = some (nI (s + 1), nI s, 3, v)))) : (∀ v, ∃ k v' e', k ≠ 3 ∧ f_X6_takeToken (nI n) v (nI p) x = some (k, nI s, v', e')) ∧ ∀ v, ∃ a tk v1, tk ≠ 3 ∧ f_X10_scans (nI n) (nI p) v m = some (a, nI s, tk, v1) := by
  rcases ht with ⟨a, b⟩ | ⟨w, e, hw, -, -, a, b⟩ | ⟨z, e, -, -, -, a, b⟩ | h | ⟨-, a, b⟩
  · exact ⟨fun v => ⟨_, _, _, by decide, a v⟩, fun v => ⟨_, _, _, by decide, b v⟩⟩
  · exact ⟨fun v => ⟨_, _, _, by decide, a v⟩, fun v => ⟨_, _, _, fun z => by have := (nI_eq (b := 3) (by omega) (by decide)).mp z; omega, b v⟩⟩
  · exact ⟨fun v => ⟨_, _, _, by decide, a v⟩, fun v => ⟨_, _, _, by decide, b v⟩⟩
  · exact absurd h hn
  · exact ⟨fun v => by obtain ⟨v', e', q⟩ := a v; exact ⟨_, _, _, by decide, q⟩, fun v => by obtain ⟨e', v', q⟩ := b v; exact ⟨_, _, _, by decide, q⟩⟩
theorem sc_inj {a st tk v1 a' st' tk' v1' : Int32} {o : Option (Int32 × Int32 × Int32 × Int32)} (h : o = some (a, st, tk, v1)) (h' : o = some (a', st', tk', v1')) : a = a' ∧ st = st' ∧ tk = tk' ∧ v1 = v1' := by
  rw [h] at h'
  cases h'
  exact ⟨rfl, rfl, rfl, rfl⟩
theorem numsL (h : TB n x m t) {w : Nat} (hw : w < 12) : ∀ k i, i + k = dueN w → ∀ p, p ≤ n →
    (∃ (p' : Nat) (v : Nat → Nat), p ≤ p' ∧ p' ≤ n ∧ (∀ j, v j ≤ 9999) ∧ (∀ fu, k < fu → ∀ y st val, ∃ y' st' val', f_X6_takeItem_L1 (nI (dueN w)) (nI n) x fu y st val (nI p) (nI i) = some (1, y', st', val', nI p') ∧ (∀ j, i ≤ j → j < dueN w → y' j = nI (v j)) ∧ ∀ j, j < i → y' j = y j) ∧
      (∀ K, K < 240 → ∀ fu, k < fu → ∀ v0 a st tk v1, f_X10_scans (nI n) (nI p) v0 m = some (a, st, tk, v1) → ∀ nums, ∃ nums' a2 st2 tk2 v2 v3, f_X10_reads_L4 (nI (10 + w)) (nI K) (nI n) m fu nums a st tk v1 (nI i) = some (1, nums', a2, st2, tk2, v2) ∧ f_X10_scans (nI n) (nI p') v3 m = some (a2, st2, tk2, v2) ∧ (∀ j, i ≤ j → j < dueN w → nums' (4 * K + j) = nI (v j)) ∧ ∀ q, q < 4 * K + i → nums' q = nums q)) ∨
    (∃ s, s ≤ n ∧ (∀ fu, k < fu → ∀ y st val, ∃ y' val' e', f_X6_takeItem_L1 (nI (dueN w)) (nI n) x fu y st val (nI p) (nI i) = some (0, y', nI s, val', e')) ∧
      (∀ K, K < 240 → ∀ fu, k < fu → ∀ v0 a st tk v1, f_X10_scans (nI n) (nI p) v0 m = some (a, st, tk, v1) → ∀ nums, ∃ nums' a' tk' v', f_X10_reads_L4 (nI (10 + w)) (nI K) (nI n) m fu nums a st tk v1 (nI i) = some (0, nums', a', nI s, tk', v'))) := by
  have hn := h.1
  obtain ⟨d1, d2, d3⟩ := due_ok w hw
  intro k
  induction k with
  | zero =>
    intro i hi p hp
    refine Or.inl ⟨p, fun _ => 0, Nat.le_refl _, hp, fun _ => Nat.zero_le _, fun fu hfu y st val => ?_, fun K hK fu hfu v0 a st tk v1 hs nums => ?_⟩
    · obtain ⟨fu, rfl⟩ : ∃ n, fu = n + 1 := ⟨fu - 1, by omega⟩
      refine ⟨y, st, val, ?_, fun j a b => by omega, fun _ _ => rfl⟩
      unfold f_X6_takeItem_L1
      rw [if_pos (nI_le (by omega) (by omega))]
    · obtain ⟨fu, rfl⟩ : ∃ n, fu = n + 1 := ⟨fu - 1, by omega⟩
      refine ⟨nums, a, st, tk, v1, v0, ?_, hs, fun j a b => by omega, fun _ _ => rfl⟩
      unfold f_X10_reads_L4
      rw [d3, bd1_s, if_pos (nI_le (by omega) (by omega))]
  | succ k ih =>
    intro i hi p hp
    obtain ⟨s, s1, s2, ht⟩ := tok h hp
    by_cases cN : ∃ z e, z ≤ 9999 ∧ s < e ∧ e ≤ n ∧ (∀ v, f_X6_takeToken (nI n) v (nI p) x = some (2, nI s, nI z, nI e)) ∧ (∀ v, f_X10_scans (nI n) (nI p) v m = some (nI e, nI s, 2, nI z))
    · obtain ⟨z, e, z1, z2, z3, zx, zm⟩ := cN
      rcases ih (i + 1) (by omega) e z3 with ⟨p', v, b1, b2, b3, bx, bm⟩ | ⟨s', sn', bx, bm⟩
      · refine Or.inl ⟨p', va_up v i z, by omega, b2, fun j => ?_, fun fu hfu y st val => ?_, fun K hK fu hfu v0 a st tk v1 hs nums => ?_⟩
        · by_cases c : j = i
          · rw [c, va_up_self]; exact z1
          · rw [va_up_ne _ _ c]; exact b3 j
        · obtain ⟨fu, rfl⟩ : ∃ n, fu = n + 1 := ⟨fu - 1, by omega⟩
          obtain ⟨y', st', val', c1, c2, c3⟩ := bx fu (by omega) (upd y i (nI z)) (nI s) (nI z)
          refine ⟨y', st', val', ?_, fun j j1 j2 => ?_, fun j hj => by rw [c3 j (by omega), upd_n _ _ (by omega)]⟩
          · unfold f_X6_takeItem_L1
            rw [if_neg (nI_ge (by omega) (by omega)), zx val, bd4_s, if_pos rfl, gin_n (by omega) (by decide), chk_t, nm_s, cl_n (by omega), nI_1]
            exact c1
          · by_cases c : j = i
            · subst c; rw [va_up_self, c3 j (by omega), upd_s]
            · rw [va_up_ne _ _ c]; exact c2 j (by omega) j2
        · obtain ⟨fu, rfl⟩ : ∃ n, fu = n + 1 := ⟨fu - 1, by omega⟩
          obtain ⟨rfl, rfl, rfl, rfl⟩ := sc_inj hs (zm v0)
          obtain ⟨a', st', tk', v1', q⟩ := scans_some h z3 (nI z)
          obtain ⟨nums', a2, st2, tk2, v2, v3, c1, c2, c3, c4⟩ := bm K hK fu (by omega) (nI z) a' st' tk' v1' q (upd nums (4 * K + i) (nI z))
          refine ⟨nums', a2, st2, tk2, v2, v3, ?_, c2, fun j j1 j2 => ?_, fun r hr => by rw [c4 r (by omega), upd_n _ _ (by omega)]⟩
          · unfold f_X10_reads_L4
            rw [d3, bd1_s, if_neg (nI_ge (by omega) (by omega)), if_pos rfl, show (4 : Int32) * nI K + nI i = nI (4 * K + i) from by simp (disch := omega) only [↓lm1, ln0, ln1, ln2, ln3, ln4, ln5, ln6, ln7, ln8, ln9, ln10, ln11, ln12, ln13, ln14, ln15, ln16, ln17, ln18, ln19, ln20, ln21, ln22, ln26, ln30, ln31, ln32, ln36, ln39, ln40, ln48, ln50, ln59, ln60, ln61, ln63, ln64, ln80, ln97, ln99, ln100, ln103, ln122, ln192, ln220, ln240, ln255, ln260, ln290, ln300, ln370, ln410, ln430, ln460, ln920, ln960, ln999, ln1000, ln2000, ln26880, ln1000000, ofNat_nI, nI_add, pk_mul, pk_sub, nI_leP, nI_ltP, nI_eqP, nI_clamp, gin_n, chk_t, nm_s, bd1_s, bd2_s, bd3_s, bd4_s, bI_n0, bI_1, chk_gz_bI, if_pos, if_neg, if_true, if_false, ite_some, nI_m1, m1_nI, m1_le, le_m1, m1_lt, lt_m1, m1_1, n_m1, n0_m1, m1_m1, not_true_eq_false, not_false_eq_true], gin_n (by omega) (by decide), chk_t, nm_s, cl_n (by omega), q, bd4_s, nI_1]
            exact c1
          · by_cases c : j = i
            · subst c; rw [va_up_self, c4 _ (by omega), upd_s]
            · rw [va_up_ne _ _ c]; exact c3 j (by omega) j2
      · refine Or.inr ⟨s', sn', fun fu hfu y st val => ?_, fun K hK fu hfu v0 a st tk v1 hs nums => ?_⟩
        · obtain ⟨fu, rfl⟩ : ∃ n, fu = n + 1 := ⟨fu - 1, by omega⟩
          obtain ⟨y', val', e', c1⟩ := bx fu (by omega) (upd y i (nI z)) (nI s) (nI z)
          refine ⟨y', val', e', ?_⟩
          unfold f_X6_takeItem_L1
          rw [if_neg (nI_ge (by omega) (by omega)), zx val, bd4_s, if_pos rfl, gin_n (by omega) (by decide), chk_t, nm_s, cl_n (by omega), nI_1]
          exact c1
        · obtain ⟨fu, rfl⟩ : ∃ n, fu = n + 1 := ⟨fu - 1, by omega⟩
          obtain ⟨rfl, rfl, rfl, rfl⟩ := sc_inj hs (zm v0)
          obtain ⟨a', st', tk', v1', q⟩ := scans_some h z3 (nI z)
          obtain ⟨nums', a2, tk2, v2, c1⟩ := bm K hK fu (by omega) (nI z) a' st' tk' v1' q (upd nums (4 * K + i) (nI z))
          refine ⟨nums', a2, tk2, v2, ?_⟩
          unfold f_X10_reads_L4
          rw [d3, bd1_s, if_neg (nI_ge (by omega) (by omega)), if_pos rfl, show (4 : Int32) * nI K + nI i = nI (4 * K + i) from by simp (disch := omega) only [↓lm1, ln0, ln1, ln2, ln3, ln4, ln5, ln6, ln7, ln8, ln9, ln10, ln11, ln12, ln13, ln14, ln15, ln16, ln17, ln18, ln19, ln20, ln21, ln22, ln26, ln30, ln31, ln32, ln36, ln39, ln40, ln48, ln50, ln59, ln60, ln61, ln63, ln64, ln80, ln97, ln99, ln100, ln103, ln122, ln192, ln220, ln240, ln255, ln260, ln290, ln300, ln370, ln410, ln430, ln460, ln920, ln960, ln999, ln1000, ln2000, ln26880, ln1000000, ofNat_nI, nI_add, pk_mul, pk_sub, nI_leP, nI_ltP, nI_eqP, nI_clamp, gin_n, chk_t, nm_s, bd1_s, bd2_s, bd3_s, bd4_s, bI_n0, bI_1, chk_gz_bI, if_pos, if_neg, if_true, if_false, ite_some, nI_m1, m1_nI, m1_le, le_m1, m1_lt, lt_m1, m1_1, n_m1, n0_m1, m1_m1, not_true_eq_false, not_false_eq_true], gin_n (by omega) (by decide), chk_t, nm_s, cl_n (by omega), q, bd4_s, nI_1]
          exact c1
    · obtain ⟨nx, nm'⟩ := tok_nn ht cN
      refine Or.inr ⟨s, s2, fun fu hfu y st val => ?_, fun K hK fu hfu v0 a st tk v1 hs nums => ?_⟩
      · obtain ⟨fu, rfl⟩ : ∃ n, fu = n + 1 := ⟨fu - 1, by omega⟩
        obtain ⟨k', v', e', k2, q⟩ := nx val
        refine ⟨y, v', e', ?_⟩
        unfold f_X6_takeItem_L1
        rw [if_neg (nI_ge (by omega) (by omega)), q, bd4_s, if_neg k2]
      · obtain ⟨fu, rfl⟩ : ∃ n, fu = n + 1 := ⟨fu - 1, by omega⟩
        obtain ⟨a', tk', v', k2, q⟩ := nm' v0
        obtain ⟨rfl, rfl, rfl, rfl⟩ := sc_inj hs q
        refine ⟨nums, a, tk, v1, ?_⟩
        unfold f_X10_reads_L4
        rw [d3, bd1_s, if_neg (nI_ge (by omega) (by omega)), if_neg k2]
theorem item (h : TB n x m t) {p : Nat} (hp : p ≤ n) : (XE n x p ∧ ME n m p) ∨ (∃ s, p < n ∧ s ≤ n ∧ XF n x p s ∧ MF n m p s) ∨ ∃ p' w v, w < 12 ∧ p < p' ∧ p' ≤ n ∧ p < n ∧ (∀ j, v j ≤ 9999) ∧ XI n x p p' w v ∧ MI n m p p' w v := by
  have hn := h.1
  obtain ⟨s, s1, s2, ht⟩ := tok h hp
  rcases ht with ⟨a, b⟩ | ⟨w, e, hw, se, en, a, b⟩ | ⟨z, e, -, sz, ez, a, b⟩ | ⟨sn, a, b⟩ | ⟨sn, a, b⟩
  · refine Or.inl ⟨fun vv ww y => ⟨nI s, vv, nI s, ?_⟩, fun v0 a' st tk v1 hs => (sc_inj hs (b v0)).2.2.1⟩
    unfold f_X6_takeItem
    rw [a vv, bd4_s, if_pos rfl]
  · obtain ⟨d1, d2, d3⟩ := due_ok w hw
    have xpre : ∀ vv ww y, f_X6_takeItem (nI n) vv (nI p) ww x y = bd5 (f_X6_takeItem_L1 (nI (dueN w)) (nI n) x FU y (nI s) (nI w) (nI e) (0 : Int32)) (fun q32 y28 x29 x30 x31 => if q32 = 0 then (some ((-1 : Int32), x29, x30, x31, nI w, y28)) else (bd4 (f_X6_takeToken (nI n) x30 x31 x) (fun r53 x54 x55 x56 => if r53 = (3 : Int32) then (some ((1 : Int32), x54, x55, x56, nI w, y28)) else (some ((-1 : Int32), x54, x55, x56, nI w, y28))))) := by
      intro vv ww y
      unfold f_X6_takeItem
      rw [a vv, bd4_s, if_neg one0, if_pos rfl, if_neg (nI_pos (by omega)), if_pos (show nI w < (12 : Int32) from nI_lt (b := 12) hw (by decide)), gin_n hw (by decide), chk_t, cl_n (by omega), d2, nm_s]
    have mpre : ∀ K, K < 240 → ∀ v0 a' st tk v1, f_X10_scans (nI n) (nI p) v0 m = some (a', st, tk, v1) → ∀ fu nums verbs, ∃ a2 st2 tk2 v2 v3, f_X10_scans (nI n) (nI e) v3 m = some (a2, st2, tk2, v2) ∧ f_X10_reads_L3 (nI n) m (fu + 1) nums verbs a' st tk v1 (nI K) = (bd6 (f_X10_reads_L4 (nI (10 + w)) (nI K) (nI n) m FU nums a2 st2 tk2 v2 (0 : Int32)) (fun q129 y124 x125 x126 x127 x128 => if q129 = 0 then (some (1, y124, verbs, x125, x126, x127, x128, nI K)) else (if x127 = (3 : Int32) then (chk (gin (nI K) 240) (nm (upd verbs (nI K).toNatClampNeg (nI (10 + w))) (fun y155 => nm (nI K + (1 : Int32)) (fun x157 => bd4 (f_X10_scans (nI n) x125 x128 m) (fun x159 x160 x161 x162 => f_X10_reads_L3 (nI n) m fu y124 y155 x159 x160 x161 x162 x157))))) else (some (2, y124, verbs, x125, x126, x127, x128, nI K))))) := by
      intro K hK v0 a' st tk v1 hs fu nums verbs
      obtain ⟨rfl, rfl, rfl, rfl⟩ := sc_inj hs (b v0)
      obtain ⟨a2, st2, tk2, v2, q⟩ := scans_some h en v1
      refine ⟨a2, st2, tk2, v2, v1, q, ?_⟩
      conv => lhs; unfold f_X10_reads_L3
      rw [if_neg (nI_ne0 (by omega) (by omega)), if_pos (show (10 : Int32) ≤ nI (10 + w) from nI_le (a := 10) (by omega) (by omega)), q, bd4_s]
    rcases numsL h hw (dueN w) 0 (by omega) e en with ⟨p2, v, b1, b2, b3, bx, bm⟩ | ⟨s', sn', bx, bm⟩
    · obtain ⟨s3, t1, t2, ht⟩ := tok h b2
      by_cases cS : s3 < n ∧ (∀ v, f_X6_takeToken (nI n) v (nI p2) x = some (3, nI s3, v, nI (s3 + 1))) ∧ (∀ v, f_X10_scans (nI n) (nI p2) v m = some (nI (s3 + 1), nI s3, 3, v))
      · obtain ⟨c1, cx, cm⟩ := cS
        refine Or.inr (Or.inr ⟨s3 + 1, w, v, hw, by omega, by omega, by omega, b3, fun vv ww y => ?_, fun K hK v0 a' st tk v1 hs fu nums verbs => ?_⟩)
        · obtain ⟨y', st', val', e1, e2, -⟩ := bx FU (FU_big (by omega)) y (nI s) (nI w)
          have e1' : f_X6_takeItem_L1 (nI (dueN w)) (nI n) x FU y (nI s) (nI w) (nI e) 0 = some (1, y', st', val', nI p2) := e1
          refine ⟨nI s3, val', y', ?_, fun j hj => e2 j (Nat.zero_le _) hj⟩
          rw [xpre, e1', bd5_s, if_neg (by decide), cx val', bd4_s, if_pos rfl]
        · obtain ⟨a2, st2, tk2, v2, v3, q1, q2⟩ := mpre K hK v0 a' st tk v1 hs fu nums verbs
          obtain ⟨nums', a3, st3, tk3, v4, v5, e1, e2, e3, e4⟩ := bm K hK FU (FU_big (by omega)) v3 a2 st2 tk2 v2 q1 nums
          have e1' : f_X10_reads_L4 (nI (10 + w)) (nI K) (nI n) m FU nums a2 st2 tk2 v2 0 = some (1, nums', a3, st3, tk3, v4) := e1
          obtain ⟨rfl, rfl, rfl, rfl⟩ := sc_inj e2 (cm v5)
          obtain ⟨a5, st5, tk5, v6, q⟩ := scans_some h (show s3 + 1 ≤ n by omega) v4
          refine ⟨nums', a5, st5, tk5, v6, v4, ?_, q, fun j hj => e3 j (Nat.zero_le _) hj, fun r hr => e4 r (by omega)⟩
          rw [q2, e1', bd6_s, if_neg (by decide), if_pos rfl, gin_n hK (by decide), chk_t, nm_s, nm_s, q, bd4_s, cl_n (by omega), nI_1]
      · obtain ⟨nx, nm'⟩ := tok_ns ht cS
        refine Or.inr (Or.inl ⟨s3, by omega, t2, fun vv ww y => ?_, fun K hK v0 a' st tk v1 hs fu nums verbs => ?_⟩)
        · obtain ⟨y', st', val', e1, e2, -⟩ := bx FU (FU_big (by omega)) y (nI s) (nI w)
          have e1' : f_X6_takeItem_L1 (nI (dueN w)) (nI n) x FU y (nI s) (nI w) (nI e) 0 = some (1, y', st', val', nI p2) := e1
          obtain ⟨k', v', e', k2, q⟩ := nx val'
          refine ⟨v', e', nI w, y', ?_⟩
          rw [xpre, e1', bd5_s, if_neg (by decide), q, bd4_s, if_neg k2]
        · obtain ⟨a2, st2, tk2, v2, v3, q1, q2⟩ := mpre K hK v0 a' st tk v1 hs fu nums verbs
          obtain ⟨nums', a3, st3, tk3, v4, v5, e1, e2, e3, e4⟩ := bm K hK FU (FU_big (by omega)) v3 a2 st2 tk2 v2 q1 nums
          have e1' : f_X10_reads_L4 (nI (10 + w)) (nI K) (nI n) m FU nums a2 st2 tk2 v2 0 = some (1, nums', a3, st3, tk3, v4) := e1
          obtain ⟨a5, tk5, v6, k2, q⟩ := nm' v5
          obtain ⟨rfl, rfl, rfl, rfl⟩ := sc_inj e2 q
          refine ⟨2, nums', a3, tk3, v4, ?_, Or.inr (Or.inr rfl)⟩
          rw [q2, e1', bd6_s, if_neg (by decide), if_neg k2]
    · refine Or.inr (Or.inl ⟨s', by omega, sn', fun vv ww y => ?_, fun K hK v0 a' st tk v1 hs fu nums verbs => ?_⟩)
      · obtain ⟨y', val', e', e1⟩ := bx FU (FU_big (by omega)) y (nI s) (nI w)
        have e1' : f_X6_takeItem_L1 (nI (dueN w)) (nI n) x FU y (nI s) (nI w) (nI e) 0 = some (0, y', nI s', val', e') := e1
        refine ⟨val', e', nI w, y', ?_⟩
        rw [xpre, e1', bd5_s, if_pos rfl]
      · obtain ⟨a2, st2, tk2, v2, v3, q1, q2⟩ := mpre K hK v0 a' st tk v1 hs fu nums verbs
        obtain ⟨nums', a3, tk3, v4, e1⟩ := bm K hK FU (FU_big (by omega)) v3 a2 st2 tk2 v2 q1 nums
        have e1' : f_X10_reads_L4 (nI (10 + w)) (nI K) (nI n) m FU nums a2 st2 tk2 v2 0 = some (0, nums', a3, nI s', tk3, v4) := e1
        refine ⟨1, nums', a3, tk3, v4, ?_, Or.inr (Or.inl rfl)⟩
        rw [q2, e1', bd6_s, if_pos rfl]
  · refine Or.inr (Or.inl ⟨s, by omega, s2, fun vv ww y => ⟨nI z, nI e, ww, y, ?_⟩, fun K hK v0 a' st tk v1 hs fu nums verbs => ?_⟩)
    · unfold f_X6_takeItem
      rw [a vv, bd4_s, if_neg (by decide), if_neg (by decide)]
    · obtain ⟨rfl, rfl, rfl, rfl⟩ := sc_inj hs (b v0)
      refine ⟨0, nums, nI e, 2, nI z, ?_, Or.inl rfl⟩
      unfold f_X10_reads_L3
      rw [if_neg (by decide), if_neg (by decide)]
  · refine Or.inr (Or.inl ⟨s, by omega, s2, fun vv ww y => ⟨vv, nI (s + 1), ww, y, ?_⟩, fun K hK v0 a' st tk v1 hs fu nums verbs => ?_⟩)
    · unfold f_X6_takeItem
      rw [a vv, bd4_s, if_neg (by decide), if_neg (by decide)]
    · obtain ⟨rfl, rfl, rfl, rfl⟩ := sc_inj hs (b v0)
      refine ⟨0, nums, nI (s + 1), 3, v1, ?_, Or.inl rfl⟩
      unfold f_X10_reads_L3
      rw [if_neg (by decide), if_neg (by decide)]
  · refine Or.inr (Or.inl ⟨s, by omega, s2, fun vv ww y => ?_, fun K hK v0 a' st tk v1 hs fu nums verbs => ?_⟩)
    · obtain ⟨v', e', q⟩ := a vv
      refine ⟨v', e', ww, y, ?_⟩
      unfold f_X6_takeItem
      rw [q, bd4_s, if_neg (by decide), if_neg (by decide)]
    · obtain ⟨e', v', q⟩ := b v0
      obtain ⟨rfl, rfl, rfl, rfl⟩ := sc_inj hs q
      refine ⟨0, nums, a', 1, v1, ?_, Or.inl rfl⟩
      unfold f_X10_reads_L3
      rw [if_neg (by decide), if_neg (by decide)]
/-- a whole text: its items, and how it ends -/
def PARSE (n : Nat) (x m : Nat → Int32) (k p J : Nat) (P W : Nat → Nat) (V : Nat → Nat → Nat) : Prop :=
  k ≤ J ∧ P k = p ∧ (∀ i, k ≤ i → i < J → W i < 12 ∧ i < 240 ∧ (∀ j, V i j ≤ 9999) ∧ XI n x (P i) (P (i + 1)) (W i) (V i) ∧ MI n m (P i) (P (i + 1)) (W i) (V i)) ∧ J ≤ 240
theorem parse (h : TB n x m t) : ∀ k0 p, p + k0 = n → ∀ k, k ≤ p → ∃ J P W V, PARSE n x m k p J P W V ∧ P J ≤ n ∧ J ≤ P J ∧ ((XE n x (P J) ∧ ME n m (P J)) ∨ ∃ s, P J < n ∧ s ≤ n ∧ XF n x (P J) s ∧ MF n m (P J) s) := by
  have hn := h.1
  intro k0
  induction k0 using Nat.strongRecOn with
  | _ k0 ih =>
    intro p hp k hk
    rcases item h (show p ≤ n by omega) with q | q | ⟨p', w, v, q1, q2, q3, q4, q5, q6, q7⟩
    · exact ⟨k, fun _ => p, fun _ => 0, fun _ _ => 0, ⟨Nat.le_refl _, rfl, fun i a b => by omega, by omega⟩, by show p ≤ n; omega, hk, Or.inl q⟩
    · exact ⟨k, fun _ => p, fun _ => 0, fun _ _ => 0, ⟨Nat.le_refl _, rfl, fun i a b => by omega, by omega⟩, by show p ≤ n; omega, hk, Or.inr q⟩
    · obtain ⟨J, P, W, V, ⟨b1, b2, b3, b4⟩, b5, b6, b7⟩ := ih (n - p') (by omega) p' (by omega) (k + 1) (by omega)
      have eJ : (if J = k then p else P J) = P J := if_neg (by omega)
      refine ⟨J, fun i => if i = k then p else P i, fun i => if i = k then w else W i, fun i => if i = k then v else V i, ⟨by omega, if_pos rfl, fun i i1 i2 => ?_, b4⟩, ?_, ?_, ?_⟩
      · by_cases c : i = k
        · subst c
          simp only [if_pos, Nat.succ_ne_self, if_neg, not_false_eq_true, if_false, if_true]
          rw [b2]
          exact ⟨q1, by omega, q5, q6, q7⟩
        · simp only [if_neg c, if_neg (show ¬ i + 1 = k by omega)]
          exact b3 i (by omega) i2
      · show (if J = k then p else P J) ≤ n
        rw [eJ]; exact b5
      · show J ≤ (if J = k then p else P J)
        rw [eJ]; exact b6
      · show (XE n x (if J = k then p else P J) ∧ ME n m (if J = k then p else P J)) ∨ ∃ s, (if J = k then p else P J) < n ∧ s ≤ n ∧ XF n x (if J = k then p else P J) s ∧ MF n m (if J = k then p else P J) s
        rw [eJ]; exact b7
/-- the class's walk for faults -/
theorem X_faultL {J : Nat} {P W : Nat → Nat} {V : Nat → Nat → Nat} {k p : Nat} (hP : PARSE n x m k p J P W V) : ∀ d i, i + d = J → k ≤ i → ∀ fu, d + 1 < fu → ∀ y st vv ww, (XE n x (P J) → ∃ y' st' v' e' w', f_X6_faultPlace_L1 (nI n) x fu y st vv (nI (P i)) ww 1 (nI i) = some (y', st', v', e', w', 0)) ∧ ∀ s, XF n x (P J) s → ∃ y' v' e' w', f_X6_faultPlace_L1 (nI n) x fu y st vv (nI (P i)) ww 1 (nI i) = some (y', nI s, v', e', w', -1) := by
  obtain ⟨h1, h2, h3, h4⟩ := hP
  intro d
  induction d with
  | zero =>
    intro i hi hk fu hfu y st vv ww
    obtain ⟨fu, rfl⟩ : ∃ n, fu = n + 1 := ⟨fu - 1, by omega⟩
    obtain ⟨fu, rfl⟩ : ∃ n, fu = n + 1 := ⟨fu - 1, by omega⟩
    obtain rfl : i = J := by omega
    constructor
    · intro hE
      obtain ⟨st', v', e', q⟩ := hE vv ww y
      refine ⟨y, st', v', e', ww, ?_⟩
      unfold f_X6_faultPlace_L1
      rw [if_neg (show ¬ (240 : Int32) < nI i from nI_nlt (a := 240) h4 (by decide)), if_pos rfl, q, bd6_s]
      unfold f_X6_faultPlace_L1
      rw [nI_1]
      by_cases z : (240 : Int32) < nI (i + 1)
      · rw [if_pos z]
      · rw [if_neg z, if_neg (by decide)]
    · intro s hF
      obtain ⟨v', e', w', y', q⟩ := hF vv ww y
      refine ⟨y', v', e', w', ?_⟩
      unfold f_X6_faultPlace_L1
      rw [if_neg (show ¬ (240 : Int32) < nI i from nI_nlt (a := 240) h4 (by decide)), if_pos rfl, q, bd6_s]
      unfold f_X6_faultPlace_L1
      rw [nI_1]
      by_cases z : (240 : Int32) < nI (i + 1)
      · rw [if_pos z]
      · rw [if_neg z, if_neg (by decide)]
  | succ d ih =>
    intro i hi hk fu hfu y st vv ww
    obtain ⟨fu, rfl⟩ : ∃ n, fu = n + 1 := ⟨fu - 1, by omega⟩
    obtain ⟨q1, q2, q3, q4, q5⟩ := h3 i hk (by omega)
    obtain ⟨st', v', y', e1, e2⟩ := q4 vv ww y
    have := ih (i + 1) (by omega) (by omega) fu (by omega) y' st' v' (nI (W i))
    have step : f_X6_faultPlace_L1 (nI n) x (fu + 1) y st vv (nI (P i)) ww 1 (nI i) = f_X6_faultPlace_L1 (nI n) x fu y' st' v' (nI (P (i + 1))) (nI (W i)) 1 (nI (i + 1)) := by
      conv => lhs; unfold f_X6_faultPlace_L1
      rw [if_neg (show ¬ (240 : Int32) < nI i from nI_nlt (a := 240) (by omega) (by decide)), if_pos rfl, e1, bd6_s, nI_1]
    rw [step]
    exact this
/-- the reference's walk -/
theorem M_readsL {J : Nat} {P W : Nat → Nat} {V : Nat → Nat → Nat} {k p : Nat} (hP : PARSE n x m k p J P W V) (hJ : J < 240 ∨ ME n m (P J)) : ∀ d i, i + d = J → k ≤ i → ∀ fu, d + 1 < fu → ∀ v0 a st tk v1, f_X10_scans (nI n) (nI (P i)) v0 m = some (a, st, tk, v1) → ∀ nums verbs, (ME n m (P J) → ∃ nums' verbs' a' st' tk' v', f_X10_reads_L3 (nI n) m fu nums verbs a st tk v1 (nI i) = some (3, nums', verbs', a', st', tk', v', nI J) ∧ (∀ r, i ≤ r → r < J → verbs' r = nI (10 + W r) ∧ ∀ j, j < dueN (W r) → nums' (4 * r + j) = nI (V r j)) ∧ (∀ r, r < i → verbs' r = verbs r) ∧ ∀ r, r < 4 * i → nums' r = nums r) ∧ ∀ s, J < 240 → MF n m (P J) s → ∃ q nums' verbs' a' tk' v', f_X10_reads_L3 (nI n) m fu nums verbs a st tk v1 (nI i) = some (q, nums', verbs', a', nI s, tk', v', nI J) ∧ (q = 0 ∨ q = 1 ∨ q = 2) := by
  obtain ⟨h1, h2, h3, h4⟩ := hP
  intro d
  induction d with
  | zero =>
    intro i hi hk fu hfu v0 a st tk v1 hs nums verbs
    obtain ⟨fu, rfl⟩ : ∃ n, fu = n + 1 := ⟨fu - 1, by omega⟩
    obtain rfl : i = J := by omega
    constructor
    · intro hE
      have := hE v0 a st tk v1 hs
      subst this
      refine ⟨nums, verbs, a, st, 0, v1, ?_, fun r r1 r2 => by omega, fun _ _ => rfl, fun _ _ => rfl⟩
      unfold f_X10_reads_L3
      rw [if_pos rfl]
    · intro s hj hF
      obtain ⟨q, nums', a', tk', v', e1, e2⟩ := hF i hj v0 a st tk v1 hs fu nums verbs
      exact ⟨q, nums', verbs, a', tk', v', e1, e2⟩
  | succ d ih =>
    intro i hi hk fu hfu v0 a st tk v1 hs nums verbs
    obtain ⟨fu, rfl⟩ : ∃ n, fu = n + 1 := ⟨fu - 1, by omega⟩
    obtain ⟨q1, q2, q3, q4, q5⟩ := h3 i hk (by omega)
    have dle := (due_ok (W i) q1).1
    obtain ⟨nums1, a2, st2, tk2, v2, v3, e1, e2, e3, e4⟩ := q5 i q2 v0 a st tk v1 hs fu nums verbs
    obtain ⟨c1, c2⟩ := ih (i + 1) (by omega) (by omega) fu (by omega) v3 a2 st2 tk2 v2 e2 nums1 (upd verbs i (nI (10 + W i)))
    constructor
    · intro hE
      obtain ⟨nums', verbs', a', st', tk', v', f1, f2, f3, f4⟩ := c1 hE
      refine ⟨nums', verbs', a', st', tk', v', by rw [e1]; exact f1, fun r r1 r2 => ?_, fun r hr => by rw [f3 r (by omega), upd_n _ _ (by omega)], fun r hr => by rw [f4 r (by omega), e4 r hr]⟩
      by_cases z : r = i
      · subst z
        refine ⟨by rw [f3 r (by omega), upd_s], fun j hj => ?_⟩
        rw [f4 _ (by omega)]
        exact e3 j hj
      · exact f2 r (by omega) r2
    · intro s hj hF
      obtain ⟨q, nums', verbs', a', tk', v', f1, f2⟩ := c2 s hj hF
      exact ⟨q, nums', verbs', a', tk', v', by rw [e1]; exact f1, f2⟩
end IT
