/-! ===== ages: the class's take and join ===== -/
section JN
variable {sl fa nf nr S : Nat} {g : Nat → Int32}
def lowN (sl : Nat) (g : Nat → Int32) (i : Nat) : Nat := if vN (g (5 * i + 1)) = 1 ∨ vN (g (5 * i + 1)) = 4 then vN (g (5 * i + 3)) else if vN (g (5 * i + 1)) = 2 then vN (g (5 * i + 3)) * sl else 0
def highN (fa : Nat) (g : Nat → Int32) (i : Nat) : Nat := if vN (g (5 * i + 1)) = 1 then vN (g (5 * i + 4)) else if vN (g (5 * i + 1)) = 2 then vN (g (5 * i + 3)) * fa else if vN (g (5 * i + 1)) = 3 then vN (g (5 * i + 3)) else 999
def TK (sl fa : Nat) (g ro ol lw hg : Nat → Int32) (i : Nat) : Prop := ro i = nI (vN (g (5 * i + 2))) ∧ ol i = (if vN (g (5 * i + 1)) = 0 then nI (vN (g (5 * i + 3))) else -1) ∧ lw i = nI (lowN sl g i) ∧ hg i = nI (highN fa g i)
theorem and7 : ∀ a, a < 8 → nI a &&& nI 7 = nI a := by decide +kernel
theorem X_takeS (hG : FG sl fa nf nr g) {nu : Nat → Int32} (h4 : nu 4 = nI sl) (h5 : nu 5 = nI fa) {i fu : Nat} (hi : i < nf) (hg lw ol ro : Nat → Int32) : ∃ hg' lw' ol' ro', f_X0_take_L1 (nI nf) (nI nf) 80 g nu (fu + 1) hg lw ol ro (nI i) = f_X0_take_L1 (nI nf) (nI nf) 80 g nu fu hg' lw' ol' ro' (nI (i + 1)) ∧ TK sl fa g ro' ol' lw' hg' i ∧ ∀ q, q ≠ i → hg' q = hg q ∧ lw' q = lw q ∧ ol' q = ol q ∧ ro' q = ro q := by
  obtain ⟨k1, k2, k3, k4, k5, k6, k7⟩ := fg_k hG hi
  obtain ⟨g1, g2, g3, g4, g5⟩ := hG
  obtain ⟨-, o1, ⟨o2, -⟩, o3, o4, -⟩ := g5 i hi
  have q1 : g (5 * i + 1) = nI (vN (g (5 * i + 1))) := o1.eq (by decide)
  have q2 : g (5 * i + 2) = nI (vN (g (5 * i + 2))) := o2.eq (by decide)
  have q3 : g (5 * i + 3) = nI (vN (g (5 * i + 3))) := o3.eq (by decide)
  have q4 : g (5 * i + 4) = nI (vN (g (5 * i + 4))) := o4.eq (by decide)
  have c1 : f_X4_cell (nI nf) 80 g (nI i) (nI 1) = some (nI (vN (g (5 * i + 1)))) := by rw [← q1]; exact X_cell (c := 1) hi (by omega) (by omega) (by omega) (by decide)
  have c2 : f_X4_cell (nI nf) 80 g (nI i) (nI 2) = some (nI (vN (g (5 * i + 2)))) := by rw [← q2]; exact X_cell (c := 2) hi (by omega) (by omega) (by omega) (by decide)
  have c3 : f_X4_cell (nI nf) 80 g (nI i) (nI 3) = some (nI (vN (g (5 * i + 3)))) := by rw [← q3]; exact X_cell (c := 3) hi (by omega) (by omega) (by omega) (by decide)
  have c4 : f_X4_cell (nI nf) 80 g (nI i) (nI 4) = some (nI (vN (g (5 * i + 4)))) := by rw [← q4]; exact X_cell (c := 4) hi (by omega) (by omega) (by omega) (by decide)
  have hn : ¬ nf ≤ i := by omega
  unfold TK lowN highN
  generalize hK : vN (g (5 * i + 1)) = K at *
  generalize hA : vN (g (5 * i + 2)) = A at *
  generalize hV : vN (g (5 * i + 3)) = V at *
  generalize hW : vN (g (5 * i + 4)) = W' at *
  have cs : K = 0 ∨ K = 1 ∨ K = 2 ∨ K = 3 ∨ K = 4 := by omega
  rcases cs with rfl | rfl | rfl | rfl | rfl
  · have hV8 := and7 V (k6 rfl).2.1
    refine ⟨upd hg i (nI 999), upd lw i (nI 0), upd ol i (nI V), upd ro i (nI A), ?_, ?_, fun q hq => ⟨upd_n _ _ hq, upd_n _ _ hq, upd_n _ _ hq, upd_n _ _ hq⟩⟩
    · conv => lhs; unfold f_X0_take_L1
      simp (disch := omega) only [↓lm1, ln0, ln1, ln2, ln3, ln4, ln5, ln6, ln7, ln8, ln9, ln10, ln11, ln12, ln13, ln14, ln15, ln16, ln17, ln18, ln19, ln20, ln21, ln22, ln26, ln30, ln31, ln32, ln36, ln39, ln40, ln48, ln50, ln59, ln60, ln61, ln63, ln64, ln80, ln97, ln99, ln100, ln103, ln122, ln192, ln220, ln240, ln255, ln260, ln290, ln300, ln370, ln410, ln430, ln460, ln920, ln960, ln999, ln1000, ln2000, ln26880, ln1000000, ofNat_nI, nI_add, pk_mul, pk_sub, nI_leP, nI_ltP, nI_eqP, nI_clamp, gin_n, chk_t, nm_s, bd1_s, bd2_s, bd3_s, bd4_s, bI_n0, bI_1, chk_gz_bI, if_pos, if_neg, if_true, if_false, ite_some, nI_m1, m1_nI, m1_le, le_m1, m1_lt, lt_m1, m1_1, n_m1, n0_m1, m1_m1, not_true_eq_false, not_false_eq_true, c1, c2, c3, hn, and7 A k3, hV8]
    · simp (disch := omega) only [↓lm1, ln0, ln1, ln2, ln3, ln4, ln5, ln6, ln7, ln8, ln9, ln10, ln11, ln12, ln13, ln14, ln15, ln16, ln17, ln18, ln19, ln20, ln21, ln22, ln26, ln30, ln31, ln32, ln36, ln39, ln40, ln48, ln50, ln59, ln60, ln61, ln63, ln64, ln80, ln97, ln99, ln100, ln103, ln122, ln192, ln220, ln240, ln255, ln260, ln290, ln300, ln370, ln410, ln430, ln460, ln920, ln960, ln999, ln1000, ln2000, ln26880, ln1000000, ofNat_nI, nI_add, pk_mul, pk_sub, nI_leP, nI_ltP, nI_eqP, nI_clamp, gin_n, chk_t, nm_s, bd1_s, bd2_s, bd3_s, bd4_s, bI_n0, bI_1, chk_gz_bI, if_pos, if_neg, if_true, if_false, ite_some, nI_m1, m1_nI, m1_le, le_m1, m1_lt, lt_m1, m1_1, n_m1, n0_m1, m1_m1, not_true_eq_false, not_false_eq_true, upd_s]
      refine ⟨?_, ?_, ?_, ?_⟩ <;> (first | trivial | rfl)
  · refine ⟨upd (upd hg i (nI 999)) i (nI W'), upd (upd lw i (nI 0)) i (nI V), upd ol i m1, upd ro i (nI A), ?_, ?_, fun q hq => ⟨by rw [upd_n _ _ hq, upd_n _ _ hq], by rw [upd_n _ _ hq, upd_n _ _ hq], upd_n _ _ hq, upd_n _ _ hq⟩⟩
    · conv => lhs; unfold f_X0_take_L1
      simp (disch := omega) only [↓lm1, ln0, ln1, ln2, ln3, ln4, ln5, ln6, ln7, ln8, ln9, ln10, ln11, ln12, ln13, ln14, ln15, ln16, ln17, ln18, ln19, ln20, ln21, ln22, ln26, ln30, ln31, ln32, ln36, ln39, ln40, ln48, ln50, ln59, ln60, ln61, ln63, ln64, ln80, ln97, ln99, ln100, ln103, ln122, ln192, ln220, ln240, ln255, ln260, ln290, ln300, ln370, ln410, ln430, ln460, ln920, ln960, ln999, ln1000, ln2000, ln26880, ln1000000, ofNat_nI, nI_add, pk_mul, pk_sub, nI_leP, nI_ltP, nI_eqP, nI_clamp, gin_n, chk_t, nm_s, bd1_s, bd2_s, bd3_s, bd4_s, bI_n0, bI_1, chk_gz_bI, if_pos, if_neg, if_true, if_false, ite_some, nI_m1, m1_nI, m1_le, le_m1, m1_lt, lt_m1, m1_1, n_m1, n0_m1, m1_m1, not_true_eq_false, not_false_eq_true, c1, c2, c3, c4, hn, and7 A k3]
    · simp (disch := omega) only [↓lm1, ln0, ln1, ln2, ln3, ln4, ln5, ln6, ln7, ln8, ln9, ln10, ln11, ln12, ln13, ln14, ln15, ln16, ln17, ln18, ln19, ln20, ln21, ln22, ln26, ln30, ln31, ln32, ln36, ln39, ln40, ln48, ln50, ln59, ln60, ln61, ln63, ln64, ln80, ln97, ln99, ln100, ln103, ln122, ln192, ln220, ln240, ln255, ln260, ln290, ln300, ln370, ln410, ln430, ln460, ln920, ln960, ln999, ln1000, ln2000, ln26880, ln1000000, ofNat_nI, nI_add, pk_mul, pk_sub, nI_leP, nI_ltP, nI_eqP, nI_clamp, gin_n, chk_t, nm_s, bd1_s, bd2_s, bd3_s, bd4_s, bI_n0, bI_1, chk_gz_bI, if_pos, if_neg, if_true, if_false, ite_some, nI_m1, m1_nI, m1_le, le_m1, m1_lt, lt_m1, m1_1, n_m1, n0_m1, m1_m1, not_true_eq_false, not_false_eq_true, upd_s]
      refine ⟨?_, ?_, ?_, ?_⟩ <;> (first | trivial | rfl)
  · refine ⟨upd (upd hg i (nI 999)) i (nI V * nI fa), upd (upd lw i (nI 0)) i (nI V * nI sl), upd ol i m1, upd ro i (nI A), ?_, ?_, fun q hq => ⟨by rw [upd_n _ _ hq, upd_n _ _ hq], by rw [upd_n _ _ hq, upd_n _ _ hq], upd_n _ _ hq, upd_n _ _ hq⟩⟩
    · conv => lhs; unfold f_X0_take_L1
      simp (disch := omega) only [↓lm1, ln0, ln1, ln2, ln3, ln4, ln5, ln6, ln7, ln8, ln9, ln10, ln11, ln12, ln13, ln14, ln15, ln16, ln17, ln18, ln19, ln20, ln21, ln22, ln26, ln30, ln31, ln32, ln36, ln39, ln40, ln48, ln50, ln59, ln60, ln61, ln63, ln64, ln80, ln97, ln99, ln100, ln103, ln122, ln192, ln220, ln240, ln255, ln260, ln290, ln300, ln370, ln410, ln430, ln460, ln920, ln960, ln999, ln1000, ln2000, ln26880, ln1000000, ofNat_nI, nI_add, pk_mul, pk_sub, nI_leP, nI_ltP, nI_eqP, nI_clamp, gin_n, chk_t, nm_s, bd1_s, bd2_s, bd3_s, bd4_s, bI_n0, bI_1, chk_gz_bI, if_pos, if_neg, if_true, if_false, ite_some, nI_m1, m1_nI, m1_le, le_m1, m1_lt, lt_m1, m1_1, n_m1, n0_m1, m1_m1, not_true_eq_false, not_false_eq_true, c1, c2, c3, hn, and7 A k3, h4, h5]
    · simp (disch := omega) only [↓lm1, ln0, ln1, ln2, ln3, ln4, ln5, ln6, ln7, ln8, ln9, ln10, ln11, ln12, ln13, ln14, ln15, ln16, ln17, ln18, ln19, ln20, ln21, ln22, ln26, ln30, ln31, ln32, ln36, ln39, ln40, ln48, ln50, ln59, ln60, ln61, ln63, ln64, ln80, ln97, ln99, ln100, ln103, ln122, ln192, ln220, ln240, ln255, ln260, ln290, ln300, ln370, ln410, ln430, ln460, ln920, ln960, ln999, ln1000, ln2000, ln26880, ln1000000, ofNat_nI, nI_add, pk_mul, pk_sub, nI_leP, nI_ltP, nI_eqP, nI_clamp, gin_n, chk_t, nm_s, bd1_s, bd2_s, bd3_s, bd4_s, bI_n0, bI_1, chk_gz_bI, if_pos, if_neg, if_true, if_false, ite_some, nI_m1, m1_nI, m1_le, le_m1, m1_lt, lt_m1, m1_1, n_m1, n0_m1, m1_m1, not_true_eq_false, not_false_eq_true, upd_s]
      refine ⟨?_, ?_, ?_, ?_⟩ <;> (first | trivial | rfl)
  · refine ⟨upd (upd hg i (nI 999)) i (nI V), upd lw i (nI 0), upd ol i m1, upd ro i (nI A), ?_, ?_, fun q hq => ⟨by rw [upd_n _ _ hq, upd_n _ _ hq], upd_n _ _ hq, upd_n _ _ hq, upd_n _ _ hq⟩⟩
    · conv => lhs; unfold f_X0_take_L1
      simp (disch := omega) only [↓lm1, ln0, ln1, ln2, ln3, ln4, ln5, ln6, ln7, ln8, ln9, ln10, ln11, ln12, ln13, ln14, ln15, ln16, ln17, ln18, ln19, ln20, ln21, ln22, ln26, ln30, ln31, ln32, ln36, ln39, ln40, ln48, ln50, ln59, ln60, ln61, ln63, ln64, ln80, ln97, ln99, ln100, ln103, ln122, ln192, ln220, ln240, ln255, ln260, ln290, ln300, ln370, ln410, ln430, ln460, ln920, ln960, ln999, ln1000, ln2000, ln26880, ln1000000, ofNat_nI, nI_add, pk_mul, pk_sub, nI_leP, nI_ltP, nI_eqP, nI_clamp, gin_n, chk_t, nm_s, bd1_s, bd2_s, bd3_s, bd4_s, bI_n0, bI_1, chk_gz_bI, if_pos, if_neg, if_true, if_false, ite_some, nI_m1, m1_nI, m1_le, le_m1, m1_lt, lt_m1, m1_1, n_m1, n0_m1, m1_m1, not_true_eq_false, not_false_eq_true, c1, c2, c3, hn, and7 A k3]
    · simp (disch := omega) only [↓lm1, ln0, ln1, ln2, ln3, ln4, ln5, ln6, ln7, ln8, ln9, ln10, ln11, ln12, ln13, ln14, ln15, ln16, ln17, ln18, ln19, ln20, ln21, ln22, ln26, ln30, ln31, ln32, ln36, ln39, ln40, ln48, ln50, ln59, ln60, ln61, ln63, ln64, ln80, ln97, ln99, ln100, ln103, ln122, ln192, ln220, ln240, ln255, ln260, ln290, ln300, ln370, ln410, ln430, ln460, ln920, ln960, ln999, ln1000, ln2000, ln26880, ln1000000, ofNat_nI, nI_add, pk_mul, pk_sub, nI_leP, nI_ltP, nI_eqP, nI_clamp, gin_n, chk_t, nm_s, bd1_s, bd2_s, bd3_s, bd4_s, bI_n0, bI_1, chk_gz_bI, if_pos, if_neg, if_true, if_false, ite_some, nI_m1, m1_nI, m1_le, le_m1, m1_lt, lt_m1, m1_1, n_m1, n0_m1, m1_m1, not_true_eq_false, not_false_eq_true, upd_s]
      refine ⟨?_, ?_, ?_, ?_⟩ <;> (first | trivial | rfl)
  · refine ⟨upd hg i (nI 999), upd (upd lw i (nI 0)) i (nI V), upd ol i m1, upd ro i (nI A), ?_, ?_, fun q hq => ⟨upd_n _ _ hq, by rw [upd_n _ _ hq, upd_n _ _ hq], upd_n _ _ hq, upd_n _ _ hq⟩⟩
    · conv => lhs; unfold f_X0_take_L1
      simp (disch := omega) only [↓lm1, ln0, ln1, ln2, ln3, ln4, ln5, ln6, ln7, ln8, ln9, ln10, ln11, ln12, ln13, ln14, ln15, ln16, ln17, ln18, ln19, ln20, ln21, ln22, ln26, ln30, ln31, ln32, ln36, ln39, ln40, ln48, ln50, ln59, ln60, ln61, ln63, ln64, ln80, ln97, ln99, ln100, ln103, ln122, ln192, ln220, ln240, ln255, ln260, ln290, ln300, ln370, ln410, ln430, ln460, ln920, ln960, ln999, ln1000, ln2000, ln26880, ln1000000, ofNat_nI, nI_add, pk_mul, pk_sub, nI_leP, nI_ltP, nI_eqP, nI_clamp, gin_n, chk_t, nm_s, bd1_s, bd2_s, bd3_s, bd4_s, bI_n0, bI_1, chk_gz_bI, if_pos, if_neg, if_true, if_false, ite_some, nI_m1, m1_nI, m1_le, le_m1, m1_lt, lt_m1, m1_1, n_m1, n0_m1, m1_m1, not_true_eq_false, not_false_eq_true, c1, c2, c3, hn, and7 A k3]
    · simp (disch := omega) only [↓lm1, ln0, ln1, ln2, ln3, ln4, ln5, ln6, ln7, ln8, ln9, ln10, ln11, ln12, ln13, ln14, ln15, ln16, ln17, ln18, ln19, ln20, ln21, ln22, ln26, ln30, ln31, ln32, ln36, ln39, ln40, ln48, ln50, ln59, ln60, ln61, ln63, ln64, ln80, ln97, ln99, ln100, ln103, ln122, ln192, ln220, ln240, ln255, ln260, ln290, ln300, ln370, ln410, ln430, ln460, ln920, ln960, ln999, ln1000, ln2000, ln26880, ln1000000, ofNat_nI, nI_add, pk_mul, pk_sub, nI_leP, nI_ltP, nI_eqP, nI_clamp, gin_n, chk_t, nm_s, bd1_s, bd2_s, bd3_s, bd4_s, bI_n0, bI_1, chk_gz_bI, if_pos, if_neg, if_true, if_false, ite_some, nI_m1, m1_nI, m1_le, le_m1, m1_lt, lt_m1, m1_1, n_m1, n0_m1, m1_m1, not_true_eq_false, not_false_eq_true, upd_s]
      refine ⟨?_, ?_, ?_, ?_⟩ <;> (first | trivial | rfl)
theorem X_takeL (hG : FG sl fa nf nr g) {nu : Nat → Int32} (h4 : nu 4 = nI sl) (h5 : nu 5 = nI fa) : ∀ n i, i + n = nf → ∀ fu, n < fu → ∀ hg lw ol ro, (∀ q, q < i → TK sl fa g ro ol lw hg q) → ∃ hg' lw' ol' ro', f_X0_take_L1 (nI nf) (nI nf) 80 g nu fu hg lw ol ro (nI i) = some (hg', lw', ol', ro') ∧ ∀ q, q < nf → TK sl fa g ro' ol' lw' hg' q := by
  intro n
  induction n with
  | zero =>
    intro i hi fu hfu hg lw ol ro hq
    obtain ⟨fu, rfl⟩ : ∃ n, fu = n + 1 := ⟨fu - 1, by omega⟩
    obtain rfl : i = nf := by omega
    refine ⟨hg, lw, ol, ro, ?_, hq⟩
    unfold f_X0_take_L1
    rw [if_pos (Int32.le_refl _)]
  | succ n ih =>
    intro i hi fu hfu hg lw ol ro hq
    obtain ⟨fu, rfl⟩ : ∃ n, fu = n + 1 := ⟨fu - 1, by omega⟩
    obtain ⟨hg1, lw1, ol1, ro1, a1, a2, a3⟩ := X_takeS hG h4 h5 (fu := fu) (show i < nf by omega) hg lw ol ro
    obtain ⟨hg2, lw2, ol2, ro2, b1, b2⟩ := ih (i + 1) (by omega) fu (by omega) hg1 lw1 ol1 ro1 (fun q hq' => by
      by_cases e : q = i
      · subst e; exact a2
      · obtain ⟨e1, e2, e3, e4⟩ := a3 q e
        have := hq q (by omega)
        unfold TK at this ⊢
        rw [e1, e2, e3, e4]
        exact this)
    exact ⟨hg2, lw2, ol2, ro2, by rw [a1]; exact b1, b2⟩
theorem X_take (hG : FG sl fa nf nr g) {nu : Nat → Int32} (h4 : nu 4 = nI sl) (h5 : nu 5 = nI fa) (ro ol lw hg : Nat → Int32) : ∃ ro' ol' lw' hg', f_X0_take (nI nf) 80 g ro ol lw hg nu = some (nI nf, ro', ol', lw', hg') ∧ ∀ q, q < nf → TK sl fa g ro' ol' lw' hg' q := by
  have hn := hG.1
  obtain ⟨hg', lw', ol', ro', a1, a2⟩ := X_takeL hG h4 h5 nf 0 (by omega) FU (FU_big (by omega)) hg lw ol ro (fun q hq => by omega)
  refine ⟨ro', ol', lw', hg', ?_, a2⟩
  have e : (if nI nf < (16 : Int32) then nI nf else (16 : Int32)) = nI nf := by
    by_cases c : nf < 16
    · exact if_pos (show nI nf < nI 16 from nI_lt c (by decide))
    · obtain rfl : nf = 16 := by omega
      rfl
  unfold f_X0_take f_X4_size
  rw [bd1_s, e, nm_s, show f_X0_take_L1 (nI nf) (nI nf) 80 g nu FU hg lw ol ro 0 = _ from a1, bd4_s]
theorem lh_sol (hG : FG sl fa nf nr g) {i : Nat} (hi : i < nf) (hb : S.testBit i = true) {s : Nat → Int} (hs : fSol sl fa nf g S z0 z9 noX s) : (lowN sl g i : Int) ≤ s (vN (g (5 * i + 2))) ∧ s (vN (g (5 * i + 2))) ≤ (highN fa g i : Int) := by
  obtain ⟨k1, k2, k3, k4, k5, k6, k7⟩ := fg_k hG hi
  obtain ⟨h1, h2, -⟩ := (fSol_iff hG).mp hs
  obtain ⟨f0, f1, f2, f3, f4⟩ := h2 i hi hb
  obtain ⟨b1, b2⟩ := h1 _ k3
  have b1 : (0 : Int) ≤ s (vN (g (5 * i + 2))) := b1
  have b2 : s (vN (g (5 * i + 2))) ≤ (999 : Int) := b2
  unfold lowN highN
  have cs : vN (g (5 * i + 1)) = 0 ∨ vN (g (5 * i + 1)) = 1 ∨ vN (g (5 * i + 1)) = 2 ∨ vN (g (5 * i + 1)) = 3 ∨ vN (g (5 * i + 1)) = 4 := by omega
  rcases cs with c | c | c | c | c
  · rw [c]; exact ⟨b1, b2⟩
  · rw [c]; exact f1 c
  · rw [c]; exact f2 c
  · rw [c]; exact ⟨b1, f3 c⟩
  · rw [c]; exact ⟨f4 c, b2⟩
theorem lh_b (hG : FG sl fa nf nr g) {i : Nat} (hi : i < nf) : lowN sl g i ≤ 29700 ∧ highN fa g i ≤ 29700 := by
  obtain ⟨k1, k2, k3, k4, k5, k6, k7⟩ := fg_k hG hi
  obtain ⟨g1, g2, g3, g4, g5⟩ := hG
  unfold lowN highN
  have cs : vN (g (5 * i + 1)) = 0 ∨ vN (g (5 * i + 1)) = 1 ∨ vN (g (5 * i + 1)) = 2 ∨ vN (g (5 * i + 1)) = 3 ∨ vN (g (5 * i + 1)) = 4 := by omega
  rcases cs with c | c | c | c | c
  · rw [c]; exact ⟨show 0 ≤ 29700 by omega, show 999 ≤ 29700 by omega⟩
  · rw [c]; exact ⟨show vN (g (5 * i + 3)) ≤ 29700 by omega, show vN (g (5 * i + 4)) ≤ 29700 by omega⟩
  · have v1 : vN (g (5 * i + 3)) * sl ≤ 300 * 99 := Nat.mul_le_mul (k7 c) g3
    have v2 : vN (g (5 * i + 3)) * fa ≤ 300 * 99 := Nat.mul_le_mul (k7 c) g4
    rw [c]; exact ⟨v1, v2⟩
  · rw [c]; exact ⟨show 0 ≤ 29700 by omega, show vN (g (5 * i + 3)) ≤ 29700 by omega⟩
  · rw [c]; exact ⟨show vN (g (5 * i + 3)) ≤ 29700 by omega, show 999 ≤ 29700 by omega⟩
theorem X_constL (hG : FG sl fa nf nr g) (hS : S < 2 ^ 16) {ro ol lw hg : Nat → Int32} (hT : ∀ q, q < nf → TK sl fa g ro ol lw hg q) : ∀ n i, i + n = nf → ∀ fu, n < fu → ∀ (lo hi : Nat → Int32) (l h : Nat → Int), R8 30000 lo l → R8 30000 hi h → (∀ r, r < 8 → 0 ≤ l r ∧ h r ≤ 999) → (∀ s, fSol sl fa nf g S z0 z9 noX s → ∀ r, r < 8 → l r ≤ s r ∧ s r ≤ h r) →
    ∃ lo' hi' l' h', f_X0_join_L1 (nI nf) (nI S) ro lw hg fu hi lo (nI i) = some (hi', lo') ∧ R8 30000 lo' l' ∧ R8 30000 hi' h' ∧ (∀ r, r < 8 → l r ≤ l' r ∧ h' r ≤ h r) ∧ (∀ s, fSol sl fa nf g S z0 z9 noX s → ∀ r, r < 8 → l' r ≤ s r ∧ s r ≤ h' r) ∧ ∀ q, i ≤ q → q < nf → S.testBit q = true → (lowN sl g q : Int) ≤ l' (vN (g (5 * q + 2))) ∧ h' (vN (g (5 * q + 2))) ≤ (highN fa g q : Int) := by
  have hn := hG.1
  intro n
  induction n with
  | zero =>
    intro i hi' fu hfu lo hi l h hl hh h09 hsd
    obtain ⟨fu, rfl⟩ : ∃ n, fu = n + 1 := ⟨fu - 1, by omega⟩
    obtain rfl : i = nf := by omega
    refine ⟨lo, hi, l, h, ?_, hl, hh, fun _ _ => ⟨Int.le_refl _, Int.le_refl _⟩, hsd, fun q a b => by omega⟩
    unfold f_X0_join_L1
    rw [if_pos (Int32.le_refl _)]
  | succ n ih =>
    intro i hi' fu hfu lo hi l h hl hh h09 hsd
    obtain ⟨fu, rfl⟩ : ∃ n, fu = n + 1 := ⟨fu - 1, by omega⟩
    by_cases c : S.testBit i = true
    · obtain ⟨k1, k2, k3, k4, k5, k6, k7⟩ := fg_k hG (show i < nf by omega)
      obtain ⟨t1, t2, t3, t4⟩ := hT i (by omega)
      obtain ⟨b1, b2⟩ := lh_b hG (show i < nf by omega)
      have hlA := hl _ k3
      have hhA := hh _ k3
      have e1 : (if lo (vN (g (5 * i + 2))) < lw i then lw i else lo (vN (g (5 * i + 2)))) = iI (upI l (vN (g (5 * i + 2))) (lowN sl g i) (vN (g (5 * i + 2)))) := by
        unfold upI
        have hlt : lo (vN (g (5 * i + 2))) < lw i ↔ l (vN (g (5 * i + 2))) < (lowN sl g i : Int) := by
          rw [hlA.1, t3, nI_iI, iI_lt (by omega) (by omega) (by omega) (by omega)]
        rw [if_pos rfl]
        by_cases d : (lowN sl g i : Int) ≤ l (vN (g (5 * i + 2)))
        · rw [if_pos d, if_neg (fun z => by have := hlt.mp z; omega)]; exact hlA.1
        · rw [if_neg d, if_pos (hlt.mpr (by omega)), t3, nI_iI]
      have e2 : (if hg i < hi (vN (g (5 * i + 2))) then hg i else hi (vN (g (5 * i + 2)))) = iI (dnI h (vN (g (5 * i + 2))) (highN fa g i) (vN (g (5 * i + 2)))) := by
        unfold dnI
        have hlt : hg i < hi (vN (g (5 * i + 2))) ↔ (highN fa g i : Int) < h (vN (g (5 * i + 2))) := by
          rw [hhA.1, t4, nI_iI, iI_lt (by omega) (by omega) (by omega) (by omega)]
        rw [if_pos rfl]
        by_cases d : h (vN (g (5 * i + 2))) ≤ (highN fa g i : Int)
        · rw [if_pos d, if_neg (fun z => by have := hlt.mp z; omega)]; exact hhA.1
        · rw [if_neg d, if_pos (hlt.mpr (by omega)), t4, nI_iI]
      have m1 := fun r => upI_le l (vN (g (5 * i + 2))) (lowN sl g i) r
      have m2 := fun r => dnI_le h (vN (g (5 * i + 2))) (highN fa g i) r
      have r1 : R8 30000 (upd lo (vN (g (5 * i + 2))) (iI (upI l (vN (g (5 * i + 2))) (lowN sl g i) (vN (g (5 * i + 2)))))) (upI l (vN (g (5 * i + 2))) (lowN sl g i)) := by
        intro q hq
        by_cases e : q = vN (g (5 * i + 2))
        · subst e
          rw [upd_s]
          refine ⟨rfl, ?_⟩
          unfold upI
          rw [if_pos rfl]
          split <;> omega
        · rw [upd_n _ _ e]
          unfold upI
          rw [if_neg e]
          exact hl q hq
      have r2 : R8 30000 (upd hi (vN (g (5 * i + 2))) (iI (dnI h (vN (g (5 * i + 2))) (highN fa g i) (vN (g (5 * i + 2)))))) (dnI h (vN (g (5 * i + 2))) (highN fa g i)) := by
        intro q hq
        by_cases e : q = vN (g (5 * i + 2))
        · subst e
          rw [upd_s]
          refine ⟨rfl, ?_⟩
          unfold dnI
          rw [if_pos rfl]
          split <;> omega
        · rw [upd_n _ _ e]
          unfold dnI
          rw [if_neg e]
          exact hh q hq
      obtain ⟨lo', hi2, l', h', a1, a2, a3, a4, a5, a6⟩ := ih (i + 1) (by omega) fu (by omega) _ _ _ _ r1 r2 (fun r hr => by have := h09 r hr; have := m1 r; have := m2 r; omega) (fun s hs r hr => by
        have z := hsd s hs r hr
        have w := lh_sol hG (show i < nf by omega) c hs
        unfold upI dnI
        by_cases e : r = vN (g (5 * i + 2))
        · subst e
          rw [if_pos rfl, if_pos rfl]
          constructor
          · split <;> omega
          · split <;> omega
        · rw [if_neg e, if_neg e]; exact z)
      refine ⟨lo', hi2, l', h', ?_, a2, a3, fun r hr => by have := a4 r hr; have := m1 r; have := m2 r; omega, a5, fun q q1 q2 q3 => ?_⟩
      · unfold f_X0_join_L1
        rw [if_neg (nI_ge (by omega) (by omega)), bitI hS (by omega), if_pos c, if_neg n10, gin_n (by omega) (by decide), chk_t, nm_s, cl_n (by omega), t1, gin_n k3 (by decide), chk_t, cl_n (by omega), chk_t, e1, nm_s, chk_t, nm_s, chk_t, chk_t, e2, nm_s, chk_t, nm_s, nI_1]
        exact a1
      · by_cases e : q = i
        · subst e
          have := a4 _ k3
          have := upI_r l (vN (g (5 * q + 2))) (lowN sl g q)
          have := dnI_r h (vN (g (5 * q + 2))) (highN fa g q)
          omega
        · exact a6 q (by omega) q2 q3
    · obtain ⟨lo', hi2, l', h', a1, a2, a3, a4, a5, a6⟩ := ih (i + 1) (by omega) fu (by omega) lo hi l h hl hh h09 hsd
      refine ⟨lo', hi2, l', h', ?_, a2, a3, a4, a5, fun q q1 q2 q3 => ?_⟩
      · unfold f_X0_join_L1
        rw [if_neg (nI_ge (by omega) (by omega)), bitI hS (by omega), if_neg c, if_pos (by rfl), nI_1]
        exact a1
      · by_cases e : q = i
        · subst e; exact absurd q3 c
        · exact a6 q (by omega) q2 q3
end JN
