/-! ===== digest ===== -/
def mxN (f : Nat → Int32) : Nat → Int64 → Int64
  | 0, h => h
  | n + 1, h => 31 * mxN f n h + (f n).toInt64
theorem mxN_c {f g : Nat → Int32} {h : Int64} : ∀ n, (∀ k, k < n → f k = g k) → mxN f n h = mxN g n h
  | 0, _ => rfl
  | n + 1, e => by
    show 31 * mxN f n h + _ = 31 * mxN g n h + _
    rw [mxN_c n (fun k hk => e k (by omega)), e n (by omega)]
theorem M_mixL {bk : Nat → Int32} {base N : Nat} {h : Int64} (hb : base + N ≤ 460) : ∀ n i, i + n = N → ∀ fu, n < fu → f_X10_mixed_L1 (nI N) (nI base) bk fu (mxN (fun k => bk (base + k)) i h) (nI i) = some (mxN (fun k => bk (base + k)) N h) := by
  intro n
  induction n with
  | zero =>
    intro i hi fu hfu
    obtain ⟨fu, rfl⟩ : ∃ n, fu = n + 1 := ⟨fu - 1, by omega⟩
    obtain rfl : i = N := by omega
    unfold f_X10_mixed_L1
    rw [if_pos (Int32.le_refl _)]
  | succ n ih =>
    intro i hi fu hfu
    obtain ⟨fu, rfl⟩ : ∃ n, fu = n + 1 := ⟨fu - 1, by omega⟩
    have h1 := ih (i + 1) (by omega) fu (by omega)
    unfold f_X10_mixed_L1
    rw [if_neg (nI_ge (by omega) (by omega)), nI_add, gin_n (by omega) (by decide), chk_t, nm_s, cl_n (by omega), nI_1]
    exact h1
theorem M_mix {bk : Nat → Int32} {base N : Nat} {h : Int64} (hb : base + N ≤ 460) : f_X10_mixed bk h (nI base) (nI N) = some (mxN (fun k => bk (base + k)) N h) := by
  unfold f_X10_mixed
  rw [show f_X10_mixed_L1 (nI N) (nI base) bk FU h 0 = _ from M_mixL (h := h) hb N 0 (by omega) FU (FU_big (by omega)), bd1_s]
theorem X_digL {f : Nat → Int32} {N : Nat} {h : Int64} (hN : N ≤ 1000) : ∀ n i, i + n = N → ∀ fu, n < fu → f_X1_digestOf_L1 (nI N) N f fu (mxN f i h) (nI i) = some (mxN f N h) := by
  intro n
  induction n with
  | zero =>
    intro i hi fu hfu
    obtain ⟨fu, rfl⟩ : ∃ n, fu = n + 1 := ⟨fu - 1, by omega⟩
    obtain rfl : i = N := by omega
    unfold f_X1_digestOf_L1
    rw [if_pos (Int32.le_refl _)]
  | succ n ih =>
    intro i hi fu hfu
    obtain ⟨fu, rfl⟩ : ∃ n, fu = n + 1 := ⟨fu - 1, by omega⟩
    have h1 := ih (i + 1) (by omega) fu (by omega)
    unfold f_X1_digestOf_L1
    rw [if_neg (nI_ge (by omega) (by omega)), gin_n (by omega) (by omega), chk_t, nm_s, nm_s, cl_n (by omega), nI_1]
    exact h1
theorem X_dig {f : Nat → Int32} {N : Nat} {h : Int64} (hN : N ≤ 1000) : f_X1_digestOf N f h = some (mxN f N h) := by
  unfold f_X1_digestOf
  rw [nm_s, show f_X1_digestOf_L1 (Int32.ofNat N) N f FU h 0 = _ from X_digL (h := h) hN N 0 (by omega) FU (FU_big (by omega)), bd1_s]
theorem X_rowL {bk cells : Nat → Int32} {base c n n0 i : Nat} {h : Int64} (hc : c ≤ 5) (hn : n ≤ 16) (hw : 5 * n ≤ n0) (h0 : n0 < 1000) (hi : i < n) (e : ∀ j, j < c → cells (5 * i + j) = bk (base + (c * i + j))) : ∀ m j, j + m = c → ∀ fu, m < fu → f_X4_digestOn_L4 (nI c) (nI n) n0 cells (nI i) fu (mxN (fun k => bk (base + k)) (c * i + j) h) (nI j) = some (mxN (fun k => bk (base + k)) (c * i + c) h) := by
  intro m
  induction m with
  | zero =>
    intro j hj fu hfu
    obtain ⟨fu, rfl⟩ : ∃ n, fu = n + 1 := ⟨fu - 1, by omega⟩
    obtain rfl : j = c := by omega
    unfold f_X4_digestOn_L4
    rw [if_pos (Int32.le_refl _)]
  | succ m ih =>
    intro j hj fu hfu
    obtain ⟨fu, rfl⟩ : ∃ n, fu = n + 1 := ⟨fu - 1, by omega⟩
    have h1 := ih (j + 1) (by omega) fu (by omega)
    unfold f_X4_digestOn_L4
    rw [if_neg (nI_ge (by omega) (by omega)), X_cell hi (by omega) (by omega) hw (by omega), bd1_s, e j (by omega), nm_s, nI_1]
    exact h1
theorem X_rowsL {bk cells : Nat → Int32} {base c n n0 : Nat} {h : Int64} (hc : c ≤ 5) (hn : n ≤ 16) (hw : 5 * n ≤ n0) (h0 : n0 < 1000) (e : ∀ i, i < n → ∀ j, j < c → cells (5 * i + j) = bk (base + (c * i + j))) : ∀ m i, i + m = n → ∀ fu, m < fu → f_X4_digestOn_L3 (nI n) (nI c) n0 cells fu (mxN (fun k => bk (base + k)) (c * i) h) (nI i) = some (mxN (fun k => bk (base + k)) (c * n) h) := by
  intro m
  induction m with
  | zero =>
    intro i hi fu hfu
    obtain ⟨fu, rfl⟩ : ∃ n, fu = n + 1 := ⟨fu - 1, by omega⟩
    obtain rfl : i = n := by omega
    unfold f_X4_digestOn_L3
    rw [if_pos (Int32.le_refl _)]
  | succ m ih =>
    intro i hi fu hfu
    obtain ⟨fu, rfl⟩ : ∃ n, fu = n + 1 := ⟨fu - 1, by omega⟩
    have h1 := ih (i + 1) (by omega) fu (by omega)
    rw [Nat.mul_add, Nat.mul_one] at h1
    have h2 := X_rowL (bk := bk) (cells := cells) (base := base) (h := h) hc hn hw h0 (show i < n by omega) (e i (by omega)) c 0 (by omega) FU (FU_big (by omega))
    rw [Nat.add_zero] at h2
    unfold f_X4_digestOn_L3
    rw [if_neg (nI_ge (by omega) (by omega)), show (0 : Int32) = nI 0 from rfl, h2, bd1_s, nI_1]
    exact h1
theorem X_rows {bk cells : Nat → Int32} {base c n n0 : Nat} {h : Int64} (hc : c ≤ 5) (hn : n ≤ 16) (hw : 5 * n ≤ n0) (h0 : n0 < 1000) (e : ∀ i, i < n → ∀ j, j < c → cells (5 * i + j) = bk (base + (c * i + j))) : f_X4_digestOn (nI n) n0 cells h (nI c) = some (mxN (fun k => bk (base + k)) (c * n) h) := by
  unfold f_X4_digestOn
  have h1 := X_rowsL (bk := bk) (cells := cells) (base := base) (h := h) hc hn hw h0 e n 0 (by omega) FU (FU_big (by omega))
  rw [Nat.mul_zero] at h1
  rw [show f_X4_digestOn_L3 (nI n) (nI c) n0 cells FU h 0 = _ from h1, bd1_s]
theorem cnt7 {xi : Nat → Int32} {mi : Nat → Int32} {bk : Nat → Int32} (hr : ∀ w, w ≤ 6 → ∃ r, f_X9_count (xi 2) (xi 4) (xi 6) (xi 8) (xi 10) (xi 12) (xi 60) (nI w) = some r ∧ f_X10_countOf (mi 8) bk (nI w) = some r) : ∀ n i, i + n = 7 → ∀ fu fv, n < fu → n < fv → ∀ h, ∃ h', f_X9_digest_L1 (xi 2) (xi 4) (xi 6) (xi 8) (xi 10) (xi 12) (xi 60) fu h (nI i) = some h' ∧ f_X10_digest_L1 (mi 8) bk fv h (nI i) = some h' := by
  intro n
  induction n with
  | zero =>
    intro i hi fu fv hfu hfv h
    obtain ⟨fu, rfl⟩ : ∃ n, fu = n + 1 := ⟨fu - 1, by omega⟩
    obtain ⟨fv, rfl⟩ : ∃ n, fv = n + 1 := ⟨fv - 1, by omega⟩
    obtain rfl : i = 7 := by omega
    refine ⟨h, ?_, ?_⟩
    · unfold f_X9_digest_L1
      rw [if_pos (by decide)]
    · unfold f_X10_digest_L1
      rw [if_pos (by decide)]
  | succ n ih =>
    intro i hi fu fv hfu hfv h
    obtain ⟨fu, rfl⟩ : ∃ n, fu = n + 1 := ⟨fu - 1, by omega⟩
    obtain ⟨fv, rfl⟩ : ∃ n, fv = n + 1 := ⟨fv - 1, by omega⟩
    obtain ⟨r, r1, r2⟩ := hr i (by omega)
    obtain ⟨h', a, b⟩ := ih (i + 1) (by omega) fu fv (by omega) (by omega) (31 * h + r.toInt64)
    refine ⟨h', ?_, ?_⟩
    · unfold f_X9_digest_L1
      rw [if_neg (show ¬ (6 : Int32) < nI i from nI_nlt (a := 6) (by omega) (by decide)), r1, bd1_s, nm_s, nI_1]
      exact a
    · unfold f_X10_digest_L1
      rw [if_neg (show ¬ (7 : Int32) ≤ nI i from nI_ge (b := 7) (by omega) (by decide)), r2, bd1_s, nm_s, nI_1]
      exact b
theorem q_digest : PP_digest INV := by
  intro xi xa mi ma hI _
  have hc := q_count xi xa mi ma hI
  obtain ⟨nc, nb, nd, nr, nf, ng, h1, h2, h3, h4, h5, h6, h7, h8, h9, h10, h11, h12⟩ := FB_now hI
  obtain ⟨⟨n1, n2, n3, n4, n5, n6⟩, k0, k1, k2, k3, k4, k5⟩ := h2
  obtain ⟨s1, s2, s3, s4, s5, s6⟩ := h3
  have hr : ∀ w, w ≤ 6 → ∃ r, f_X9_count (xi 2) (xi 4) (xi 6) (xi 8) (xi 10) (xi 12) (xi 60) (nI w) = some r ∧ f_X10_countOf (mi 8) (ma 0) (nI w) = some r := by
    intro w hw
    obtain ⟨r, a, b, -⟩ := hc (nI w)
    refine ⟨r, a, ?_⟩
    unfold f_X10_count at b
    rw [in_0_6, bd1_s, bI_t (show (0 : Int32) ≤ nI w ∧ nI w ≤ 6 from rng_of hw (by decide)), if_neg one0] at b
    obtain ⟨q, q1, q2⟩ := bd1_some b
    rw [q1]
    exact q2
  obtain ⟨h, a, b⟩ := cnt7 hr 7 0 rfl FU FU (FU_big (by omega)) (FU_big (by omega)) 521
  have two : ∀ {c m1 m2 base : Nat} {cells : Nat → Int32}, B_two c m1 m2 base cells (ma 0) → ∀ i, i < c → ∀ j, j < 2 → cells (5 * i + j) = ma 0 (base + (2 * i + j)) := by
    intro c m1 m2 base cells hB i hi j hj
    have q := hB i hi
    have cs : j = 0 ∨ j = 1 := by omega
    rcases cs with rfl | rfl
    · exact q.1
    · exact q.2.1
  refine ⟨mxN (fun k => ma 0 (430 + k)) 21 (mxN (fun k => ma 0 (410 + k)) 20 (mxN (fun k => ma 0 (370 + k)) (4 * ng) (mxN (fun k => ma 0 (290 + k)) (5 * nf) (mxN (fun k => ma 0 (6 + k)) 6 (mxN (fun k => ma 0 (260 + k)) (2 * nd) (mxN (fun k => ma 0 (240 + k)) (2 * nb) (mxN (fun k => ma 0 (220 + k)) (2 * nc) (mxN (fun k => ma 0 (20 + k)) 192 h)))))))), ?_, ?_, hI⟩
  · unfold f_X9_digest f_X1_digestOn
    rw [show f_X9_digest_L1 (xi 2) (xi 4) (xi 6) (xi 8) (xi 10) (xi 12) (xi 60) FU 521 0 = some h from a, bd1_s, X_dig (by omega), bd1_s, mxN_c 192 (fun k hk => (h4 k hk).1)]
    rw [s1, show f_X4_digestOn (nI nc) 40 (xa 1) _ (2 : Int32) = _ from X_rows (c := 2) (base := 220) (bk := ma 0) (by omega) (by omega) (by omega) (by omega) (two h5), bd1_s]
    rw [s2, show f_X4_digestOn (nI nb) 50 (xa 2) _ (2 : Int32) = _ from X_rows (c := 2) (base := 240) (bk := ma 0) (by omega) (by omega) (by omega) (by omega) (two h6), bd1_s]
    rw [s3, show f_X4_digestOn (nI nd) 50 (xa 3) _ (2 : Int32) = _ from X_rows (c := 2) (base := 260) (bk := ma 0) (by omega) (by omega) (by omega) (by omega) (two h7), bd1_s]
    rw [X_dig (by omega), bd1_s, mxN_c 6 (fun k hk => h8.1 k hk)]
    rw [s5, show f_X4_digestOn (nI nf) 80 (xa 5) _ (5 : Int32) = _ from X_rows (c := 5) (base := 290) (bk := ma 0) (by omega) (by omega) (by omega) (by omega) (fun i hi j hj => by rw [(h9 i hi).1 j hj]; congr 1; omega), bd1_s]
    rw [s6, show f_X4_digestOn (nI ng) 50 (xa 6) _ (4 : Int32) = _ from X_rows (c := 4) (base := 370) (bk := ma 0) (by omega) (by omega) (by omega) (by omega) (fun i hi j hj => by rw [(h10.1 i hi).1 j hj]; congr 1; omega), bd1_s]
    rw [X_dig (by omega), bd1_s, mxN_c 20 (fun k hk => (h11 k hk).1)]
    rw [X_dig (by omega), bd1_s, mxN_c 21 (fun k hk => (h12 k hk).1), bd1_s]
  · unfold f_X10_digest
    rw [show f_X10_digest_L1 (mi 8) (ma 0) FU 521 0 = some h from b, bd1_s, show f_X10_mixed (ma 0) h (20 : Int32) (192 : Int32) = _ from M_mix (base := 20) (N := 192) (by omega), bd1_s, gin_0, chk_t, cl_0, k0, show (2 : Int32) * nI nc = nI (2 * nc) from pk_mul 2 nc, show f_X10_mixed (ma 0) _ (220 : Int32) (nI (2 * nc)) = _ from M_mix (base := 220) (by omega), bd1_s]
    rw [show gin (1 : Int32) 460 = true from by decide, chk_t, show (1 : Int32).toNatClampNeg = 1 from by decide, k1, show (2 : Int32) * nI nb = nI (2 * nb) from pk_mul 2 nb, show f_X10_mixed (ma 0) _ (240 : Int32) (nI (2 * nb)) = _ from M_mix (base := 240) (by omega), bd1_s]
    rw [show gin (2 : Int32) 460 = true from by decide, chk_t, show (2 : Int32).toNatClampNeg = 2 from by decide, k2, show (2 : Int32) * nI nd = nI (2 * nd) from pk_mul 2 nd, show f_X10_mixed (ma 0) _ (260 : Int32) (nI (2 * nd)) = _ from M_mix (base := 260) (by omega), bd1_s]
    rw [show f_X10_mixed (ma 0) _ (6 : Int32) (6 : Int32) = _ from M_mix (base := 6) (N := 6) (by omega), bd1_s]
    rw [show gin (4 : Int32) 460 = true from by decide, chk_t, show (4 : Int32).toNatClampNeg = 4 from by decide, k4, show (5 : Int32) * nI nf = nI (5 * nf) from pk_mul 5 nf, show f_X10_mixed (ma 0) _ (290 : Int32) (nI (5 * nf)) = _ from M_mix (base := 290) (by omega), bd1_s]
    rw [show gin (5 : Int32) 460 = true from by decide, chk_t, show (5 : Int32).toNatClampNeg = 5 from by decide, k5, show (4 : Int32) * nI ng = nI (4 * ng) from pk_mul 4 ng, show f_X10_mixed (ma 0) _ (370 : Int32) (nI (4 * ng)) = _ from M_mix (base := 370) (by omega), bd1_s]
    rw [show f_X10_mixed (ma 0) _ (410 : Int32) (20 : Int32) = _ from M_mix (base := 410) (N := 20) (by omega), bd1_s]
    rw [show f_X10_mixed (ma 0) _ (430 : Int32) (21 : Int32) = _ from M_mix (base := 430) (N := 21) (by omega), bd1_s]
