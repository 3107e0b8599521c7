/-! ===== image, from, digest ===== -/
theorem B_su_d {su su' bk : Nat → Int32} (h : B_su su bk) (e : ∀ i, i < 192 → su' i = su i) : B_su su' bk := fun i hi => by rw [e i hi]; exact h i hi
theorem B_two_d {c m1 m2 base : Nat} {cells cells' bk : Nat → Int32} (h : B_two c m1 m2 base cells bk) (e : ∀ k, k < 5 * c → cells' k = cells k) : B_two c m1 m2 base cells' bk := fun i hi => by rw [e _ (by omega), e _ (by omega)]; exact h i hi
theorem B_nu_d {nu nu' bk : Nat → Int32} (h : B_nu nu bk) (e : ∀ i, i < 6 → nu' i = nu i) : B_nu nu' bk := ⟨fun i hi => by rw [e i hi]; exact h.1 i hi, h.2⟩
theorem B_fa_d {nf nr : Nat} {cells cells' bk : Nat → Int32} (h : B_fa nf nr cells bk) (e : ∀ k, k < 5 * nf → cells' k = cells k) : B_fa nf nr cells' bk := fun i hi => ⟨fun j hj => by rw [e _ (by omega)]; exact (h i hi).1 j hj, (h i hi).2⟩
theorem B_si_d {ng : Nat} {cells cells' bk : Nat → Int32} (h : B_si ng cells bk) (e : ∀ k, k < 5 * ng → cells' k = cells k) : B_si ng cells' bk := ⟨fun i hi => ⟨fun j hj => by rw [e _ (by omega)]; exact (h.1 i hi).1 j hj, (h.1 i hi).2⟩, h.2⟩
theorem B_ar_d {ar ar' bk : Nat → Int32} (h : B_ar ar bk) (e : ∀ i, i < 20 → ar' i = ar i) : B_ar ar' bk := fun i hi => by rw [e i hi]; exact h i hi
theorem B_he_d {he he' bk : Nat → Int32} (h : B_he he bk) (e : ∀ i, i < 21 → he' i = he i) : B_he he' bk := fun i hi => by rw [e i hi]; exact h i hi
theorem FB_bk {rid cll cls bol bos scl scs fal fas sil sis : Int32} {su cl bo sc nu fa si ar he bk bk' : Nat → Int32} (h : FB rid cll cls bol bos scl scs fal fas sil sis su cl bo sc nu fa si ar he bk) (e : ∀ k, k < 460 → bk' k = bk k) : FB rid cll cls bol bos scl scs fal fas sil sis su cl bo sc nu fa si ar he bk' := by
  obtain ⟨nc, nb, nd, nr, nf, ng, h1, h2, h3, h4, h5, h6, h7, h8, h9, h10, h11, h12⟩ := h
  have q := h2.1
  exact ⟨nc, nb, nd, nr, nf, ng, h1, CNT_c h2 (fun k hk => e k (by omega)), h3, B_su_c h4 (fun k hk => e _ (by omega)), B_two_c h5 (fun k a b => e k (by omega)), B_two_c h6 (fun k a b => e k (by omega)), B_two_c h7 (fun k a b => e k (by omega)), B_nu_c h8 (fun k a b => e k (by omega)), B_fa_c h9 (fun k a b => e k (by omega)), B_si_c h10 (fun k a b => e k (by omega)), B_ar_c h11 (fun k a => e _ (by omega)), B_he_c h12 (fun k a => e _ (by omega))⟩
theorem X_rowCopy {L c n : Nat} {cells cells' : Nat → Int32} (hc : c ≤ L) (hL : L ≤ 16) (hn : n = 5 * L) : ∃ y, f_X4_copyFrom (nI L) (nI c) n cells n cells' = some (nI c, y) ∧ ∀ k, k < 5 * c → y k = cells k := by
  refine ⟨va_cpy cells cells' (0 : Int32).toNatClampNeg (0 : Int32).toNatClampNeg (nI (5 * c)).toNatClampNeg, ?_, fun k hk => ?_⟩
  · unfold f_X4_copyFrom
    have e1 : (if nI c < nI L then nI c else nI L) = nI c := by
      by_cases z : c < L
      · rw [if_pos (nI_lt z (by omega))]
      · rw [show c = L by omega, if_neg Int32.lt_irrefl]
    have e2 : (5 : Int32) * nI c = nI (5 * c) := pk_mul 5 c
    have e3 : gcp 0 0 (nI (5 * c)) n n = true := decide_eq_true (by rw [cl_0, cl_n (by omega)]; exact ⟨by decide, by decide, nI_pos (by omega), by omega, by omega⟩)
    rw [e1, nm_s, e2, e3, chk_t, nm_s]
  · rw [cl_0, cl_n (by omega), pk_cpy_in (by omega) (by omega)]
    congr 1
    omega
theorem cpyLit {f g : Nat → Int32} {n : Int32} {N : Nat} (hn : n.toNatClampNeg = N) : ∀ k, k < N → va_cpy f g (0 : Int32).toNatClampNeg (0 : Int32).toNatClampNeg n.toNatClampNeg k = f k := by
  intro k hk
  rw [cl_0, hn, pk_cpy_in (by omega) (by omega)]
  congr 1
  omega
theorem copyL {rid cll cls bol bos scl scs fal fas sil sis : Int32} {su cl bo sc nu fa si ar he bk : Nat → Int32} (hF : FB rid cll cls bol bos scl scs fal fas sil sis su cl bo sc nu fa si ar he bk) {cll' bol' scl' fal' sil' : Int32} (hL : LIM cll' bol' scl' fal' sil') (su' cl' bo' sc' nu' fa' si' ar' he' : Nat → Int32) :
    ∃ (x1 : Int32) (y2 : Nat → Int32) (x4 : Int32) (y5 : Nat → Int32) (x7 : Int32) (y8 : Nat → Int32) (x10 : Int32) (y11 y14 : Nat → Int32) (x16 : Int32) (y17 : Nat → Int32) (x19 : Int32) (y20 y23 y26 : Nat → Int32), f_X1_copyFrom rid su' su cll' cls 40 cl 40 cl' bol' bos 50 bo 50 bo' scl' scs 50 sc 50 sc' nu' nu fal' fas 80 fa 80 fa' sil' sis 50 si 50 si' ar' ar he' he = some (x1, y2, x4, y5, x7, y8, x10, y11, y14, x16, y17, x19, y20, y23, y26) ∧ FB x1 cll' x4 bol' x7 scl' x10 fal' x16 sil' x19 y2 y5 y8 y11 y14 y17 y20 y23 y26 bk := by
  obtain ⟨nc, nb, nd, nr, nf, ng, h1, h2, h3, h4, h5, h6, h7, h8, h9, h10, h11, h12⟩ := hF
  obtain ⟨⟨n1, n2, n3, n4, n5, n6⟩, k0, k1, k2, k3, k4, k5⟩ := h2
  obtain ⟨s1, s2, s3, s4, s5, s6⟩ := h3
  have hL0 := hL
  obtain ⟨l1, l2, l3, l4, l5⟩ := hL0
  obtain ⟨c1, a1, b1⟩ := X_rowCopy (cells := cl) (cells' := cl') (L := 8) (c := nc) (n := 40) n1 (by decide) rfl
  obtain ⟨c2, a2, b2⟩ := X_rowCopy (cells := bo) (cells' := bo') (L := 10) (c := nb) (n := 50) n2 (by decide) rfl
  obtain ⟨c3, a3, b3⟩ := X_rowCopy (cells := sc) (cells' := sc') (L := 10) (c := nd) (n := 50) n3 (by decide) rfl
  obtain ⟨c4, a4, b4⟩ := X_rowCopy (cells := fa) (cells' := fa') (L := 16) (c := nf) (n := 80) n5 (by decide) rfl
  obtain ⟨c5, a5, b5⟩ := X_rowCopy (cells := si) (cells' := si') (L := 10) (c := ng) (n := 50) n6 (by decide) rfl
  refine ⟨rid, _, nI nc, c1, nI nb, c2, nI nd, c3, _, nI nf, c4, nI ng, c5, _, _, ?_, nc, nb, nd, nr, nf, ng, hL, ⟨⟨n1, n2, n3, n4, n5, n6⟩, k0, k1, k2, k3, k4, k5⟩, ⟨rfl, rfl, rfl, s4, rfl, rfl⟩, B_su_d h4 (cpyLit (g := su') (n := 192) (by decide)), B_two_d h5 b1, B_two_d h6 b2, B_two_d h7 b3, B_nu_d h8 (cpyLit (g := nu') (n := 6) (by decide)), B_fa_d h9 b4, B_si_d h10 b5, B_ar_d h11 (cpyLit (g := ar') (n := 20) (by decide)), B_he_d h12 (cpyLit (g := he') (n := 21) (by decide))⟩
  unfold f_X1_copyFrom
  rw [show gcp 0 0 192 192 192 = true from by decide, chk_t, nm_s, l1, s1, show f_X4_copyFrom (8 : Int32) (nI nc) 40 cl 40 cl' = some (nI nc, c1) from a1, bd2_s, l2, s2, show f_X4_copyFrom (10 : Int32) (nI nb) 50 bo 50 bo' = some (nI nb, c2) from a2, bd2_s, l3, s3, show f_X4_copyFrom (10 : Int32) (nI nd) 50 sc 50 sc' = some (nI nd, c3) from a3, bd2_s, show gcp 0 0 6 6 6 = true from by decide, chk_t, nm_s, l4, s5, show f_X4_copyFrom (16 : Int32) (nI nf) 80 fa 80 fa' = some (nI nf, c4) from a4, bd2_s, l5, s6, show f_X4_copyFrom (10 : Int32) (nI ng) 50 si 50 si' = some (nI ng, c5) from a5, bd2_s, show gcp 0 0 20 20 20 = true from by decide, chk_t, nm_s, show gcp 0 0 21 21 21 = true from by decide, chk_t, nm_s]
theorem bd15_s {t0 t1 t2 t3 t4 t5 t6 t7 t8 t9 t10 t11 t12 t13 t14 r : Type} (a0 : t0) (a1 : t1) (a2 : t2) (a3 : t3) (a4 : t4) (a5 : t5) (a6 : t6) (a7 : t7) (a8 : t8) (a9 : t9) (a10 : t10) (a11 : t11) (a12 : t12) (a13 : t13) (a14 : t14) (k : t0 → t1 → t2 → t3 → t4 → t5 → t6 → t7 → t8 → t9 → t10 → t11 → t12 → t13 → t14 → Option r) : bd15 (some (a0, a1, a2, a3, a4, a5, a6, a7, a8, a9, a10, a11, a12, a13, a14)) k = k a0 a1 a2 a3 a4 a5 a6 a7 a8 a9 a10 a11 a12 a13 a14 := rfl
theorem imgL {bk : Nat → Int32} {p : Nat} (hp : p ≤ 1) : ∀ n i, i + n = 460 → ∀ fu, n < fu → ∀ y : Nat → Int32, ∃ y', f_X10_image_L1 bk (nI p) fu y (nI i) = some y' ∧ (∀ k, i ≤ k → k < 460 → y' (460 * p + k) = bk k) ∧ ∀ j, (j < 460 * p + i ∨ 460 * p + 460 ≤ j) → y' j = y j := by
  intro n
  induction n with
  | zero =>
    intro i hi fu hfu y
    obtain ⟨fu, rfl⟩ : ∃ n, fu = n + 1 := ⟨fu - 1, by omega⟩
    obtain rfl : i = 460 := by omega
    refine ⟨y, ?_, fun k a b => by omega, fun j _ => rfl⟩
    unfold f_X10_image_L1
    rw [if_pos (by decide)]
  | succ n ih =>
    intro i hi fu hfu y
    obtain ⟨fu, rfl⟩ : ∃ n, fu = n + 1 := ⟨fu - 1, by omega⟩
    obtain ⟨y', b1, b2, b3⟩ := ih (i + 1) (by omega) fu (by omega) (upd y (460 * p + i) (bk i))
    refine ⟨y', ?_, fun k a b => ?_, fun j hj => by rw [b3 j (by omega), upd_n _ _ (by omega)]⟩
    · unfold f_X10_image_L1
      rw [if_neg (show ¬ (460 : Int32) ≤ nI i from nI_ge (b := 460) (by omega) (by decide)), gin_n (by omega) (by decide), chk_t, nm_s, show (460 : Int32) * nI p = nI (460 * p) from pk_mul 460 p, nI_add, gin_n (by omega) (by decide), chk_t, nm_s, cl_n (by omega), cl_n (by omega), nI_1]
      exact b1
    · by_cases c : k = i
      · subst c; rw [b3 _ (by omega), upd_s]
      · exact b2 k (by omega) b
theorem frmL {im : Nat → Int32} {p : Nat} (hp : p ≤ 1) : ∀ n i, i + n = 460 → ∀ fu, n < fu → ∀ y : Nat → Int32, ∃ y', f_X10_from_L1 (nI p) im fu y (nI i) = some y' ∧ (∀ k, i ≤ k → k < 460 → y' k = im (460 * p + k)) ∧ ∀ j, j < i → y' j = y j := by
  intro n
  induction n with
  | zero =>
    intro i hi fu hfu y
    obtain ⟨fu, rfl⟩ : ∃ n, fu = n + 1 := ⟨fu - 1, by omega⟩
    obtain rfl : i = 460 := by omega
    refine ⟨y, ?_, fun k a b => by omega, fun j _ => rfl⟩
    unfold f_X10_from_L1
    rw [if_pos (by decide)]
  | succ n ih =>
    intro i hi fu hfu y
    obtain ⟨fu, rfl⟩ : ∃ n, fu = n + 1 := ⟨fu - 1, by omega⟩
    obtain ⟨y', b1, b2, b3⟩ := ih (i + 1) (by omega) fu (by omega) (upd y i (im (460 * p + i)))
    refine ⟨y', ?_, fun k a b => ?_, fun j hj => by rw [b3 j (by omega), upd_n _ _ (by omega)]⟩
    · unfold f_X10_from_L1
      rw [if_neg (show ¬ (460 : Int32) ≤ nI i from nI_ge (b := 460) (by omega) (by decide)), show (460 : Int32) * nI p = nI (460 * p) from pk_mul 460 p, nI_add, gin_n (by omega) (by decide), chk_t, nm_s, gin_n (by omega) (by decide), chk_t, nm_s, cl_n (by omega), cl_n (by omega), nI_1]
      exact b1
    · by_cases c : k = i
      · subst c; rw [b3 _ (by omega), upd_s]
      · exact b2 k (by omega) b
theorem kept2 {f u : Int32} {P : Prop} (h : IMG f u P) (q : Prop) [Decidable q] (hq : ¬ q) : (if f = 0 then (if q then some (1 : Int32) else some 0) else some 1) = some f := by
  rcases h.2 with z | ⟨z, -⟩
  · rw [if_pos z, if_neg hq, z]
  · rw [if_neg (by rw [z]; decide), z]
theorem kept1 (f : Int32) (q : Prop) [Decidable q] (hq : q) : (if f = 0 then (if q then some (1 : Int32) else some 0) else some 1) = some 1 := by
  by_cases z : f = 0
  · rw [if_pos z, if_pos hq]
  · rw [if_neg z]
theorem kept_gz {f u : Int32} {P : Prop} (h : IMG f u P) : gz f = true := by
  rcases h.2 with z | ⟨z, -⟩
  · rw [z]; decide
  · rw [z]; decide
theorem q_image : PP_image INV := by
  intro xi xa mi ma hI p1
  obtain ⟨h1, ⟨hL1, hL2, hL3⟩, h3, h4, h5, h6, h7⟩ := hI
  unfold f_X9_image f_X10_image
  rw [within_eq, bd1_s, in_0_1, bd1_s]
  by_cases c : (0 : Int32) ≤ p1 ∧ p1 ≤ 1
  · obtain ⟨p, hp, rfl⟩ := rng 1 (by decide) c
    rw [bI_t c, if_neg one0, if_neg one0]
    have cs : p = 0 ∨ p = 1 := by omega
    rcases cs with rfl | rfl
    · obtain ⟨x1, y2, x4, y5, x7, y8, x10, y11, y14, x16, y17, x19, y20, y23, y26, e1, e2⟩ := copyL h1 hL2 (xa 18) (xa 19) (xa 20) (xa 21) (xa 22) (xa 23) (xa 24) (xa 25) (xa 26)
      obtain ⟨y', b1, b2, b3⟩ := imgL (bk := ma 0) (p := 0) (by omega) 460 0 rfl FU (FU_big (by omega)) (ma 1)
      rw [show f_X9_imageOf (nI 0) = some 1 from rfl, bd1_s, if_neg (by decide), e1, bd15_s, kept1 (xi 0) (nI 0 = 0) rfl, bd1_s, show gz 1 = true from by decide, chk_t, kept2 h4 (nI 0 = 1) (by decide), bd1_s, kept_gz h4, chk_t]
      rw [show f_X10_image_L1 (ma 0) (nI 0) FU (ma 1) 0 = some y' from b1, bd1_s, show gin (nI 0) 2 = true from by decide, chk_t, nm_s]
      refine ⟨_, _, _, _, _, _, _, _, _, _, _, _, _, _, _, _, _, _, _, _, _, _, _, _, _, _, _, _, _, _, _, _, _, _, _, rfl, rfl, ?_⟩
      unfold INV
      refine ⟨h1, ⟨hL1, hL2, hL3⟩, ?_, ?_, h5, h6, h7⟩
      · refine ⟨?_, Or.inr ⟨rfl, FB_bk e2 (fun k hk => ?_)⟩⟩
        · show (1 : Int32) = upd (ma 2) (nI 0).toNatClampNeg (vp_nar .boolean 1) 0
          rfl
        · have := b2 k (by omega) hk
          rw [Nat.mul_zero, Nat.zero_add] at this
          exact this
      · refine ⟨?_, ?_⟩
        · show xi 1 = upd (ma 2) (nI 0).toNatClampNeg (vp_nar .boolean 1) 1
          exact h4.1
        · rcases h4.2 with z | ⟨z, w⟩
          · exact Or.inl z
          · exact Or.inr ⟨z, FB_bk w (fun k hk => b3 (460 + k) (by omega))⟩
    · obtain ⟨x1, y2, x4, y5, x7, y8, x10, y11, y14, x16, y17, x19, y20, y23, y26, e1, e2⟩ := copyL h1 hL3 (xa 27) (xa 28) (xa 29) (xa 30) (xa 31) (xa 32) (xa 33) (xa 34) (xa 35)
      obtain ⟨y', b1, b2, b3⟩ := imgL (bk := ma 0) (p := 1) (by omega) 460 0 rfl FU (FU_big (by omega)) (ma 1)
      rw [show f_X9_imageOf (nI 1) = some 0 from rfl, bd1_s, if_pos rfl, e1, bd15_s, kept2 h3 (nI 1 = 0) (by decide), bd1_s, kept_gz h3, chk_t, kept1 (xi 1) (nI 1 = 1) rfl, bd1_s, show gz 1 = true from by decide, chk_t]
      rw [show f_X10_image_L1 (ma 0) (nI 1) FU (ma 1) 0 = some y' from b1, bd1_s, show gin (nI 1) 2 = true from by decide, chk_t, nm_s]
      refine ⟨_, _, _, _, _, _, _, _, _, _, _, _, _, _, _, _, _, _, _, _, _, _, _, _, _, _, _, _, _, _, _, _, _, _, _, rfl, rfl, ?_⟩
      unfold INV
      refine ⟨h1, ⟨hL1, hL2, hL3⟩, ?_, ?_, h5, h6, h7⟩
      · refine ⟨?_, ?_⟩
        · show xi 0 = upd (ma 2) (nI 1).toNatClampNeg (vp_nar .boolean 1) 0
          exact h3.1
        · rcases h3.2 with z | ⟨z, w⟩
          · exact Or.inl z
          · exact Or.inr ⟨z, FB_bk w (fun k hk => b3 k (by omega))⟩
      · refine ⟨?_, Or.inr ⟨rfl, FB_bk e2 (fun k hk => ?_)⟩⟩
        · show (1 : Int32) = upd (ma 2) (nI 1).toNatClampNeg (vp_nar .boolean 1) 1
          rfl
        · have := b2 k (by omega) hk
          rw [Nat.mul_one] at this
          exact this
  · rw [bI_f c, if_pos rfl, if_pos rfl]
    refine ⟨_, _, _, _, _, _, _, _, _, _, _, _, _, _, _, _, _, _, _, _, _, _, _, _, _, _, _, _, _, _, _, _, _, _, _, rfl, rfl, ?_⟩
    unfold INV
    exact ⟨h1, ⟨hL1, hL2, hL3⟩, h3, h4, h5, h6, h7⟩
theorem q_from : PP_from INV := by
  intro xi xa mi ma hI p1
  have hI0 := hI
  obtain ⟨h1, ⟨hL1, hL2, hL3⟩, h3, h4, h5, h6, h7⟩ := hI0
  have hL : LIM (xi 3) (xi 5) (xi 7) (xi 9) (xi 11) := by
    obtain ⟨nc, nb, nd, nr, nf, ng, q, -⟩ := h1
    exact q
  unfold f_X9_from f_X10_from
  rw [within_eq, bd1_s, in_0_1, bd1_s]
  by_cases c : (0 : Int32) ≤ p1 ∧ p1 ≤ 1
  · obtain ⟨p, hp, rfl⟩ := rng 1 (by decide) c
    rw [bI_t c, if_neg one0, if_neg one0]
    have cs : p = 0 ∨ p = 1 := by omega
    rcases cs with rfl | rfl
    · rw [if_pos (show nI 0 = (0 : Int32) from rfl), show gin (nI 0) 2 = true from by decide, chk_t, show (nI 0).toNatClampNeg = 0 from by decide, ← h3.1]
      rcases h3.2 with z | ⟨z, w⟩
      · rw [if_pos z, if_pos z]
        refine ⟨_, _, _, _, _, _, _, _, _, _, _, _, _, _, _, _, _, rfl, rfl, ?_⟩
        unfold INV
        exact ⟨h1, ⟨hL1, hL2, hL3⟩, h3, h4, h5, h6, h7⟩
      · obtain ⟨x1, y2, x4, y5, x7, y8, x10, y11, y14, x16, y17, x19, y20, y23, y26, e1, e2⟩ := copyL w hL (xa 0) (xa 1) (xa 2) (xa 3) (xa 4) (xa 5) (xa 6) (xa 7) (xa 8)
        obtain ⟨y', b1, b2, -⟩ := frmL (im := ma 1) (p := 0) (by omega) 460 0 rfl FU (FU_big (by omega)) (ma 0)
        have nz : ¬ xi 0 = 0 := by rw [z]; decide
        rw [if_neg nz, if_neg nz, show f_X9_imageOf (nI 0) = some 1 from rfl, bd1_s, if_neg (by decide), e1, bd15_s, show f_X10_from_L1 (nI 0) (ma 1) FU (ma 0) 0 = some y' from b1, bd1_s]
        refine ⟨_, _, _, _, _, _, _, _, _, _, _, _, _, _, _, _, _, rfl, rfl, ?_⟩
        unfold INV
        refine ⟨FB_bk e2 (fun k hk => ?_), ⟨hL1, hL2, hL3⟩, h3, h4, h5, h6, h7⟩
        have := b2 k (by omega) hk
        rw [Nat.mul_zero, Nat.zero_add] at this
        exact this
    · rw [if_neg (show ¬ nI 1 = (0 : Int32) from by decide), show gin (nI 1) 2 = true from by decide, chk_t, show (nI 1).toNatClampNeg = 1 from by decide, ← h4.1]
      rcases h4.2 with z | ⟨z, w⟩
      · rw [if_pos z, if_pos z]
        refine ⟨_, _, _, _, _, _, _, _, _, _, _, _, _, _, _, _, _, rfl, rfl, ?_⟩
        unfold INV
        exact ⟨h1, ⟨hL1, hL2, hL3⟩, h3, h4, h5, h6, h7⟩
      · obtain ⟨x1, y2, x4, y5, x7, y8, x10, y11, y14, x16, y17, x19, y20, y23, y26, e1, e2⟩ := copyL w hL (xa 0) (xa 1) (xa 2) (xa 3) (xa 4) (xa 5) (xa 6) (xa 7) (xa 8)
        obtain ⟨y', b1, b2, -⟩ := frmL (im := ma 1) (p := 1) (by omega) 460 0 rfl FU (FU_big (by omega)) (ma 0)
        have nz : ¬ xi 1 = 0 := by rw [z]; decide
        rw [if_neg nz, if_neg nz, show f_X9_imageOf (nI 1) = some 0 from rfl, bd1_s, if_pos rfl, e1, bd15_s, show f_X10_from_L1 (nI 1) (ma 1) FU (ma 0) 0 = some y' from b1, bd1_s]
        refine ⟨_, _, _, _, _, _, _, _, _, _, _, _, _, _, _, _, _, rfl, rfl, ?_⟩
        unfold INV
        refine ⟨FB_bk e2 (fun k hk => ?_), ⟨hL1, hL2, hL3⟩, h3, h4, h5, h6, h7⟩
        have := b2 k (by omega) hk
        rw [Nat.mul_one] at this
        exact this
  · rw [bI_f c, if_pos rfl, if_pos rfl]
    refine ⟨_, _, _, _, _, _, _, _, _, _, _, _, _, _, _, _, _, rfl, rfl, ?_⟩
    unfold INV
    exact ⟨h1, ⟨hL1, hL2, hL3⟩, h3, h4, h5, h6, h7⟩
