/-! ===== fewest ===== -/
section FW
variable {sl fa nf nr : Nat} {g : Nat → Int32}
theorem X_seekL (hG : FG sl fa nf nr g) {ro ol lw hg : Nat → Int32} (hT : ∀ q, q < nf → TK sl fa g ro ol lw hg q) {m : Nat} : ∀ (r : List Nat) (x w : Nat), gcB (x :: r) = true → (∀ y, y ∈ x :: r → y < 65536 ∧ pc 16 y = m) → List.Pairwise (fun a b => a < b) (x :: r) → w + (x :: r).length < 2000 → (∀ o, o < 2 ^ nf → pc 16 o = m → CONS sl fa nf g (2 ^ nf - 1 - o) → o ∈ x :: r) → ∀ fu, (x :: r).length < fu → ∀ gr le : Nat → Int32, ∃ q gr' le' x', f_X0_seekLeftOut_L4 (nI (2 ^ nf - 1)) (nI nf) ro lw hg ol fu gr le (nI x) (nI w) = some (q, gr', le', x') ∧ ((q = 0 ∧ ∃ o, o < 2 ^ nf ∧ pc 16 o = m ∧ x' = nI o ∧ CONS sl fa nf g (2 ^ nf - 1 - o) ∧ ∀ o', o' < 2 ^ nf → pc 16 o' = m → CONS sl fa nf g (2 ^ nf - 1 - o') → o ≤ o') ∨ (q = 1 ∧ ∀ o', o' < 2 ^ nf → pc 16 o' = m → ¬ CONS sl fa nf g (2 ^ nf - 1 - o'))) := by
  have hn := hG.1
  have hp := pw16 hn
  have hp1 := Nat.two_pow_pos nf
  intro r
  induction r with
  | nil =>
    intro x w hg1 hg2 hg3 hw hc fu hfu gr le
    obtain ⟨fu, rfl⟩ : ∃ n, fu = n + 1 := ⟨fu - 1, by omega⟩
    rw [List.length_singleton] at hw hfu
    have hx := hg2 x (List.mem_singleton.mpr rfl)
    unfold f_X0_seekLeftOut_L4
    rw [if_neg (show ¬ (2000 : Int32) ≤ nI w from nI_ge (b := 2000) (by omega) (by decide))]
    by_cases c : 2 ^ nf - 1 < x
    · rw [if_pos (nI_lt c (by omega))]
      exact ⟨1, gr, le, nI x, rfl, Or.inr ⟨rfl, fun o' h1 h2 h3 => by have := List.mem_singleton.mp (hc o' h1 h2 h3); omega⟩⟩
    · rw [if_neg (nI_nlt (by omega) (by omega)), cmpl hn (by omega)]
      obtain ⟨rr, lo', hi', a1, a2⟩ := X_join hG (S := 2 ^ nf - 1 - x) (by omega) hT le gr
      rw [a1, bd3_s]
      rcases a2 with ⟨rfl, l, h, d1, d2, d3⟩ | ⟨rfl, d1⟩
      · rw [if_neg one0]
        exact ⟨0, hi', lo', nI x, rfl, Or.inl ⟨rfl, x, by omega, hx.2, rfl, ⟨l, (SOL_iff hG).mp d3.1⟩, fun o' h1 h2 h3 => by have := List.mem_singleton.mp (hc o' h1 h2 h3); omega⟩⟩
      · rw [if_pos rfl]
        have hz : ∃ o, f_X0_nextOfAsManyBits (nI x) = some o ∧ nI 65535 < o := by
          unfold gcB at hg1
          generalize f_X0_nextOfAsManyBits (nI x) = z at hg1
          cases z with
          | none => exact absurd hg1 (by decide)
          | some o => exact ⟨o, rfl, of_decide_eq_true hg1⟩
        obtain ⟨o, e1, e2⟩ := hz
        rw [e1, bd1_s]
        obtain ⟨fu, rfl⟩ : ∃ n, fu = n + 1 := ⟨fu - 1, by omega⟩
        unfold f_X0_seekLeftOut_L4
        rw [nI_1, if_neg (show ¬ (2000 : Int32) ≤ nI (w + 1) from nI_ge (b := 2000) (by omega) (by decide)), if_pos (show nI (2 ^ nf - 1) < o from Int32.lt_of_le_of_lt (nI_le (by omega) (by decide)) e2)]
        exact ⟨1, hi', lo', o, rfl, Or.inr ⟨rfl, fun o' h1 h2 h3 => by
          have := List.mem_singleton.mp (hc o' h1 h2 h3)
          subst this
          exact d1 h3⟩⟩
  | cons y r ih =>
    intro x w hg1 hg2 hg3 hw hc fu hfu gr le
    obtain ⟨fu, rfl⟩ : ∃ n, fu = n + 1 := ⟨fu - 1, by omega⟩
    rw [List.length_cons] at hw hfu
    have hx := hg2 x List.mem_cons_self
    obtain ⟨p1, p2⟩ := List.pairwise_cons.mp hg3
    have hle : ∀ o', o' < 2 ^ nf → pc 16 o' = m → CONS sl fa nf g (2 ^ nf - 1 - o') → x ≤ o' := fun o' h1 h2 h3 => by
      rcases List.mem_cons.mp (hc o' h1 h2 h3) with rfl | h
      · exact Nat.le_refl _
      · exact Nat.le_of_lt (p1 o' h)
    unfold f_X0_seekLeftOut_L4
    rw [if_neg (show ¬ (2000 : Int32) ≤ nI w from nI_ge (b := 2000) (by omega) (by decide))]
    by_cases c : 2 ^ nf - 1 < x
    · rw [if_pos (nI_lt c (by omega))]
      exact ⟨1, gr, le, nI x, rfl, Or.inr ⟨rfl, fun o' h1 h2 h3 => by have := hle o' h1 h2 h3; omega⟩⟩
    · rw [if_neg (nI_nlt (by omega) (by omega)), cmpl hn (by omega)]
      obtain ⟨rr, lo', hi', a1, a2⟩ := X_join hG (S := 2 ^ nf - 1 - x) (by omega) hT le gr
      rw [a1, bd3_s]
      rcases a2 with ⟨rfl, l, h, d1, d2, d3⟩ | ⟨rfl, d1⟩
      · rw [if_neg one0]
        exact ⟨0, hi', lo', nI x, rfl, Or.inl ⟨rfl, x, by omega, hx.2, rfl, ⟨l, (SOL_iff hG).mp d3.1⟩, hle⟩⟩
      · rw [if_pos rfl]
        unfold gcB at hg1
        rw [Bool.and_eq_true, decide_eq_true_iff] at hg1
        obtain ⟨q, gr', le', x', b1, b2⟩ := ih y (w + 1) hg1.2 (fun z hz => hg2 z (List.mem_cons_of_mem _ hz)) p2 (by omega) (fun o' h1 h2 h3 => by
          rcases List.mem_cons.mp (hc o' h1 h2 h3) with rfl | h
          · exact absurd h3 d1
          · exact h) fu (by omega) hi' lo'
        rw [hg1.1, bd1_s, nI_1]
        exact ⟨q, gr', le', x', b1, b2⟩
theorem X_manyL (hG : FG sl fa nf nr g) {ro ol lw hg : Nat → Int32} (hT : ∀ q, q < nf → TK sl fa g ro ol lw hg q) : ∀ n m, 1 ≤ m → m + n = 5 → (∀ o', o' < 2 ^ nf → CONS sl fa nf g (2 ^ nf - 1 - o') → m ≤ pc 16 o') → ∀ fu, n < fu → ∀ gr le : Nat → Int32, ∃ q gr' le' x', f_X0_seekLeftOut_L3 (nI (2 ^ nf - 1)) (nI nf) ro lw hg ol fu gr le (nI m) = some (q, gr', le', x') ∧ ((q = 0 ∧ FewS sl fa nf g x') ∨ (q = 1 ∧ FewS sl fa nf g (-5))) := by
  have hn := hG.1
  have hp := pw16 hn
  intro n
  induction n with
  | zero =>
    intro m h1 hm hq fu hfu gr le
    obtain ⟨fu, rfl⟩ : ∃ n, fu = n + 1 := ⟨fu - 1, by omega⟩
    obtain rfl : m = 5 := by omega
    refine ⟨1, gr, le, 0, ?_, Or.inr ⟨rfl, Or.inr ⟨rfl, fun o' ho hc => hq o' ho hc⟩⟩⟩
    unfold f_X0_seekLeftOut_L3
    rw [if_pos (by decide)]
  | succ n ih =>
    intro m h1 hm hq fu hfu gr le
    obtain ⟨fu, rfl⟩ : ∃ n, fu = n + 1 := ⟨fu - 1, by omega⟩
    obtain ⟨hh, hl⟩ := gh m (by omega)
    have hg := gcm h1 (show m ≤ 4 by omega)
    have hmem := lst_mem 16 m
    have hsrt := lst_srt 16 m
    obtain ⟨x, r, hr⟩ : ∃ x r, lst 16 m = x :: r := by
      generalize lst 16 m = z at hh
      cases z with
      | nil => exact nomatch hh
      | cons x r => exact ⟨x, r, rfl⟩
    rw [hr] at hh hl hg hmem hsrt
    have hx : x = 2 ^ m - 1 := Option.some.inj hh
    obtain ⟨q, gr', le', x', a1, a2⟩ := X_seekL hG hT (m := m) r x 0 hg (fun y hy => by have := (hmem y).mp hy; exact ⟨this.1, this.2⟩) hsrt (by omega) (fun o ho h2 h3 => (hmem o).mpr ⟨by omega, h2⟩) FU (FU_big (by omega)) gr le
    rw [hx] at a1
    have a1' : f_X0_seekLeftOut_L4 (nI (2 ^ nf - 1)) (nI nf) ro lw _ ol FU gr le (nI (2 ^ m - 1)) 0 = some (q, gr', le', x') := a1
    unfold f_X0_seekLeftOut_L3
    rw [if_neg (show ¬ (4 : Int32) < nI m from nI_nlt (a := 4) (by omega) (by decide)), shl1 _ (by omega), show nI (2 ^ m) - 1 = nI (2 ^ m - 1) from pk_sub (b := 1) (Nat.two_pow_pos _), nm_s, a1', bd4_s]
    rcases a2 with ⟨rfl, o, o1, o2, rfl, o3, o4⟩ | ⟨rfl, a2⟩
    · rw [if_pos rfl]
      refine ⟨0, gr', le', nI o, rfl, Or.inl ⟨rfl, Or.inl ⟨o, o1, rfl, by omega, o3, fun o' h1 h2 => ?_⟩⟩⟩
      have := hq o' h1 h2
      by_cases e : pc 16 o' = m
      · exact Or.inr ⟨by omega, o4 o' h1 e h2⟩
      · exact Or.inl (by omega)
    · rw [if_neg (by decide), nI_1]
      exact ih (m + 1) (by omega) (by omega) (fun o' h1 h2 => by
        have := hq o' h1 h2
        have : pc 16 o' ≠ m := fun e => a2 o' h1 e h2
        omega) fu (by omega) gr' le'
theorem X_seek (hG : FG sl fa nf nr g) {ro ol lw hg : Nat → Int32} (hT : ∀ q, q < nf → TK sl fa g ro ol lw hg q) (le gr : Nat → Int32) : ∃ r le' gr', f_X0_seekLeftOut (nI nf) le gr ro lw hg ol (nI (2 ^ nf - 1)) = some (r, le', gr') ∧ FewS sl fa nf g r := by
  have hn := hG.1
  have hp := pw16 hn
  have hp1 := Nat.two_pow_pos nf
  obtain ⟨rr, lo', hi', a1, a2⟩ := X_join hG (S := 2 ^ nf - 1) (by omega) hT le gr
  unfold f_X0_seekLeftOut
  rw [a1, bd3_s]
  rcases a2 with ⟨rfl, l, h, d1, d2, d3⟩ | ⟨rfl, d1⟩
  · rw [if_neg one0]
    refine ⟨0, lo', hi', rfl, Or.inl ⟨0, hp1, rfl, by rw [pc_0]; omega, ⟨l, (SOL_iff hG).mp d3.1⟩, fun o' h1 h2 => ?_⟩⟩
    rw [pc_0]
    omega
  · rw [if_pos rfl]
    obtain ⟨q, gr', le', x', b1, b2⟩ := X_manyL hG hT 4 1 (by omega) rfl (fun o' h1 h2 => by
      refine Nat.one_le_iff_ne_zero.mpr fun e => ?_
      have := pc_z 16 o' (by omega) e
      subst this
      exact d1 h2) FU (FU_big (by decide)) hi' lo'
    have b1' : f_X0_seekLeftOut_L3 (nI (2 ^ nf - 1)) (nI nf) ro lw hg ol FU hi' lo' 1 = some (q, gr', le', x') := b1
    rw [b1', bd4_s]
    rcases b2 with ⟨rfl, h⟩ | ⟨rfl, h⟩
    · rw [if_pos rfl]
      exact ⟨x', le', gr', rfl, h⟩
    · rw [if_neg (by decide)]
      exact ⟨-5, le', gr', rfl, h⟩
theorem X_leftOut (hG : FG sl fa nf nr g) (hsl : 1 ≤ sl) {nu : Nat → Int32} (h4 : nu 4 = nI sl) (h5 : nu 5 = nI fa) {lim siz sS sF out : Int32} {cells : Nat → Int32} (hA : ACI lim siz sS sF out cells) (tk : Int32) (ro ol lw hg le gr : Nat → Int32) :
    ∃ (r tk' sS' sF' : Int32) (ro' ol' lw' hg' le' gr' : Nat → Int32) (siz' : Int32) (cells' : Nat → Int32), f_X0_leftOut nu tk sS sF out (nI nf) 80 g ro ol lw hg le gr lim siz 80 cells = some (r, tk', sS', sF', r, ro', ol', lw', hg', le', gr', siz', cells') ∧ FewS sl fa nf g r ∧ ACI lim siz' sS' sF' r cells' := by
  have hn := hG.1
  obtain ⟨-, s99, f99, -⟩ := hG.2
  obtain ⟨rfl, hA⟩ := hA
  obtain ⟨ro', ol', lw', hg', a1, a2⟩ := X_take hG h4 h5 ro ol lw hg
  obtain ⟨r, le', gr', b1, b2⟩ := X_seek hG a2 le gr
  obtain ⟨c', c1, c2⟩ := X_rowCopy (L := 16) (c := nf) (n := 80) (cells := g) (cells' := cells) hn (by decide) rfl
  have c1' : f_X4_copyFrom (16 : Int32) (nI nf) 80 g 80 cells = some (nI nf, c') := c1
  have hF : ACI 16 (nI nf) (nI sl) (nI fa) r c' := ⟨rfl, Or.inr ⟨nf, hn, rfl, by
    rw [vN_n (by omega), vN_n (by omega)]
    exact FewS_c (fun i hi j hj => c2 _ (by omega)) b2⟩⟩
  unfold f_X0_leftOut
  rw [show gin (4 : Int32) 6 = true from by decide, chk_t, show (4 : Int32).toNatClampNeg = 4 from by decide, h4, nm_s, show gin (5 : Int32) 6 = true from by decide, chk_t, show (5 : Int32).toNatClampNeg = 5 from by decide, h5, nm_s, a1, bd5_s, bitsAll hn, bd1_s, b1, bd3_s, c1', bd2_s]
  by_cases c : nI sl = sS
  · rw [if_pos c]
    by_cases d : nI fa = sF
    · rw [if_pos d]
      rcases hA with z | ⟨nf', n1, n2, n3⟩
      · exact absurd (c.trans z) (nI_ne0 (by omega) (by omega))
      · obtain ⟨q, r1, r2⟩ := likeAll (A := cells) (B := g) (a := nf') (b := nf) (n0 := 80) (m0 := 80) (by omega) (by omega) (by omega) (by omega) (by decide) (by decide)
        rw [n2, r1, bd1_s]
        rcases r2 with rfl | ⟨rfl, rfl, e⟩
        · rw [if_pos rfl]
          exact ⟨_, _, _, _, _, _, _, _, _, _, _, _, rfl, b2, hF⟩
        · rw [if_neg one0]
          rw [← c, ← d, vN_n (by omega), vN_n (by omega)] at n3
          refine ⟨_, _, _, _, _, _, _, _, _, _, _, _, rfl, FewS_c (fun i hi j hj => (e i hi j hj).symm) n3, rfl, Or.inr ⟨nf', n1, rfl, ?_⟩⟩
          rw [← c, ← d, vN_n (by omega), vN_n (by omega)]
          exact n3
    · rw [if_neg d]
      exact ⟨_, _, _, _, _, _, _, _, _, _, _, _, rfl, b2, hF⟩
  · rw [if_neg c]
    exact ⟨_, _, _, _, _, _, _, _, _, _, _, _, rfl, b2, hF⟩
/-! the reference -/
theorem M_sizeL : ∀ k v acc fu, v < 2 ^ k → k ≤ 16 → k < fu → f_X10_sizeOf_L1 fu (nI acc) (nI v) = some (nI (acc + pc k v))
  | 0, v, acc, fu, h, _, hfu => by
    obtain ⟨fu, rfl⟩ : ∃ n, fu = n + 1 := ⟨fu - 1, by omega⟩
    have : v = 0 := by rw [Nat.pow_zero] at h; omega
    subst this
    unfold f_X10_sizeOf_L1
    rw [if_pos (by decide)]
    rfl
  | k + 1, v, acc, fu, h, hk, hfu => by
    obtain ⟨fu, rfl⟩ : ∃ n, fu = n + 1 := ⟨fu - 1, by omega⟩
    have hp : 2 ^ (k + 1) ≤ 2 ^ 16 := Nat.pow_le_pow_right (by omega) hk
    have h16 : (2 : Nat) ^ 16 = 65536 := rfl
    unfold f_X10_sizeOf_L1
    by_cases c : v = 0
    · subst c
      rw [if_pos (by decide), pc_0, Nat.add_zero]
    · have ih := M_sizeL k (v / 2) (acc + v % 2) fu (by rw [Nat.pow_succ] at h; omega) (by omega) (by omega)
      rw [if_neg (nI_nle (by omega) (by omega)), pk_andN (m := 1) (by omega) 1 (by decide), Nat.pow_one, nI_add, nm_s, pk_shrN (by omega) _ 1 (by decide), Nat.pow_one, nm_s, ih, pc_s, Nat.add_assoc]
theorem M_size {v : Nat} (h : v < 65536) : f_X10_sizeOf (nI v) = some (nI (pc 16 v)) := by
  have := M_sizeL 16 v 0 FU h (Nat.le_refl _) (FU_big (by decide))
  rw [Nat.zero_add] at this
  unfold f_X10_sizeOf
  rw [show f_X10_sizeOf_L1 FU 0 (nI v) = _ from this, bd1_s]
theorem pc_le : ∀ k v, pc k v ≤ k
  | 0, _ => Nat.le_refl _
  | k + 1, v => by
    have := pc_le k (v / 2)
    rw [pc_s]
    omega
theorem M_all {bk : Nat → Int32} (hn : nf ≤ 16) (h4 : bk 4 = nI nf) : f_X10_all bk = some (nI (2 ^ nf - 1)) := by
  unfold f_X10_all
  rw [show gin (4 : Int32) 460 = true from by decide, chk_t, show bk (4 : Int32).toNatClampNeg = nI nf from h4, shl1 _ (by omega), show nI (2 ^ nf) - 1 = nI (2 ^ nf - 1) from pk_sub (b := 1) (Nat.two_pow_pos _)]
theorem M_outL (hG : FG sl fa nf nr g) {bk : Nat → Int32} (hB : FBK sl fa nf nr g bk) (th kage : Int32) {sz : Nat} (hsz : sz ≤ 4) : ∀ n i, i + n = 2 ^ nf → (∀ o', o' < i → pc 16 o' = sz → ¬ CONS sl fa nf g (2 ^ nf - 1 - o')) → ∀ fu, n < fu → ∀ (hi lo : Nat → Int32) (no kn mv : Int32), ∃ q hi' lo' no' kn' mv' x', f_X10_findFewest_L4 bk (nI sz) th kage fu hi lo no kn mv (nI i) = some (q, hi', lo', no', kn', mv', x') ∧ ((q = 0 ∧ ∃ o, o < 2 ^ nf ∧ pc 16 o = sz ∧ x' = nI o ∧ CONS sl fa nf g (2 ^ nf - 1 - o) ∧ ∀ o', o' < 2 ^ nf → pc 16 o' = sz → CONS sl fa nf g (2 ^ nf - 1 - o') → o ≤ o') ∨ (q = 1 ∧ ∀ o', o' < 2 ^ nf → pc 16 o' = sz → ¬ CONS sl fa nf g (2 ^ nf - 1 - o'))) := by
  have hn := hG.1
  have hp := pw16 hn
  have hp1 := Nat.two_pow_pos nf
  have hall := M_all hn hB.2.1
  intro n
  induction n with
  | zero =>
    intro i hi' hq fu hfu hi lo no kn mv
    obtain ⟨fu, rfl⟩ : ∃ n, fu = n + 1 := ⟨fu - 1, by omega⟩
    obtain rfl : i = 2 ^ nf := by omega
    refine ⟨1, hi, lo, no, kn, mv, nI (2 ^ nf), ?_, Or.inr ⟨rfl, hq⟩⟩
    unfold f_X10_findFewest_L4
    rw [hall, bd1_s, if_pos (nI_lt (by omega) (by omega))]
  | succ n ih =>
    intro i hi' hq fu hfu hi lo no kn mv
    obtain ⟨fu, rfl⟩ : ∃ n, fu = n + 1 := ⟨fu - 1, by omega⟩
    unfold f_X10_findFewest_L4
    rw [hall, bd1_s, if_neg (nI_nlt (by omega) (by omega)), M_size (by omega), bd1_s]
    by_cases c : pc 16 i = sz
    · rw [if_pos (by rw [c]), bd1_s, cmpl hn (by omega)]
      obtain ⟨r2, mv2, lo2, hi2, b1, b2⟩ := M_plain hG hB (S := 2 ^ nf - 1 - i) (by omega) th kage lo hi
      rw [b1, bd6_s]
      rcases b2 with ⟨rfl, l2, h2, e1, e2, e3⟩ | ⟨rfl, e1⟩
      · rw [if_neg one0]
        refine ⟨0, _, _, _, _, _, _, rfl, Or.inl ⟨rfl, i, by omega, c, rfl, ⟨l2, (SOL_iff hG).mp e3.1⟩, fun o' h1 h2 h3 => ?_⟩⟩
        exact Nat.le_of_not_lt fun z => hq o' z h2 h3
      · rw [if_pos rfl, nI_1]
        exact ih (i + 1) (by omega) (fun o' h1 h2 h3 => by
          by_cases e : o' = i
          · subst e; exact e1 h3
          · exact hq o' (by omega) h2 h3) fu (by omega) _ _ _ _ _
    · have := pc_le 16 i
      rw [if_neg (fun z => c ((nI_eq (by omega) (by omega)).mp z)), nI_1]
      exact ih (i + 1) (by omega) (fun o' h1 h2 h3 => by
        by_cases e : o' = i
        · subst e; exact c h2
        · exact hq o' (by omega) h2 h3) fu (by omega) _ _ _ _ _
theorem M_sizesL (hG : FG sl fa nf nr g) {bk : Nat → Int32} (hB : FBK sl fa nf nr g bk) (th kage : Int32) : ∀ n m, m + n = 5 → (∀ o', o' < 2 ^ nf → CONS sl fa nf g (2 ^ nf - 1 - o') → m ≤ pc 16 o') → ∀ fu, n < fu → ∀ (hi lo : Nat → Int32) (no kn mv : Int32), ∃ q hi' lo' no' kn' mv' x', f_X10_findFewest_L3 bk th kage fu hi lo no kn mv (nI m) = some (q, hi', lo', no', kn', mv', x') ∧ ((q = 0 ∧ FewS sl fa nf g x') ∨ (q = 1 ∧ FewS sl fa nf g (-5))) := by
  have hp := pw16 hG.1
  intro n
  induction n with
  | zero =>
    intro m hm hq fu hfu hi lo no kn mv
    obtain ⟨fu, rfl⟩ : ∃ n, fu = n + 1 := ⟨fu - 1, by omega⟩
    obtain rfl : m = 5 := by omega
    refine ⟨1, hi, lo, no, kn, mv, 0, ?_, Or.inr ⟨rfl, Or.inr ⟨rfl, fun o' ho hc => hq o' ho hc⟩⟩⟩
    unfold f_X10_findFewest_L3
    rw [if_pos (by decide)]
  | succ n ih =>
    intro m hm hq fu hfu hi lo no kn mv
    obtain ⟨fu, rfl⟩ : ∃ n, fu = n + 1 := ⟨fu - 1, by omega⟩
    obtain ⟨q, hi', lo', no', kn', mv', x', a1, a2⟩ := M_outL hG hB th kage (show m ≤ 4 by omega) (2 ^ nf) 0 (by omega) (fun o' h => by omega) FU (FU_big (by omega)) hi lo no kn mv
    have a1' : f_X10_findFewest_L4 bk (nI m) th kage FU hi lo no kn mv 0 = some (q, hi', lo', no', kn', mv', x') := a1
    unfold f_X10_findFewest_L3
    rw [if_neg (show ¬ (5 : Int32) ≤ nI m from nI_ge (b := 5) (by omega) (by decide)), a1', bd7_s]
    rcases a2 with ⟨rfl, o, o1, o2, rfl, o3, o4⟩ | ⟨rfl, a2⟩
    · rw [if_pos rfl]
      refine ⟨0, _, _, _, _, _, _, rfl, Or.inl ⟨rfl, Or.inl ⟨o, o1, rfl, by omega, o3, fun o' h1 h2 => ?_⟩⟩⟩
      have := hq o' h1 h2
      by_cases e : pc 16 o' = m
      · exact Or.inr ⟨by omega, o4 o' h1 e h2⟩
      · exact Or.inl (by omega)
    · rw [if_neg (by decide), nI_1]
      exact ih (m + 1) (by omega) (fun o' h1 h2 => by
        have := hq o' h1 h2
        have : pc 16 o' ≠ m := fun e => a2 o' h1 e h2
        omega) fu (by omega) _ _ _ _ _
theorem M_few (hG : FG sl fa nf nr g) {bk : Nat → Int32} (hB : FBK sl fa nf nr g bk) (no th kn kage mv : Int32) (lo hi : Nat → Int32) : ∃ r no' kn' mv' lo' hi', f_X10_findFewest no th kn kage mv bk lo hi = some (r, no', kn', mv', lo', hi') ∧ FewS sl fa nf g r := by
  obtain ⟨q, hi', lo', no', kn', mv', x', a1, a2⟩ := M_sizesL hG hB th kage 5 0 rfl (fun _ _ _ => Nat.zero_le _) FU (FU_big (by decide)) hi lo no kn mv
  have a1' : f_X10_findFewest_L3 bk th kage FU hi lo no kn mv 0 = some (q, hi', lo', no', kn', mv', x') := a1
  unfold f_X10_findFewest
  rw [a1', bd7_s]
  rcases a2 with ⟨rfl, h⟩ | ⟨rfl, h⟩
  · rw [if_pos rfl]
    exact ⟨_, _, _, _, _, _, rfl, h⟩
  · rw [if_neg (by decide)]
    exact ⟨_, _, _, _, _, _, rfl, h⟩
end FW
theorem bd13_s {t0 t1 t2 t3 t4 t5 t6 t7 t8 t9 t10 t11 t12 r : Type} (a0 : t0) (a1 : t1) (a2 : t2) (a3 : t3) (a4 : t4) (a5 : t5) (a6 : t6) (a7 : t7) (a8 : t8) (a9 : t9) (a10 : t10) (a11 : t11) (a12 : t12) (k : t0 → t1 → t2 → t3 → t4 → t5 → t6 → t7 → t8 → t9 → t10 → t11 → t12 → Option r) : bd13 (some (a0, a1, a2, a3, a4, a5, a6, a7, a8, a9, a10, a11, a12)) k = k a0 a1 a2 a3 a4 a5 a6 a7 a8 a9 a10 a11 a12 := rfl
theorem q_fewest : PP_fewest INV := by
  intro xi xa mi ma hI _
  obtain ⟨nr, nf, sl, fa, s2, s10, h4, h5, hsl, hG, hB⟩ := ageS hI
  obtain ⟨r, tk', sS', sF', ro', ol', lw', hg', le', gr', siz', cells', a1, a2, a3⟩ := X_leftOut hG hsl h4 h5 hI.2.2.2.2.2.1 (xi 46) (xa 43) (xa 44) (xa 45) (xa 46) (xa 39) (xa 40)
  obtain ⟨r2, no', kn', mv', lo', hi', b1, b2⟩ := M_few hG hB (mi 0) (mi 1) (mi 2) (mi 3) (mi 4) (ma 9) (ma 10)
  have e := FewS_u a2 b2
  subst e
  refine ⟨r, tk', sS', sF', r, ro', ol', lw', hg', le', gr', siz', cells', no', kn', mv', lo', hi', ?_, ?_, ?_⟩
  · unfold f_X9_fewest
    rw [s10, a1, bd13_s]
  · unfold f_X10_fewest
    rw [b1, bd6_s]
  · refine INV_x hI ?_ ?_ ?_ ?_ ?_ ?_
    · simp (disch := omega) only [va_up_ne, va_up_self]
      exact a3
    · simp (disch := omega) only [va_up_ne, va_up_self]
      exact hI.2.2.2.2.2.2
    · intro k hk
      simp (disch := omega) only [va_up_ne]
    · intro k hk
      simp (disch := omega) only [va_up_ne]
    · simp (disch := omega) only [va_up_ne]
    · intro k hk
      simp (disch := omega) only [va_up_ne]
