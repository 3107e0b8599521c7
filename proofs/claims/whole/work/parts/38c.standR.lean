/-! ===== stand: the first row ===== -/
section STR
variable {ng st : Nat} {g bk : Nat → Int32}
/-- what a front of a year costs in the first row -/
def GG (st ng : Nat) (g : Nat → Int32) : Nat → Nat → Nat
  | 0 => fun x => Wd st ng g 39 x 0
  | j + 1 => fun t => if dst (rwN st ng g j).1 t ≤ st then dst (rwN st ng g j).1 t + Wd st ng g (38 - j) t (rwN st ng g (j + 1)).2 else 1000000
def lfY (st ng : Nat) (g : Nat → Int32) : Nat → Nat
  | 0 => tvN st ng g
  | j + 1 => Wd st ng g (39 - j) (rwN st ng g j).1 (rwN st ng g j).2
def atY (st ng : Nat) (g : Nat → Int32) : Nat → Int32
  | 0 => -1
  | j + 1 => nI (rwN st ng g j).1
def spY (st ng : Nat) (g : Nat → Int32) : Nat → Nat → Nat
  | 0 => fun _ => 0
  | j + 1 => fun x => dst (rwN st ng g j).1 x
theorem rwN_0 : rwN st ng g 0 = (amF (fun x => Wd st ng g 39 x 0) 21, 0) := by rw [rwN]
theorem rwN_s (y : Nat) : rwN st ng g (y + 1) = (amF (fun t => if dst (rwN st ng g y).1 t ≤ st then dst (rwN st ng g y).1 t + Wd st ng g (38 - y) t ((rwN st ng g y).2 ||| metN g y (rwN st ng g y).1 ng) else 1000000) 21, (rwN st ng g y).2 ||| metN g y (rwN st ng g y).1 ng) := by rw [rwN]
theorem GG_0 : GG st ng g 0 = fun x => Wd st ng g 39 x 0 := by rw [GG]
theorem GG_s (j : Nat) : GG st ng g (j + 1) = fun t => if dst (rwN st ng g j).1 t ≤ st then dst (rwN st ng g j).1 t + Wd st ng g (38 - j) t (rwN st ng g (j + 1)).2 else 1000000 := by rw [GG]
theorem GG_0x (x : Nat) : GG st ng g 0 x = Wd st ng g 39 x 0 := by rw [GG]
theorem GG_sx (j t : Nat) : GG st ng g (j + 1) t = if dst (rwN st ng g j).1 t ≤ st then dst (rwN st ng g j).1 t + Wd st ng g (38 - j) t (rwN st ng g (j + 1)).2 else 1000000 := by rw [GG]
theorem lfY_0 : lfY st ng g 0 = tvN st ng g := by rw [lfY]
theorem lfY_s (j : Nat) : lfY st ng g (j + 1) = Wd st ng g (39 - j) (rwN st ng g j).1 (rwN st ng g j).2 := by rw [lfY]
theorem tvN_e : tvN st ng g = mnF (fun x => Wd st ng g 39 x 0) 21 := by rw [tvN]
theorem rw_2s (y : Nat) : (rwN st ng g (y + 1)).2 = (rwN st ng g y).2 ||| metN g y (rwN st ng g y).1 ng := by rw [rwN_s]
theorem rw_20 : (rwN st ng g 0).2 = 0 := by rw [rwN_0]
theorem rw_am (y : Nat) : (rwN st ng g y).1 = amF (GG st ng g y) 21 := by
  cases y with
  | zero => rw [rwN_0, GG_0]
  | succ j => rw [GG_s, rw_2s, rwN_s]
theorem Wd_e (k x m : Nat) : Wd st ng g (k + 1) x m = if frB g (38 - k) x ng = true then mnF (fun t => if dst x t ≤ st then dst x t + Wd st ng g k t (m ||| metN g (38 - k) x ng) else 1000000) 21 else 1000000 := by rw [Wd]
theorem Wd_s {k x m : Nat} (h : Wd st ng g (k + 1) x m < 1000000) : frB g (38 - k) x ng = true ∧ Wd st ng g (k + 1) x m = mnF (fun t => if dst x t ≤ st then dst x t + Wd st ng g k t (m ||| metN g (38 - k) x ng) else 1000000) 21 := by
  rw [Wd_e] at h ⊢
  by_cases c : frB g (38 - k) x ng = true
  · refine ⟨c, ?_⟩
    rw [if_pos c]
  · exfalso
    rw [if_neg c] at h
    omega
theorem rw_m : ∀ y, (rwN st ng g y).2 < 2 ^ atN g ng
  | 0 => by rw [rw_20]; exact Nat.two_pow_pos _
  | y + 1 => by rw [rw_2s]; exact Nat.or_lt_two_pow (rw_m y) (metN_lt ng)
/-- the year on: what is left is the least -/
theorem Wd_GG {y : Nat} (hy : y < 39) (h : Wd st ng g (39 - y) (rwN st ng g y).1 (rwN st ng g y).2 < 1000000) : frB g y (rwN st ng g y).1 ng = true ∧ Wd st ng g (39 - y) (rwN st ng g y).1 (rwN st ng g y).2 = mnF (GG st ng g (y + 1)) 21 := by
  rw [show 39 - y = (38 - y) + 1 by omega] at h ⊢
  obtain ⟨f1, f2⟩ := Wd_s h
  rw [show 38 - (38 - y) = y by omega] at f1 f2
  refine ⟨f1, ?_⟩
  rw [f2, GG_s, rw_2s]
theorem rw_ok (h : tvN st ng g < 1000000) : ∀ y, y < 40 → (rwN st ng g y).1 < 21 ∧ Wd st ng g (39 - y) (rwN st ng g y).1 (rwN st ng g y).2 < 1000000 := by
  intro y
  induction y with
  | zero =>
    intro _
    rw [tvN_e] at h
    have a := amF_s (fun x => Wd st ng g 39 x 0) 21 h
    rw [rw_20, rw_am, GG_0, Nat.sub_zero]
    refine ⟨a.1, ?_⟩
    rw [a.2.1]
    exact h
  | succ y ih =>
    intro hy
    obtain ⟨h1, h2⟩ := ih (by omega)
    obtain ⟨f1, f2⟩ := Wd_GG (by omega) h2
    rw [f2] at h2
    have a := amF_s _ 21 h2
    rw [← rw_am] at a
    refine ⟨a.1, ?_⟩
    have b := a.2.1
    rw [← b, GG_sx] at h2
    rw [show 39 - (y + 1) = 38 - y by omega]
    by_cases c : dst (rwN st ng g y).1 (rwN st ng g (y + 1)).1 ≤ st
    · rw [if_pos c] at h2; omega
    · rw [if_neg c] at h2; omega
theorem lf_mn (h : tvN st ng g < 1000000) (y : Nat) (hy : y < 40) : lfY st ng g y = mnF (GG st ng g y) 21 ∧ lfY st ng g y < 1000000 := by
  cases y with
  | zero =>
    rw [lfY_0]
    refine ⟨?_, h⟩
    rw [GG_0, tvN_e]
  | succ j =>
    obtain ⟨h1, h2⟩ := rw_ok h j (by omega)
    rw [lfY_s]
    exact ⟨(Wd_GG (by omega) h2).2, h2⟩
theorem rw_b (h : tvN st ng g < 1000000) (y : Nat) (hy : y < 39) : frB g y (rwN st ng g y).1 ng = true := (Wd_GG hy (rw_ok h y (by omega)).2).1
theorem spY_0 (x : Nat) : spY st ng g 0 x = 0 := by rw [spY]
theorem spY_s (j x : Nat) : spY st ng g (j + 1) x = dst (rwN st ng g j).1 x := by rw [spY]
theorem atY_0 : atY st ng g 0 = -1 := by rw [atY]
theorem atY_s (j : Nat) : atY st ng g (j + 1) = nI (rwN st ng g j).1 := by rw [atY]
/-- what is taken off: the step to the next front -/
theorem GG_sp (h : tvN st ng g < 1000000) (y : Nat) (hy : y < 40) : lfY st ng g y = spY st ng g y (rwN st ng g y).1 + Wd st ng g (39 - y) (rwN st ng g y).1 (rwN st ng g y).2 := by
  obtain ⟨h1, h2⟩ := lf_mn h y hy
  rw [h1] at h2
  have a := (amF_s _ 21 h2).2.1
  rw [← rw_am] at a
  rw [h1, ← a]
  rw [← a] at h2
  cases y with
  | zero => rw [GG_0x, spY_0, Nat.zero_add, rw_20, Nat.sub_zero]
  | succ j =>
    rw [GG_sx] at h2 ⊢
    rw [spY_s, show 39 - (j + 1) = 38 - j by omega]
    by_cases c : dst (rwN st ng g j).1 (rwN st ng g (j + 1)).1 ≤ st
    · rw [if_pos c]
    · rw [if_neg c] at h2; omega
theorem dst_m {a b : Nat} (ha : a ≤ 20) (hb : b ≤ 20) : dst a b ≤ 20 := by
  unfold dst
  by_cases c : a ≤ b
  · rw [if_pos c]; omega
  · rw [if_neg c]; omega
theorem stepI {a x : Nat} (ha : a ≤ 20) (hx : x ≤ 20) : (if nI a = (-1 : Int32) then some (0 : Int32) else (if nI x ≤ nI a then some (nI a - nI x) else some (nI x - nI a))) = some (nI (dst a x)) := by
  rw [if_neg (nI_nm1 (by omega))]
  unfold dst
  by_cases c : a ≤ x
  · rw [if_pos c]
    by_cases d : x ≤ a
    · have e : x = a := by omega
      subst e
      rw [if_pos (Int32.le_refl _)]
      rw [pk_sub c]
    · rw [if_neg (nI_ge (by omega) (by omega)), pk_sub c]
  · rw [if_neg c, if_pos (nI_le (by omega) (by omega)), pk_sub (by omega)]
/-- the inner walk: from the farthest front down, the last that may is the least -/
theorem M_nextL {att mask left : Int32} {y : Nat} {ways : Nat → Int32} {sp G : Nat → Nat} {a L : Nat} (hs : ∀ x, x < 21 → (if att = (-1 : Int32) then some (0 : Int32) else (if nI x ≤ att then some (att - nI x) else some (nI x - att))) = some (nI (sp x)))
    (hm : ∀ x, x < 21 → (if att = (-1 : Int32) then (bd1 (f_X10_wayAt (nI y) (nI x) mask) (fun r57 => chk (gin r57 26880) (if (nI (sp x) + (ways r57.toNatClampNeg)) = left then (some (1 : Int32)) else (some (0 : Int32))))) else (chk (gin (7 : Int32) 460) (if (bk (7 : Int32).toNatClampNeg) < nI (sp x) then (some (0 : Int32)) else (bd1 (f_X10_wayAt (nI y) (nI x) mask) (fun r63 => chk (gin r63 26880) (if (nI (sp x) + (ways r63.toNatClampNeg)) = left then (some (1 : Int32)) else (some (0 : Int32)))))))) = some (if G x = L then (1 : Int32) else 0))
    (ha : a < 21) (hGa : G a = L) (hlt : ∀ k, k < a → G k ≠ L) : ∀ n, n ≤ 21 → ∀ fu, n < fu → ∀ nx co, (a < n ∨ (nx = nI a ∧ co = nI (sp a))) → f_X10_stand_L8 att (nI y) mask ways left bk fu nx co (if n = 0 then -1 else nI (n - 1)) = some (nI a, nI (sp a)) := by
  intro n
  induction n with
  | zero =>
    intro _ fu hfu nx co h
    obtain ⟨fu, rfl⟩ : ∃ n, fu = n + 1 := ⟨fu - 1, by omega⟩
    rcases h with h | ⟨h1, h2⟩
    · omega
    · unfold f_X10_stand_L8
      rw [if_pos rfl, if_pos (by decide), h1, h2]
  | succ n ih =>
    intro hn fu hfu nx co h
    obtain ⟨fu, rfl⟩ : ∃ n, fu = n + 1 := ⟨fu - 1, by omega⟩
    have e0 : (if n + 1 = 0 then (-1 : Int32) else nI (n + 1 - 1)) = nI n := by rw [if_neg (Nat.succ_ne_zero n)]; rfl
    have e3 : nI n + -1 = (if n = 0 then (-1 : Int32) else nI (n - 1)) := by
      by_cases c : n = 0
      · subst c; rfl
      · obtain ⟨j, rfl⟩ : ∃ j, n = j + 1 := ⟨n - 1, by omega⟩
        rw [if_neg c, pk_m1]
        rfl
    rw [e0]
    unfold f_X10_stand_L8
    rw [if_neg (nI_pos (by omega)), hs n (by omega), bd1_s, hm n (by omega), bd1_s, e3]
    by_cases c : G n = L
    · rw [if_pos c, if_neg one0, bd1_s, if_neg one0]
      refine ih (by omega) fu (by omega) _ _ ?_
      by_cases e : n = a
      · subst e; exact Or.inr ⟨rfl, rfl⟩
      · have := Nat.lt_trichotomy n a
        rcases this with z | z | z
        · exact absurd c (hlt n z)
        · exact absurd z e
        · exact Or.inl z
    · rw [if_neg c, if_pos rfl, bd1_s, if_pos rfl]
      refine ih (by omega) fu (by omega) _ _ ?_
      rcases h with z | z
      · refine Or.inl ?_
        have : n ≠ a := fun q => c (by rw [q]; exact hGa)
        omega
      · exact Or.inr z
theorem M_next (h7 : bk 7 = nI st) (hst : st ≤ 20) (ha5 : atN g ng ≤ 5) {ways : Nat → Int32} (hw : ∀ y' x' k', y' < 40 → x' < 21 → k' < 2 ^ atN g ng → ways ((21 * y' + x') * 32 + k') = nI (Wd st ng g (39 - y') x' k')) (htv : tvN st ng g < 1000000) {y : Nat} (hy : y < 40) : f_X10_stand_L8 (atY st ng g y) (nI y) (nI (rwN st ng g y).2) ways (nI (lfY st ng g y)) bk FU 20 0 20 = some (nI (rwN st ng g y).1, nI (spY st ng g y (rwN st ng g y).1)) := by
  have hmk := rw_m (st := st) (ng := ng) (g := g) y
  have h32 : 2 ^ atN g ng ≤ 2 ^ 5 := Nat.pow_le_pow_right (by omega) ha5
  have h25 : (2 : Nat) ^ 5 = 32 := rfl
  obtain ⟨l1, l2⟩ := lf_mn htv y hy
  have l3 := l2
  rw [l1] at l3
  have am := amF_s _ 21 l3
  rw [← rw_am] at am
  have ix : ∀ x, x < 21 → f_X10_wayAt (nI y) (nI x) (nI (rwN st ng g y).2) = some (nI ((21 * y + x) * 32 + (rwN st ng g y).2)) := by
    intro x hx
    unfold f_X10_wayAt
    simp (disch := omega) only [↓lm1, ln0, ln1, ln2, ln3, ln4, ln5, ln6, ln7, ln8, ln9, ln10, ln11, ln12, ln13, ln14, ln15, ln16, ln17, ln18, ln19, ln20, ln21, ln22, ln26, ln30, ln31, ln32, ln36, ln39, ln40, ln48, ln50, ln59, ln60, ln61, ln63, ln64, ln80, ln97, ln99, ln100, ln103, ln122, ln192, ln220, ln240, ln255, ln260, ln290, ln300, ln370, ln410, ln430, ln460, ln920, ln960, ln999, ln1000, ln2000, ln26880, ln1000000, ofNat_nI, nI_add, pk_mul, pk_sub, nI_leP, nI_ltP, nI_eqP, nI_clamp, gin_n, chk_t, nm_s, bd1_s, bd2_s, bd3_s, bd4_s, bI_n0, bI_1, chk_gz_bI, if_pos, if_neg, if_true, if_false, ite_some, nI_m1, m1_nI, m1_le, le_m1, m1_lt, lt_m1, m1_1, n_m1, n0_m1, m1_m1, not_true_eq_false, not_false_eq_true]
  refine M_nextL (sp := spY st ng g y) (G := GG st ng g y) (L := lfY st ng g y) ?_ ?_ am.1 (by rw [am.2.1, l1]) (fun k hk z => by have := am.2.2 k hk; omega) 21 (Nat.le_refl _) FU (FU_big (by omega)) 20 0 (Or.inl am.1)
  · intro x hx
    cases y with
    | zero => rw [atY_0, spY_0, if_pos rfl]; rfl
    | succ j =>
      have hr := (rw_ok htv j (by omega)).1
      rw [atY_s, spY_s]
      exact stepI (by omega) (by omega)
  · intro x hx
    have hwx := hw y x (rwN st ng g y).2 hy hx hmk
    have hW := Wd_m (st := st) (ng := ng) (g := g) (39 - y) x (rwN st ng g y).2
    rw [ix x hx, bd1_s, gin_n (by omega) (by decide), chk_t, cl_n (by omega), hwx, nI_add]
    have key : ∀ s : Nat, s ≤ 20 → (if nI (s + Wd st ng g (39 - y) x (rwN st ng g y).2) = nI (lfY st ng g y) then some (1 : Int32) else some 0) = some (if s + Wd st ng g (39 - y) x (rwN st ng g y).2 = lfY st ng g y then 1 else 0) := by
      intro s hs
      by_cases c : s + Wd st ng g (39 - y) x (rwN st ng g y).2 = lfY st ng g y
      · rw [if_pos c, if_pos (by rw [c])]
      · rw [if_neg c, if_neg (fun z => c ((nI_eq (by omega) (by omega)).mp z))]
    cases y with
    | zero =>
      have := key 0 (by omega)
      rw [atY_0, if_pos rfl, spY_0, this, Nat.zero_add, GG_0x, Nat.sub_zero, rw_20]
    | succ j =>
      have hr := (rw_ok htv j (by omega)).1
      have hd := dst_m (a := (rwN st ng g j).1) (b := x) (by omega) (by omega)
      rw [atY_s, if_neg (show ¬ nI (rwN st ng g j).1 = (-1 : Int32) from nI_nm1 (by omega)), show gin (7 : Int32) 460 = true from by decide, chk_t, show (7 : Int32).toNatClampNeg = 7 from by decide, h7, spY_s, GG_sx]
      by_cases c : dst (rwN st ng g j).1 x ≤ st
      · rw [if_neg (nI_nlt c (by omega)), key _ hd, if_pos c, show 39 - (j + 1) = 38 - j by omega]
      · rw [if_pos (nI_lt (by omega) (by omega)), if_neg c, if_neg (by omega)]
theorem M_rowL (h : SG2 ng g bk) (h7 : bk 7 = nI st) (hst : st ≤ 20) {ways : Nat → Int32} (hw : ∀ y' x' k', y' < 40 → x' < 21 → k' < 2 ^ atN g ng → ways ((21 * y' + x') * 32 + k') = nI (Wd st ng g (39 - y') x' k')) (htv : tvN st ng g < 1000000) {Y : Nat} (hY : Y < 40) : ∀ n y, y + n = Y + 1 → ∀ fu, n < fu → ∀ met, ∃ met', f_X10_stand_L7 (nI Y) ways bk fu met (nI (lfY st ng g y)) (atY st ng g y) (nI (rwN st ng g y).2) (nI y) = some (met', nI (rwN st ng g Y).1) := by
  intro n
  induction n with
  | zero =>
    intro y hy fu hfu met
    obtain ⟨fu, rfl⟩ : ∃ n, fu = n + 1 := ⟨fu - 1, by omega⟩
    obtain rfl : y = Y + 1 := by omega
    refine ⟨met, ?_⟩
    unfold f_X10_stand_L7
    rw [if_pos (nI_lt (by omega) (by omega)), atY_s]
  | succ n ih =>
    intro y hy fu hfu met
    obtain ⟨fu, rfl⟩ : ∃ n, fu = n + 1 := ⟨fu - 1, by omega⟩
    have hr := (rw_ok htv y (by omega)).1
    have hsp := GG_sp htv y (by omega)
    obtain ⟨met', b1⟩ := ih (y + 1) (by omega) fu (by omega) (nI (metN g y (rwN st ng g y).1 ng))
    refine ⟨met', ?_⟩
    unfold f_X10_stand_L7
    rw [if_neg (nI_nlt (by omega) (by omega)), M_next h7 hst h.2.2.2.2 hw htv (by omega), bd2_s, pk_sub (by omega), nm_s, bears h (by omega) (by omega), bd2_s, nI_or, nm_s, nI_1]
    rw [show lfY st ng g y - spY st ng g y (rwN st ng g y).1 = lfY st ng g (y + 1) from by
      rw [lfY_s]
      omega, ← rw_2s, ← atY_s]
    exact b1
/-- the reference's stand -/
theorem M_stand (h : SG2 ng g bk) (h7 : bk 7 = nI st) (hst : st ≤ 20) (hpl : f_X10_places bk = some (nI (atN g ng))) (met : Int32) (ways : Nat → Int32) :
    (∃ met' ways', f_X10_stand met bk ways (-1) = some (if tvN st ng g < 1000000 then nI (tvN st ng g) else -5, met', ways')) ∧
    ∀ Y, Y < 40 → ∃ met' ways', f_X10_stand met bk ways (nI Y) = some (if tvN st ng g < 1000000 then nI (rwN st ng g Y).1 else -5, met', ways') := by
  obtain ⟨m1', w1, a1, a2⟩ := M_travels h h7 hst hpl met ways
  have tm : tvN st ng g ≤ 1000000 := mnF_m _ _
  constructor
  · refine ⟨m1', w1, ?_⟩
    unfold f_X10_stand
    rw [if_pos rfl, a1, bd3_s]
    by_cases c : tvN st ng g < 1000000
    · rw [if_pos (show nI (tvN st ng g) < (1000000 : Int32) from nI_lt (b := 1000000) c (by decide)), if_pos rfl, if_pos c]
    · rw [if_neg (show ¬ nI (tvN st ng g) < (1000000 : Int32) from nI_nlt (b := 1000000) (by omega) (by omega)), if_neg c]
  · intro Y hY
    unfold f_X10_stand
    rw [if_neg (nI_nm1 (by omega)), show f_X10_in (nI Y).toInt64 0 39 = some (bI (0 ≤ nI Y ∧ nI Y ≤ 39)) from in_0_39 _, bd1_s, bI_t (show (0 : Int32) ≤ nI Y ∧ nI Y ≤ 39 from ⟨nI_pos' (by omega), nI_le (b := 39) (by omega) (by decide)⟩), if_neg one0, a1, bd3_s]
    by_cases c : tvN st ng g < 1000000
    · obtain ⟨m2, b1⟩ := M_rowL h h7 hst a2 c hY (Y + 1) 0 (by omega) FU (FU_big (by omega)) m1'
      rw [lfY_0, atY_0, rw_20] at b1
      have b1 : f_X10_stand_L7 (nI Y) w1 bk FU m1' (nI (tvN st ng g)) (-1) 0 0 = some (m2, nI (rwN st ng g Y).1) := b1
      refine ⟨m2, w1, ?_⟩
      rw [if_pos (show nI (tvN st ng g) < (1000000 : Int32) from nI_lt (b := 1000000) c (by decide)), if_neg (nI_nm1 (by omega)), if_pos c, b1, bd2_s]
    · refine ⟨m1', w1, ?_⟩
      rw [if_neg (show ¬ nI (tvN st ng g) < (1000000 : Int32) from nI_nlt (b := 1000000) (by omega) (by omega)), if_neg c]
end STR
