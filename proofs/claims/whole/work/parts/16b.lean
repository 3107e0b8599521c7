/-! ===== numbers: what simp may use ===== -/
def m1 : Int32 := -1
theorem lm1 : (-1 : Int32) = m1 := rfl
theorem ofNat_nI (n : Nat) : Int32.ofNat n = nI n := rfl
theorem m1_toInt : m1.toInt = -1 := by decide
theorem nI_nm1 {a : Nat} (h : a < 2 ^ 31) : nI a ≠ -1 := fun z => by
  have := congrArg Int32.toInt z
  rw [nI_toInt h, show (-1 : Int32).toInt = -1 from by decide] at this
  omega
theorem nI_m1 {a : Nat} (h : a < 2 ^ 31) : (nI a = m1) = False := eq_false (nI_nm1 h)
theorem m1_nI {a : Nat} (h : a < 2 ^ 31) : (m1 = nI a) = False := eq_false (fun z => nI_nm1 h z.symm)
theorem m1_le {a : Nat} (h : a < 2 ^ 31) : (m1 ≤ nI a) = True := eq_true (by rw [Int32.le_iff_toInt_le, m1_toInt, nI_toInt h]; omega)
theorem le_m1 {a : Nat} (h : a < 2 ^ 31) : (nI a ≤ m1) = False := eq_false (by rw [Int32.le_iff_toInt_le, m1_toInt, nI_toInt h]; omega)
theorem m1_lt {a : Nat} (h : a < 2 ^ 31) : (m1 < nI a) = True := eq_true (by rw [Int32.lt_iff_toInt_lt, m1_toInt, nI_toInt h]; omega)
theorem lt_m1 {a : Nat} (h : a < 2 ^ 31) : (nI a < m1) = False := eq_false (by rw [Int32.lt_iff_toInt_lt, m1_toInt, nI_toInt h]; omega)
theorem m1_1 : m1 + nI 1 = nI 0 := by decide
theorem n_m1 {a : Nat} (h : 1 ≤ a) : nI a + m1 = nI (a - 1) := by
  obtain ⟨b, rfl⟩ : ∃ b, a = b + 1 := ⟨a - 1, by omega⟩
  exact pk_m1 b
theorem n0_m1 : nI 0 + m1 = m1 := by decide
theorem m1_m1 : (m1 = m1) = True := eq_true rfl
theorem ite_some {c : Prop} {h0 : Decidable c} {α : Type} (a b : α) : (@ite _ c h0 (some a) (some b)) = some (@ite _ c h0 a b) := by
  by_cases h : c
  · rw [if_pos h, if_pos h]
  · rw [if_neg h, if_neg h]
theorem bI_1 {c : Prop} {h0 : Decidable c} : (@bI c h0 = nI 1) = c := by
  by_cases h : c
  · rw [bI_t h]; exact propext ⟨fun _ => h, fun _ => rfl⟩
  · rw [bI_f h]; exact propext ⟨fun z => absurd z (by decide), fun z => absurd z h⟩
theorem bI_n0 {c : Prop} {h0 : Decidable c} : (@bI c h0 = nI 0) = (¬ c) := bI_0
theorem nI_leP {a b : Nat} (ha : a < 2 ^ 31) (hb : b < 2 ^ 31) : (nI a ≤ nI b) = (a ≤ b) := propext (nI_leI ha hb)
theorem nI_ltP {a b : Nat} (ha : a < 2 ^ 31) (hb : b < 2 ^ 31) : (nI a < nI b) = (a < b) := propext (nI_ltI ha hb)
theorem nI_eqP {a b : Nat} (ha : a < 2 ^ 31) (hb : b < 2 ^ 31) : (nI a = nI b) = (a = b) := propext (nI_eq ha hb)
theorem ln0 : (0 : Int32) = nI 0 := rfl
theorem ln1 : (1 : Int32) = nI 1 := rfl
theorem ln2 : (2 : Int32) = nI 2 := rfl
theorem ln3 : (3 : Int32) = nI 3 := rfl
theorem ln4 : (4 : Int32) = nI 4 := rfl
theorem ln5 : (5 : Int32) = nI 5 := rfl
theorem ln6 : (6 : Int32) = nI 6 := rfl
theorem ln7 : (7 : Int32) = nI 7 := rfl
theorem ln8 : (8 : Int32) = nI 8 := rfl
theorem ln9 : (9 : Int32) = nI 9 := rfl
theorem ln10 : (10 : Int32) = nI 10 := rfl
theorem ln11 : (11 : Int32) = nI 11 := rfl
theorem ln12 : (12 : Int32) = nI 12 := rfl
theorem ln13 : (13 : Int32) = nI 13 := rfl
theorem ln14 : (14 : Int32) = nI 14 := rfl
theorem ln15 : (15 : Int32) = nI 15 := rfl
theorem ln16 : (16 : Int32) = nI 16 := rfl
theorem ln17 : (17 : Int32) = nI 17 := rfl
theorem ln18 : (18 : Int32) = nI 18 := rfl
theorem ln19 : (19 : Int32) = nI 19 := rfl
theorem ln20 : (20 : Int32) = nI 20 := rfl
theorem ln21 : (21 : Int32) = nI 21 := rfl
theorem ln22 : (22 : Int32) = nI 22 := rfl
theorem ln26 : (26 : Int32) = nI 26 := rfl
theorem ln30 : (30 : Int32) = nI 30 := rfl
theorem ln31 : (31 : Int32) = nI 31 := rfl
theorem ln32 : (32 : Int32) = nI 32 := rfl
theorem ln36 : (36 : Int32) = nI 36 := rfl
theorem ln39 : (39 : Int32) = nI 39 := rfl
theorem ln40 : (40 : Int32) = nI 40 := rfl
theorem ln48 : (48 : Int32) = nI 48 := rfl
theorem ln50 : (50 : Int32) = nI 50 := rfl
theorem ln59 : (59 : Int32) = nI 59 := rfl
theorem ln60 : (60 : Int32) = nI 60 := rfl
theorem ln61 : (61 : Int32) = nI 61 := rfl
theorem ln63 : (63 : Int32) = nI 63 := rfl
theorem ln64 : (64 : Int32) = nI 64 := rfl
theorem ln80 : (80 : Int32) = nI 80 := rfl
theorem ln97 : (97 : Int32) = nI 97 := rfl
theorem ln99 : (99 : Int32) = nI 99 := rfl
theorem ln100 : (100 : Int32) = nI 100 := rfl
theorem ln103 : (103 : Int32) = nI 103 := rfl
theorem ln122 : (122 : Int32) = nI 122 := rfl
theorem ln192 : (192 : Int32) = nI 192 := rfl
theorem ln220 : (220 : Int32) = nI 220 := rfl
theorem ln240 : (240 : Int32) = nI 240 := rfl
theorem ln255 : (255 : Int32) = nI 255 := rfl
theorem ln260 : (260 : Int32) = nI 260 := rfl
theorem ln290 : (290 : Int32) = nI 290 := rfl
theorem ln300 : (300 : Int32) = nI 300 := rfl
theorem ln370 : (370 : Int32) = nI 370 := rfl
theorem ln410 : (410 : Int32) = nI 410 := rfl
theorem ln430 : (430 : Int32) = nI 430 := rfl
theorem ln460 : (460 : Int32) = nI 460 := rfl
theorem ln920 : (920 : Int32) = nI 920 := rfl
theorem ln960 : (960 : Int32) = nI 960 := rfl
theorem ln999 : (999 : Int32) = nI 999 := rfl
theorem ln1000 : (1000 : Int32) = nI 1000 := rfl
theorem ln2000 : (2000 : Int32) = nI 2000 := rfl
theorem ln26880 : (26880 : Int32) = nI 26880 := rfl
theorem ln1000000 : (1000000 : Int32) = nI 1000000 := rfl
/-! signed numbers -/
def iI (z : Int) : Int32 := Int32.ofInt z
theorem nI_iI (n : Nat) : nI n = iI n := by
  apply Int32.toBitVec_inj.mp
  show BitVec.ofNat 32 n = BitVec.ofInt 32 n
  exact (BitVec.ofInt_natCast 32 n).symm
theorem iI_toInt {z : Int} (h1 : -2147483648 ≤ z) (h2 : z < 2147483648) : (iI z).toInt = z := Int32.toInt_ofInt_of_le (by omega) (by omega)
theorem iI_of (x : Int32) : x = iI x.toInt := (Int32.ofInt_toInt x).symm
theorem iI_add (a b : Int) : iI a + iI b = iI (a + b) := (Int32.ofInt_add a b).symm
theorem iI_sub (a b : Int) : iI a - iI b = iI (a - b) := (Int32.ofInt_sub a b).symm
theorem iI_mul (a b : Int) : iI a * iI b = iI (a * b) := (Int32.ofInt_mul a b).symm
theorem iI_neg (a : Int) : - iI a = iI (- a) := (Int32.ofInt_neg a).symm
theorem iI_le {a b : Int} (h1 : -2147483648 ≤ a) (h2 : a < 2147483648) (h3 : -2147483648 ≤ b) (h4 : b < 2147483648) : (iI a ≤ iI b) = (a ≤ b) := propext (by rw [Int32.le_iff_toInt_le, iI_toInt h1 h2, iI_toInt h3 h4])
theorem iI_lt {a b : Int} (h1 : -2147483648 ≤ a) (h2 : a < 2147483648) (h3 : -2147483648 ≤ b) (h4 : b < 2147483648) : (iI a < iI b) = (a < b) := propext (by rw [Int32.lt_iff_toInt_lt, iI_toInt h1 h2, iI_toInt h3 h4])
theorem iI_eq {a b : Int} (h1 : -2147483648 ≤ a) (h2 : a < 2147483648) (h3 : -2147483648 ≤ b) (h4 : b < 2147483648) : (iI a = iI b) = (a = b) := propext ⟨fun q => by rw [← iI_toInt h1 h2, ← iI_toInt h3 h4, q], fun q => by rw [q]⟩
theorem iI_inj {a b : Int} (h1 : -2147483648 ≤ a) (h2 : a < 2147483648) (h3 : -2147483648 ≤ b) (h4 : b < 2147483648) (h : iI a = iI b) : a = b := by rw [iI_eq h1 h2 h3 h4] at h; exact h
theorem ite_iI {c : Prop} {h0 : Decidable c} (a b : Int) : (@ite _ c h0 (iI a) (iI b)) = iI (@ite _ c h0 a b) := by
  by_cases h : c
  · rw [if_pos h, if_pos h]
  · rw [if_neg h, if_neg h]
theorem ite_nI {c : Prop} {h0 : Decidable c} (a b : Nat) : (@ite _ c h0 (nI a) (nI b)) = nI (@ite _ c h0 a b) := by
  by_cases h : c
  · rw [if_pos h, if_pos h]
  · rw [if_neg h, if_neg h]
