/-! the whole world: cells of the class, then of the reference; xi, mi: the whole numbers; xa, ma: the arrays (tables in wip/gen/tables.json) -/
def wW (cI cZ : ClassId) (hx hm : Nat) (aX aM : Nat → Nat) (xi : Nat → Int32) (xa : Nat → Nat → Int32) (mi : Nat → Int32) (ma : Nat → Nat → Int32) : va_W :=
  [(hx, .inr (7, fX9 (aX 0) (aX 15) (aX 30) (aX 45) (aX 60) (aX 64) (aX 76) (aX 84) (aX 86) (xi 0) (xi 1))),
   ((aX 0), .inr (1, fX1 (aX 1) (aX 2) (aX 4) (aX 6) (aX 8) (aX 9) (aX 11) (aX 13) (aX 14) (xi 2))),
   ((aX 1), .inl (cI, 192, .inl (xa 0))),
   ((aX 2), .inr (4, fX4 (xi 3) (aX 3) (xi 4))),
   ((aX 3), .inl (cI, 40, .inl (xa 1))),
   ((aX 4), .inr (4, fX4 (xi 5) (aX 5) (xi 6))),
   ((aX 5), .inl (cI, 50, .inl (xa 2))),
   ((aX 6), .inr (4, fX4 (xi 7) (aX 7) (xi 8))),
   ((aX 7), .inl (cI, 50, .inl (xa 3))),
   ((aX 8), .inl (cI, 6, .inl (xa 4))),
   ((aX 9), .inr (4, fX4 (xi 9) (aX 10) (xi 10))),
   ((aX 10), .inl (cI, 80, .inl (xa 5))),
   ((aX 11), .inr (4, fX4 (xi 11) (aX 12) (xi 12))),
   ((aX 12), .inl (cI, 50, .inl (xa 6))),
   ((aX 13), .inl (cI, 20, .inl (xa 7))),
   ((aX 14), .inl (cI, 21, .inl (xa 8))),
   ((aX 15), .inr (1, fX1 (aX 16) (aX 17) (aX 19) (aX 21) (aX 23) (aX 24) (aX 26) (aX 28) (aX 29) (xi 13))),
   ((aX 16), .inl (cI, 192, .inl (xa 9))),
   ((aX 17), .inr (4, fX4 (xi 14) (aX 18) (xi 15))),
   ((aX 18), .inl (cI, 40, .inl (xa 10))),
   ((aX 19), .inr (4, fX4 (xi 16) (aX 20) (xi 17))),
   ((aX 20), .inl (cI, 50, .inl (xa 11))),
   ((aX 21), .inr (4, fX4 (xi 18) (aX 22) (xi 19))),
   ((aX 22), .inl (cI, 50, .inl (xa 12))),
   ((aX 23), .inl (cI, 6, .inl (xa 13))),
   ((aX 24), .inr (4, fX4 (xi 20) (aX 25) (xi 21))),
   ((aX 25), .inl (cI, 80, .inl (xa 14))),
   ((aX 26), .inr (4, fX4 (xi 22) (aX 27) (xi 23))),
   ((aX 27), .inl (cI, 50, .inl (xa 15))),
   ((aX 28), .inl (cI, 20, .inl (xa 16))),
   ((aX 29), .inl (cI, 21, .inl (xa 17))),
   ((aX 30), .inr (1, fX1 (aX 31) (aX 32) (aX 34) (aX 36) (aX 38) (aX 39) (aX 41) (aX 43) (aX 44) (xi 24))),
   ((aX 31), .inl (cI, 192, .inl (xa 18))),
   ((aX 32), .inr (4, fX4 (xi 25) (aX 33) (xi 26))),
   ((aX 33), .inl (cI, 40, .inl (xa 19))),
   ((aX 34), .inr (4, fX4 (xi 27) (aX 35) (xi 28))),
   ((aX 35), .inl (cI, 50, .inl (xa 20))),
   ((aX 36), .inr (4, fX4 (xi 29) (aX 37) (xi 30))),
   ((aX 37), .inl (cI, 50, .inl (xa 21))),
   ((aX 38), .inl (cI, 6, .inl (xa 22))),
   ((aX 39), .inr (4, fX4 (xi 31) (aX 40) (xi 32))),
   ((aX 40), .inl (cI, 80, .inl (xa 23))),
   ((aX 41), .inr (4, fX4 (xi 33) (aX 42) (xi 34))),
   ((aX 42), .inl (cI, 50, .inl (xa 24))),
   ((aX 43), .inl (cI, 20, .inl (xa 25))),
   ((aX 44), .inl (cI, 21, .inl (xa 26))),
   ((aX 45), .inr (1, fX1 (aX 46) (aX 47) (aX 49) (aX 51) (aX 53) (aX 54) (aX 56) (aX 58) (aX 59) (xi 35))),
   ((aX 46), .inl (cI, 192, .inl (xa 27))),
   ((aX 47), .inr (4, fX4 (xi 36) (aX 48) (xi 37))),
   ((aX 48), .inl (cI, 40, .inl (xa 28))),
   ((aX 49), .inr (4, fX4 (xi 38) (aX 50) (xi 39))),
   ((aX 50), .inl (cI, 50, .inl (xa 29))),
   ((aX 51), .inr (4, fX4 (xi 40) (aX 52) (xi 41))),
   ((aX 52), .inl (cI, 50, .inl (xa 30))),
   ((aX 53), .inl (cI, 6, .inl (xa 31))),
   ((aX 54), .inr (4, fX4 (xi 42) (aX 55) (xi 43))),
   ((aX 55), .inl (cI, 80, .inl (xa 32))),
   ((aX 56), .inr (4, fX4 (xi 44) (aX 57) (xi 45))),
   ((aX 57), .inl (cI, 50, .inl (xa 33))),
   ((aX 58), .inl (cI, 20, .inl (xa 34))),
   ((aX 59), .inl (cI, 21, .inl (xa 35))),
   ((aX 60), .inr (6, fX7 (aX 61) (aX 62) (aX 63))),
   ((aX 61), .inl (cI, 64, .inl (xa 36))),
   ((aX 62), .inl (cI, 64, .inl (xa 37))),
   ((aX 63), .inl (cI, 64, .inl (xa 38))),
   ((aX 64), .inr (0, fX0 (aX 65) (aX 66) (aX 67) (aX 68) (aX 69) (aX 70) (aX 71) (aX 72) (xi 46) (aX 73) (aX 74) (xi 47) (xi 48) (xi 49))),
   ((aX 65), .inl (cI, 8, .inl (xa 39))),
   ((aX 66), .inl (cI, 8, .inl (xa 40))),
   ((aX 67), .inl (cI, 8, .inl (xa 41))),
   ((aX 68), .inl (cI, 8, .inl (xa 42))),
   ((aX 69), .inl (cI, 16, .inl (xa 43))),
   ((aX 70), .inl (cI, 16, .inl (xa 44))),
   ((aX 71), .inl (cI, 16, .inl (xa 45))),
   ((aX 72), .inl (cI, 16, .inl (xa 46))),
   ((aX 73), .inl (cI, 64, .inl (xa 47))),
   ((aX 74), .inr (4, fX4 (xi 50) (aX 75) (xi 51))),
   ((aX 75), .inl (cI, 80, .inl (xa 48))),
   ((aX 76), .inr (2, fX2 (aX 77) (aX 78) (aX 79) (aX 80) (aX 81) (xi 52) (xi 53) (xi 54) (aX 82) (xi 55))),
   ((aX 77), .inl (cI, 26880, .inl (xa 49))),
   ((aX 78), .inl (cI, 40, .inl (xa 50))),
   ((aX 79), .inl (cI, 40, .inl (xa 51))),
   ((aX 80), .inl (cI, 840, .inl (xa 52))),
   ((aX 81), .inl (cI, 40, .inl (xa 53))),
   ((aX 82), .inr (4, fX4 (xi 56) (aX 83) (xi 57))),
   ((aX 83), .inl (cI, 50, .inl (xa 54))),
   ((aX 84), .inr (3, fX3 (aX 85) (xi 58) (xi 59))),
   ((aX 85), .inl (cI, 20, .inl (xa 55))),
   ((aX 86), .inr (5, fX6 (aX 87) (xi 60) (xi 61) (xi 62) (xi 63) (xi 64) (aX 88))),
   ((aX 87), .inl (cI, 240, .inl (xa 56))),
   ((aX 88), .inl (cI, 4, .inl (xa 57))),
   (hm, .inr (8, fX10 (aM 0) (aM 1) (aM 2) (aM 3) (aM 4) (aM 5) (aM 6) (aM 7) (aM 8) (aM 9) (aM 10) (mi 0) (mi 1) (mi 2) (mi 3) (mi 4) (aM 11) (aM 12) (aM 13) (mi 5) (aM 14) (mi 6) (mi 7) (aM 15) (mi 8) (mi 9) (mi 10) (mi 11) (mi 12) (aM 16) (aM 17) (mi 13))),
   ((aM 0), .inl (cI, 460, .inl (ma 0))),
   ((aM 1), .inl (cI, 920, .inl (ma 1))),
   ((aM 2), .inl (cZ, 2, .inl (ma 2))),
   ((aM 3), .inl (cI, 460, .inl (ma 3))),
   ((aM 4), .inl (cI, 64, .inl (ma 4))),
   ((aM 5), .inl (cI, 64, .inl (ma 5))),
   ((aM 6), .inl (cI, 10, .inl (ma 6))),
   ((aM 7), .inl (cI, 10, .inl (ma 7))),
   ((aM 8), .inl (cI, 10, .inl (ma 8))),
   ((aM 9), .inl (cI, 8, .inl (ma 9))),
   ((aM 10), .inl (cI, 8, .inl (ma 10))),
   ((aM 11), .inl (cI, 8, .inl (ma 11))),
   ((aM 12), .inl (cI, 8, .inl (ma 12))),
   ((aM 13), .inl (cI, 26880, .inl (ma 13))),
   ((aM 14), .inl (cI, 20, .inl (ma 14))),
   ((aM 15), .inl (cI, 240, .inl (ma 15))),
   ((aM 16), .inl (cI, 240, .inl (ma 16))),
   ((aM 17), .inl (cI, 960, .inl (ma 17)))]
theorem wW_len (cI cZ : ClassId) (hx hm : Nat) (aX aM : Nat → Nat) (xi : Nat → Int32) (xa : Nat → Nat → Int32) (mi : Nat → Int32) (ma : Nat → Nat → Int32) : (wW cI cZ hx hm aX aM xi xa mi ma).length = 109 := rfl
def xi0 : Nat → Int32 := fun k => match k with | 3 => (8 : Int32) | 5 => (10 : Int32) | 7 => (10 : Int32) | 9 => (16 : Int32) | 11 => (10 : Int32) | 14 => (8 : Int32) | 16 => (10 : Int32) | 18 => (10 : Int32) | 20 => (16 : Int32) | 22 => (10 : Int32) | 25 => (8 : Int32) | 27 => (10 : Int32) | 29 => (10 : Int32) | 31 => (16 : Int32) | 33 => (10 : Int32) | 36 => (8 : Int32) | 38 => (10 : Int32) | 40 => (10 : Int32) | 42 => (16 : Int32) | 44 => (10 : Int32) | 50 => (16 : Int32) | 56 => (10 : Int32) | _ => 0
def xa0 : Nat → Nat → Int32 := fun k => match k with | 4 => (upd (upd (upd (upd (upd (upd (fun _ => (0 : Int32)) (0 : Int32).toNatClampNeg (1 : Int32)) (1 : Int32).toNatClampNeg (3 : Int32)) (2 : Int32).toNatClampNeg (50 : Int32)) (3 : Int32).toNatClampNeg (2 : Int32)) (4 : Int32).toNatClampNeg (10 : Int32)) (5 : Int32).toNatClampNeg (30 : Int32)) | 13 => (upd (upd (upd (upd (upd (upd (fun _ => (0 : Int32)) (0 : Int32).toNatClampNeg (1 : Int32)) (1 : Int32).toNatClampNeg (3 : Int32)) (2 : Int32).toNatClampNeg (50 : Int32)) (3 : Int32).toNatClampNeg (2 : Int32)) (4 : Int32).toNatClampNeg (10 : Int32)) (5 : Int32).toNatClampNeg (30 : Int32)) | 22 => (upd (upd (upd (upd (upd (upd (fun _ => (0 : Int32)) (0 : Int32).toNatClampNeg (1 : Int32)) (1 : Int32).toNatClampNeg (3 : Int32)) (2 : Int32).toNatClampNeg (50 : Int32)) (3 : Int32).toNatClampNeg (2 : Int32)) (4 : Int32).toNatClampNeg (10 : Int32)) (5 : Int32).toNatClampNeg (30 : Int32)) | 31 => (upd (upd (upd (upd (upd (upd (fun _ => (0 : Int32)) (0 : Int32).toNatClampNeg (1 : Int32)) (1 : Int32).toNatClampNeg (3 : Int32)) (2 : Int32).toNatClampNeg (50 : Int32)) (3 : Int32).toNatClampNeg (2 : Int32)) (4 : Int32).toNatClampNeg (10 : Int32)) (5 : Int32).toNatClampNeg (30 : Int32)) | _ => (fun _ => 0)
def mi0 : Nat → Int32 := fun k => match k with  | _ => 0
def ma0 : Nat → Nat → Int32 := fun k => match k with | 0 => (upd (upd (upd (upd (upd (upd (fun _ => (0 : Int32)) (6 : Int32).toNatClampNeg (1 : Int32)) (7 : Int32).toNatClampNeg (3 : Int32)) (8 : Int32).toNatClampNeg (50 : Int32)) (9 : Int32).toNatClampNeg (2 : Int32)) (10 : Int32).toNatClampNeg (10 : Int32)) (11 : Int32).toNatClampNeg (30 : Int32)) | _ => (fun _ => 0)
/-- what is to be shown of surface -/
def PP_surface (INV : (Nat → Int32) → (Nat → Nat → Int32) → (Nat → Int32) → (Nat → Nat → Int32) → Prop) : Prop := ∀ (xi : Nat → Int32) (xa : Nat → Nat → Int32) (mi : Nat → Int32) (ma : Nat → Nat → Int32), INV xi xa mi ma → ∀ (p1 : Int32) (p2 : Int32) (p3 : Int32), ∃ (r : Int32) (o0 : (Nat → Int32)) (q0 : (Nat → Int32)), f_X9_surface (xa 0) p1 p2 p3 = some (r, o0) ∧ f_X10_surface (ma 0) p1 p2 p3 = some (r, q0) ∧ INV xi (va_up xa 0 o0) mi (va_up ma 0 q0)
/-- what is to be shown of slope -/
def PP_slope (INV : (Nat → Int32) → (Nat → Nat → Int32) → (Nat → Int32) → (Nat → Nat → Int32) → Prop) : Prop := ∀ (xi : Nat → Int32) (xa : Nat → Nat → Int32) (mi : Nat → Int32) (ma : Nat → Nat → Int32), INV xi xa mi ma → ∀ (p1 : Int32) (p2 : Int32) (p3 : Int32) (p4 : Int32), ∃ (r : Int32) (o0 : (Nat → Int32)) (q0 : (Nat → Int32)), f_X9_slope (xa 0) p1 p2 p3 p4 = some (r, o0) ∧ f_X10_slope (ma 0) p1 p2 p3 p4 = some (r, q0) ∧ INV xi (va_up xa 0 o0) mi (va_up ma 0 q0)
/-- what is to be shown of flow -/
def PP_flow (INV : (Nat → Int32) → (Nat → Nat → Int32) → (Nat → Int32) → (Nat → Nat → Int32) → Prop) : Prop := ∀ (xi : Nat → Int32) (xa : Nat → Nat → Int32) (mi : Nat → Int32) (ma : Nat → Nat → Int32), INV xi xa mi ma → ∀ (p1 : Int32) (p2 : Int32), ∃ (r : Int32), f_X9_flow (xa 0) p1 p2 = some r ∧ f_X10_flow (ma 0) p1 p2 = some r ∧ INV xi xa mi ma
/-- what is to be shown of cliff -/
def PP_cliff (INV : (Nat → Int32) → (Nat → Nat → Int32) → (Nat → Int32) → (Nat → Nat → Int32) → Prop) : Prop := ∀ (xi : Nat → Int32) (xa : Nat → Nat → Int32) (mi : Nat → Int32) (ma : Nat → Nat → Int32), INV xi xa mi ma → ∀ (p1 : Int32) (p2 : Int32), ∃ (r : Int32) (o0 : Int32) (o1 : (Nat → Int32)) (q0 : (Nat → Int32)), f_X9_cliff (xi 3) (xi 4) 40 (xa 1) p1 p2 = some (r, o0, o1) ∧ f_X10_cliff (ma 0) p1 p2 = some (r, q0) ∧ INV (va_up xi 4 o0) (va_up xa 1 o1) mi (va_up ma 0 q0)
/-- what is to be shown of boulder -/
def PP_boulder (INV : (Nat → Int32) → (Nat → Nat → Int32) → (Nat → Int32) → (Nat → Nat → Int32) → Prop) : Prop := ∀ (xi : Nat → Int32) (xa : Nat → Nat → Int32) (mi : Nat → Int32) (ma : Nat → Nat → Int32), INV xi xa mi ma → ∀ (p1 : Int32) (p2 : Int32), ∃ (r : Int32) (o0 : Int32) (o1 : (Nat → Int32)) (q0 : (Nat → Int32)), f_X9_boulder (xi 5) (xi 6) 50 (xa 2) p1 p2 = some (r, o0, o1) ∧ f_X10_boulder (ma 0) p1 p2 = some (r, q0) ∧ INV (va_up xi 6 o0) (va_up xa 2 o1) mi (va_up ma 0 q0)
/-- what is to be shown of fits -/
def PP_fits (INV : (Nat → Int32) → (Nat → Nat → Int32) → (Nat → Int32) → (Nat → Nat → Int32) → Prop) : Prop := ∀ (xi : Nat → Int32) (xa : Nat → Nat → Int32) (mi : Nat → Int32) (ma : Nat → Nat → Int32), INV xi xa mi ma → ∀ (p1 : Int32), ∃ (r : Int32) (o0 : (Nat → Int32)) (o1 : (Nat → Int32)) (o2 : (Nat → Int32)) (q0 : (Nat → Int32)) (q1 : (Nat → Int32)), f_X9_fits (xi 6) 50 (xa 2) (xa 37) (xa 0) (xa 36) (xa 38) (xi 4) 40 (xa 1) p1 = some (r, o0, o1, o2) ∧ f_X10_fits (ma 0) (ma 4) (ma 5) p1 = some (r, q0, q1) ∧ INV xi (va_up (va_up (va_up xa 37 o0) 36 o1) 38 o2) mi (va_up (va_up ma 4 q0) 5 q1)
/-- what is to be shown of steps -/
def PP_steps (INV : (Nat → Int32) → (Nat → Nat → Int32) → (Nat → Int32) → (Nat → Nat → Int32) → Prop) : Prop := ∀ (xi : Nat → Int32) (xa : Nat → Nat → Int32) (mi : Nat → Int32) (ma : Nat → Nat → Int32), INV xi xa mi ma → ∀ (p1 : Int32) (p2 : Int32), ∃ (r : Int32) (o0 : (Nat → Int32)) (o1 : (Nat → Int32)) (o2 : (Nat → Int32)) (q0 : (Nat → Int32)) (q1 : (Nat → Int32)), f_X9_steps (xi 6) (xi 4) 50 (xa 2) (xa 37) (xa 0) (xa 36) (xa 38) 40 (xa 1) p1 p2 = some (r, o0, o1, o2) ∧ f_X10_steps (ma 0) (ma 4) (ma 5) p1 p2 = some (r, q0, q1) ∧ INV xi (va_up (va_up (va_up xa 37 o0) 36 o1) 38 o2) mi (va_up (va_up ma 4 q0) 5 q1)
/-- what is to be shown of home -/
def PP_home (INV : (Nat → Int32) → (Nat → Nat → Int32) → (Nat → Int32) → (Nat → Nat → Int32) → Prop) : Prop := ∀ (xi : Nat → Int32) (xa : Nat → Nat → Int32) (mi : Nat → Int32) (ma : Nat → Nat → Int32), INV xi xa mi ma → ∀ (p1 : Int32), ∃ (r : Int32) (o0 : (Nat → Int32)) (o1 : (Nat → Int32)) (o2 : (Nat → Int32)) (q0 : (Nat → Int32)) (q1 : (Nat → Int32)), f_X9_home (xi 6) 50 (xa 2) (xa 37) (xa 0) (xa 36) (xa 38) (xi 4) 40 (xa 1) p1 = some (r, o0, o1, o2) ∧ f_X10_home (ma 0) (ma 4) (ma 5) p1 = some (r, q0, q1) ∧ INV xi (va_up (va_up (va_up xa 37 o0) 36 o1) 38 o2) mi (va_up (va_up ma 4 q0) 5 q1)
/-- what is to be shown of upstream -/
def PP_upstream (INV : (Nat → Int32) → (Nat → Nat → Int32) → (Nat → Int32) → (Nat → Nat → Int32) → Prop) : Prop := ∀ (xi : Nat → Int32) (xa : Nat → Nat → Int32) (mi : Nat → Int32) (ma : Nat → Nat → Int32), INV xi xa mi ma → ∀ (p1 : Int32), ∃ (r : Int32) (o0 : (Nat → Int32)) (o1 : (Nat → Int32)) (o2 : (Nat → Int32)) (q0 : (Nat → Int32)) (q1 : (Nat → Int32)), f_X9_upstream (xa 37) (xa 0) (xa 36) (xa 38) p1 = some (r, o0, o1, o2) ∧ f_X10_upstream (ma 4) (ma 5) (ma 0) p1 = some (r, q0, q1) ∧ INV xi (va_up (va_up (va_up xa 37 o0) 36 o1) 38 o2) mi (va_up (va_up ma 4 q0) 5 q1)
/-- what is to be shown of scratch -/
def PP_scratch (INV : (Nat → Int32) → (Nat → Nat → Int32) → (Nat → Int32) → (Nat → Nat → Int32) → Prop) : Prop := ∀ (xi : Nat → Int32) (xa : Nat → Nat → Int32) (mi : Nat → Int32) (ma : Nat → Nat → Int32), INV xi xa mi ma → ∀ (p1 : Int32) (p2 : Int32), ∃ (r : Int32) (o0 : Int32) (o1 : (Nat → Int32)) (q0 : (Nat → Int32)), f_X9_scratch (xi 7) (xi 8) 50 (xa 3) p1 p2 = some (r, o0, o1) ∧ f_X10_scratch (ma 0) p1 p2 = some (r, q0) ∧ INV (va_up xi 8 o0) (va_up xa 3 o1) mi (va_up ma 0 q0)
/-- what is to be shown of put -/
def PP_put (INV : (Nat → Int32) → (Nat → Nat → Int32) → (Nat → Int32) → (Nat → Nat → Int32) → Prop) : Prop := ∀ (xi : Nat → Int32) (xa : Nat → Nat → Int32) (mi : Nat → Int32) (ma : Nat → Nat → Int32), INV xi xa mi ma → ∀ (p1 : Int32) (p2 : Int32), ∃ (r : Int32) (o0 : (Nat → Int32)) (q0 : (Nat → Int32)), f_X9_put (xa 4) p1 p2 = some (r, o0) ∧ f_X10_put (ma 0) p1 p2 = some (r, q0) ∧ INV xi (va_up xa 4 o0) mi (va_up ma 0 q0)
/-- what is to be shown of may -/
def PP_may (INV : (Nat → Int32) → (Nat → Nat → Int32) → (Nat → Int32) → (Nat → Nat → Int32) → Prop) : Prop := ∀ (xi : Nat → Int32) (xa : Nat → Nat → Int32) (mi : Nat → Int32) (ma : Nat → Nat → Int32), INV xi xa mi ma → ∀ (p1 : Int32), ∃ (r : Int32), f_X9_may (xi 8) 50 (xa 3) (xa 0) (xa 4) p1 = some r ∧ f_X10_may (ma 0) p1 = some r ∧ INV xi xa mi ma
/-- what is to be shown of laid -/
def PP_laid (INV : (Nat → Int32) → (Nat → Nat → Int32) → (Nat → Int32) → (Nat → Nat → Int32) → Prop) : Prop := ∀ (xi : Nat → Int32) (xa : Nat → Nat → Int32) (mi : Nat → Int32) (ma : Nat → Nat → Int32), INV xi xa mi ma → ∀ (p1 : Int32), ∃ (r : Int32) (q0 : (Nat → Int32)) (q1 : (Nat → Int32)) (q2 : (Nat → Int32)), f_X9_laid (xi 8) 50 (xa 3) (xa 0) (xa 4) p1 = some r ∧ f_X10_laid (ma 0) (ma 7) (ma 6) (ma 8) p1 = some (r, q0, q1, q2) ∧ INV xi xa mi (va_up (va_up (va_up ma 7 q0) 6 q1) 8 q2)
/-- what is to be shown of ridge -/
def PP_ridge (INV : (Nat → Int32) → (Nat → Nat → Int32) → (Nat → Int32) → (Nat → Nat → Int32) → Prop) : Prop := ∀ (xi : Nat → Int32) (xa : Nat → Nat → Int32) (mi : Nat → Int32) (ma : Nat → Nat → Int32), INV xi xa mi ma → ∀ (_ : Unit), ∃ (r : Int32) (o0 : Int32) (q0 : (Nat → Int32)), f_X9_ridge (xi 2) = some (r, o0) ∧ f_X10_ridge (ma 0) = some (r, q0) ∧ INV (va_up xi 2 o0) xa mi (va_up ma 0 q0)
/-- what is to be shown of fact -/
def PP_fact (INV : (Nat → Int32) → (Nat → Nat → Int32) → (Nat → Int32) → (Nat → Nat → Int32) → Prop) : Prop := ∀ (xi : Nat → Int32) (xa : Nat → Nat → Int32) (mi : Nat → Int32) (ma : Nat → Nat → Int32), INV xi xa mi ma → ∀ (p1 : Int32) (p2 : Int32) (p3 : Int32) (p4 : Int32) (p5 : Int32), ∃ (r : Int32) (o0 : Int32) (o1 : (Nat → Int32)) (q0 : (Nat → Int32)), f_X9_fact (xi 2) (xi 9) (xi 10) 80 (xa 5) p1 p2 p3 p4 p5 = some (r, o0, o1) ∧ f_X10_fact (ma 0) p1 p2 p3 p4 p5 = some (r, q0) ∧ INV (va_up xi 10 o0) (va_up xa 5 o1) mi (va_up ma 0 q0)
/-- what is to be shown of age -/
def PP_age (INV : (Nat → Int32) → (Nat → Nat → Int32) → (Nat → Int32) → (Nat → Nat → Int32) → Prop) : Prop := ∀ (xi : Nat → Int32) (xa : Nat → Nat → Int32) (mi : Nat → Int32) (ma : Nat → Nat → Int32), INV xi xa mi ma → ∀ (p1 : Int32) (p2 : Int32) (p3 : Int32), ∃ (r : Int32) (o0 : Int32) (o1 : (Nat → Int32)) (o2 : (Nat → Int32)) (o3 : (Nat → Int32)) (o4 : (Nat → Int32)) (o5 : (Nat → Int32)) (o6 : (Nat → Int32)) (q0 : Int32) (q1 : Int32) (q2 : Int32) (q3 : (Nat → Int32)) (q4 : (Nat → Int32)), f_X9_age (xi 2) (xi 10) (xi 46) 80 (xa 5) (xa 43) (xa 44) (xa 45) (xa 46) (xa 4) (xa 39) (xa 40) p1 p2 p3 = some (r, o0, o1, o2, o3, o4, o5, o6) ∧ f_X10_age (mi 0) (mi 1) (mi 2) (mi 3) (mi 4) (ma 0) (ma 9) (ma 10) p1 p2 p3 = some (r, q0, q1, q2, q3, q4) ∧ INV (va_up xi 46 o0) (va_up (va_up (va_up (va_up (va_up (va_up xa 43 o1) 44 o2) 45 o3) 46 o4) 39 o5) 40 o6) (va_up (va_up (va_up mi 0 q0) 2 q1) 4 q2) (va_up (va_up ma 9 q3) 10 q4)
/-- what is to be shown of fewest -/
def PP_fewest (INV : (Nat → Int32) → (Nat → Nat → Int32) → (Nat → Int32) → (Nat → Nat → Int32) → Prop) : Prop := ∀ (xi : Nat → Int32) (xa : Nat → Nat → Int32) (mi : Nat → Int32) (ma : Nat → Nat → Int32), INV xi xa mi ma → ∀ (_ : Unit), ∃ (r : Int32) (o0 : Int32) (o1 : Int32) (o2 : Int32) (o3 : Int32) (o4 : (Nat → Int32)) (o5 : (Nat → Int32)) (o6 : (Nat → Int32)) (o7 : (Nat → Int32)) (o8 : (Nat → Int32)) (o9 : (Nat → Int32)) (o10 : Int32) (o11 : (Nat → Int32)) (q0 : Int32) (q1 : Int32) (q2 : Int32) (q3 : (Nat → Int32)) (q4 : (Nat → Int32)), f_X9_fewest (xa 4) (xi 46) (xi 47) (xi 48) (xi 49) (xi 10) 80 (xa 5) (xa 43) (xa 44) (xa 45) (xa 46) (xa 39) (xa 40) (xi 50) (xi 51) 80 (xa 48) = some (r, o0, o1, o2, o3, o4, o5, o6, o7, o8, o9, o10, o11) ∧ f_X10_fewest (mi 0) (mi 1) (mi 2) (mi 3) (mi 4) (ma 0) (ma 9) (ma 10) = some (r, q0, q1, q2, q3, q4) ∧ INV (va_up (va_up (va_up (va_up (va_up xi 46 o0) 47 o1) 48 o2) 49 o3) 51 o10) (va_up (va_up (va_up (va_up (va_up (va_up (va_up xa 43 o4) 44 o5) 45 o6) 46 o7) 39 o8) 40 o9) 48 o11) (va_up (va_up (va_up mi 0 q0) 2 q1) 4 q2) (va_up (va_up ma 9 q3) 10 q4)
/-- what is to be shown of sure -/
def PP_sure (INV : (Nat → Int32) → (Nat → Nat → Int32) → (Nat → Int32) → (Nat → Nat → Int32) → Prop) : Prop := ∀ (xi : Nat → Int32) (xa : Nat → Nat → Int32) (mi : Nat → Int32) (ma : Nat → Nat → Int32), INV xi xa mi ma → ∀ (p1 : Int32) (p2 : Int32), ∃ (r : Int32) (o0 : Int32) (o1 : Int32) (o2 : Int32) (o3 : Int32) (o4 : (Nat → Int32)) (o5 : (Nat → Int32)) (o6 : (Nat → Int32)) (o7 : (Nat → Int32)) (o8 : (Nat → Int32)) (o9 : (Nat → Int32)) (o10 : Int32) (o11 : (Nat → Int32)) (o12 : (Nat → Int32)) (q0 : Int32) (q1 : Int32) (q2 : Int32) (q3 : Int32) (q4 : (Nat → Int32)) (q5 : (Nat → Int32)), f_X9_sure (xi 2) (xa 4) (xi 46) (xi 47) (xi 48) (xi 49) (xi 10) 80 (xa 5) (xa 43) (xa 44) (xa 45) (xa 46) (xa 39) (xa 40) (xi 50) (xi 51) 80 (xa 48) (xa 47) p1 p2 = some (r, o0, o1, o2, o3, o4, o5, o6, o7, o8, o9, o10, o11, o12) ∧ f_X10_sure (mi 0) (mi 1) (mi 2) (mi 3) (mi 4) (ma 0) (ma 9) (ma 10) p1 p2 = some (r, q0, q1, q2, q3, q4, q5) ∧ INV (va_up (va_up (va_up (va_up (va_up xi 46 o0) 47 o1) 48 o2) 49 o3) 51 o10) (va_up (va_up (va_up (va_up (va_up (va_up (va_up (va_up xa 43 o4) 44 o5) 45 o6) 46 o7) 39 o8) 40 o9) 48 o11) 47 o12) (va_up (va_up (va_up (va_up mi 0 q0) 1 q1) 2 q2) 4 q3) (va_up (va_up ma 9 q4) 10 q5)
/-- what is to be shown of core -/
def PP_core (INV : (Nat → Int32) → (Nat → Nat → Int32) → (Nat → Int32) → (Nat → Nat → Int32) → Prop) : Prop := ∀ (xi : Nat → Int32) (xa : Nat → Nat → Int32) (mi : Nat → Int32) (ma : Nat → Nat → Int32), INV xi xa mi ma → ∀ (_ : Unit), ∃ (r : Int32) (o0 : Int32) (o1 : Int32) (o2 : Int32) (o3 : Int32) (o4 : (Nat → Int32)) (o5 : (Nat → Int32)) (o6 : (Nat → Int32)) (o7 : (Nat → Int32)) (o8 : (Nat → Int32)) (o9 : (Nat → Int32)) (o10 : Int32) (o11 : (Nat → Int32)) (o12 : (Nat → Int32)) (q0 : Int32) (q1 : Int32) (q2 : Int32) (q3 : Int32) (q4 : (Nat → Int32)) (q5 : (Nat → Int32)), f_X9_core (xi 2) (xa 4) (xi 46) (xi 47) (xi 48) (xi 49) (xi 10) 80 (xa 5) (xa 43) (xa 44) (xa 45) (xa 46) (xa 39) (xa 40) (xi 50) (xi 51) 80 (xa 48) (xa 47) = some (r, o0, o1, o2, o3, o4, o5, o6, o7, o8, o9, o10, o11, o12) ∧ f_X10_core (mi 0) (mi 1) (mi 2) (mi 3) (mi 4) (ma 0) (ma 9) (ma 10) = some (r, q0, q1, q2, q3, q4, q5) ∧ INV (va_up (va_up (va_up (va_up (va_up xi 46 o0) 47 o1) 48 o2) 49 o3) 51 o10) (va_up (va_up (va_up (va_up (va_up (va_up (va_up (va_up xa 43 o4) 44 o5) 45 o6) 46 o7) 39 o8) 40 o9) 48 o11) 47 o12) (va_up (va_up (va_up (va_up mi 0 q0) 2 q1) 3 q2) 4 q3) (va_up (va_up ma 9 q4) 10 q5)
/-- what is to be shown of parted -/
def PP_parted (INV : (Nat → Int32) → (Nat → Nat → Int32) → (Nat → Int32) → (Nat → Nat → Int32) → Prop) : Prop := ∀ (xi : Nat → Int32) (xa : Nat → Nat → Int32) (mi : Nat → Int32) (ma : Nat → Nat → Int32), INV xi xa mi ma → ∀ (_ : Unit), ∃ (r : Int32) (o0 : Int32) (o1 : (Nat → Int32)) (o2 : (Nat → Int32)) (o3 : (Nat → Int32)) (o4 : (Nat → Int32)) (o5 : (Nat → Int32)) (o6 : (Nat → Int32)) (o7 : (Nat → Int32)) (o8 : (Nat → Int32)) (q0 : Int32) (q1 : Int32) (q2 : Int32) (q3 : (Nat → Int32)) (q4 : (Nat → Int32)) (q5 : (Nat → Int32)) (q6 : (Nat → Int32)), f_X9_parted (xi 2) (xi 10) 80 (xa 5) (xa 43) (xa 44) (xa 45) (xa 46) (xa 4) (xa 39) (xa 40) (xa 41) (xa 42) = some (r, o0, o1, o2, o3, o4, o5, o6, o7, o8) ∧ f_X10_parted (mi 1) (mi 3) (ma 0) (ma 9) (ma 10) (ma 11) (ma 12) = some (r, q0, q1, q2, q3, q4, q5, q6) ∧ INV (va_up xi 46 o0) (va_up (va_up (va_up (va_up (va_up (va_up (va_up (va_up xa 43 o1) 44 o2) 45 o3) 46 o4) 39 o5) 40 o6) 41 o7) 42 o8) (va_up (va_up (va_up mi 0 q0) 2 q1) 4 q2) (va_up (va_up (va_up (va_up ma 9 q3) 10 q4) 11 q5) 12 q6)
/-- what is to be shown of sign -/
def PP_sign (INV : (Nat → Int32) → (Nat → Nat → Int32) → (Nat → Int32) → (Nat → Nat → Int32) → Prop) : Prop := ∀ (xi : Nat → Int32) (xa : Nat → Nat → Int32) (mi : Nat → Int32) (ma : Nat → Nat → Int32), INV xi xa mi ma → ∀ (p1 : Int32) (p2 : Int32) (p3 : Int32) (p4 : Int32), ∃ (r : Int32) (o0 : Int32) (o1 : (Nat → Int32)) (q0 : (Nat → Int32)), f_X9_sign (xi 11) (xi 12) 50 (xa 6) p1 p2 p3 p4 = some (r, o0, o1) ∧ f_X10_sign (ma 0) p1 p2 p3 p4 = some (r, q0) ∧ INV (va_up xi 12 o0) (va_up xa 6 o1) mi (va_up ma 0 q0)
/-- what is to be shown of stand -/
def PP_stand (INV : (Nat → Int32) → (Nat → Nat → Int32) → (Nat → Int32) → (Nat → Nat → Int32) → Prop) : Prop := ∀ (xi : Nat → Int32) (xa : Nat → Nat → Int32) (mi : Nat → Int32) (ma : Nat → Nat → Int32), INV xi xa mi ma → ∀ (p1 : Int32), ∃ (r : Int32) (o0 : Int32) (o1 : Int32) (o2 : Int32) (o3 : Int32) (o4 : (Nat → Int32)) (o5 : (Nat → Int32)) (o6 : (Nat → Int32)) (o7 : (Nat → Int32)) (o8 : (Nat → Int32)) (o9 : Int32) (o10 : (Nat → Int32)) (q0 : Int32) (q1 : (Nat → Int32)), f_X9_stand (xa 4) (xi 52) (xi 53) (xi 54) (xi 55) (xa 50) (xa 51) (xa 52) (xi 12) 50 (xa 6) (xa 49) (xa 53) (xi 56) (xi 57) 50 (xa 54) p1 = some (r, o0, o1, o2, o3, o4, o5, o6, o7, o8, o9, o10) ∧ f_X10_stand (mi 5) (ma 0) (ma 13) p1 = some (r, q0, q1) ∧ INV (va_up (va_up (va_up (va_up (va_up xi 52 o0) 53 o1) 54 o2) 55 o3) 57 o9) (va_up (va_up (va_up (va_up (va_up (va_up xa 50 o4) 51 o5) 52 o6) 49 o7) 53 o8) 54 o10) (va_up mi 5 q0) (va_up ma 13 q1)
/-- what is to be shown of area -/
def PP_area (INV : (Nat → Int32) → (Nat → Nat → Int32) → (Nat → Int32) → (Nat → Nat → Int32) → Prop) : Prop := ∀ (xi : Nat → Int32) (xa : Nat → Nat → Int32) (mi : Nat → Int32) (ma : Nat → Nat → Int32), INV xi xa mi ma → ∀ (p1 : Int32) (p2 : Int32), ∃ (r : Int32) (o0 : (Nat → Int32)) (q0 : (Nat → Int32)), f_X9_area (xa 7) p1 p2 = some (r, o0) ∧ f_X10_area (ma 0) p1 p2 = some (r, q0) ∧ INV xi (va_up xa 7 o0) mi (va_up ma 0 q0)
/-- what is to be shown of lake -/
def PP_lake (INV : (Nat → Int32) → (Nat → Nat → Int32) → (Nat → Int32) → (Nat → Nat → Int32) → Prop) : Prop := ∀ (xi : Nat → Int32) (xa : Nat → Nat → Int32) (mi : Nat → Int32) (ma : Nat → Nat → Int32), INV xi xa mi ma → ∀ (p1 : Int32) (p2 : Int32) (p3 : Int32), ∃ (r : Int32) (o0 : Int32) (o1 : Int32) (o2 : (Nat → Int32)) (q0 : Int32) (q1 : Int32) (q2 : (Nat → Int32)), f_X9_lake (xa 7) (xi 58) (xi 59) (xa 55) (xa 4) p1 p2 p3 = some (r, o0, o1, o2) ∧ f_X10_lake (mi 6) (mi 7) (ma 0) (ma 14) p1 p2 p3 = some (r, q0, q1, q2) ∧ INV (va_up (va_up xi 58 o0) 59 o1) (va_up xa 55 o2) (va_up (va_up mi 6 q0) 7 q1) (va_up ma 14 q2)
/-- what is to be shown of shore -/
def PP_shore (INV : (Nat → Int32) → (Nat → Nat → Int32) → (Nat → Int32) → (Nat → Nat → Int32) → Prop) : Prop := ∀ (xi : Nat → Int32) (xa : Nat → Nat → Int32) (mi : Nat → Int32) (ma : Nat → Nat → Int32), INV xi xa mi ma → ∀ (p1 : Int32) (p2 : Int32) (p3 : Int32) (p4 : Int32), ∃ (r : Int32), f_X9_shore (xa 7) p1 p2 p3 p4 = some r ∧ f_X10_shore (ma 0) p1 p2 p3 p4 = some r ∧ INV xi xa mi ma
/-- what is to be shown of zone -/
def PP_zone (INV : (Nat → Int32) → (Nat → Nat → Int32) → (Nat → Int32) → (Nat → Nat → Int32) → Prop) : Prop := ∀ (xi : Nat → Int32) (xa : Nat → Nat → Int32) (mi : Nat → Int32) (ma : Nat → Nat → Int32), INV xi xa mi ma → ∀ (p1 : Int32) (p2 : Int32), ∃ (r : Int32) (o0 : (Nat → Int32)) (q0 : (Nat → Int32)), f_X9_zone (xa 8) p1 p2 = some (r, o0) ∧ f_X10_zone (ma 0) p1 p2 = some (r, q0) ∧ INV xi (va_up xa 8 o0) mi (va_up ma 0 q0)
/-- what is to be shown of ice -/
def PP_ice (INV : (Nat → Int32) → (Nat → Nat → Int32) → (Nat → Int32) → (Nat → Nat → Int32) → Prop) : Prop := ∀ (xi : Nat → Int32) (xa : Nat → Nat → Int32) (mi : Nat → Int32) (ma : Nat → Nat → Int32), INV xi xa mi ma → ∀ (p1 : Int32) (p2 : Int32), ∃ (r : Int32), f_X9_ice (xa 4) (xa 8) p1 p2 = some r ∧ f_X10_ice (ma 0) p1 p2 = some r ∧ INV xi xa mi ma
/-- what is to be shown of warm -/
def PP_warm (INV : (Nat → Int32) → (Nat → Nat → Int32) → (Nat → Int32) → (Nat → Nat → Int32) → Prop) : Prop := ∀ (xi : Nat → Int32) (xa : Nat → Nat → Int32) (mi : Nat → Int32) (ma : Nat → Nat → Int32), INV xi xa mi ma → ∀ (p1 : Int32) (p2 : Int32) (p3 : Int32), ∃ (r : Int32), f_X9_warm (xa 4) (xa 8) p1 p2 p3 = some r ∧ f_X10_warm (ma 0) p1 p2 p3 = some r ∧ INV xi xa mi ma
/-- what is to be shown of type -/
def PP_type (INV : (Nat → Int32) → (Nat → Nat → Int32) → (Nat → Int32) → (Nat → Nat → Int32) → Prop) : Prop := ∀ (xi : Nat → Int32) (xa : Nat → Nat → Int32) (mi : Nat → Int32) (ma : Nat → Nat → Int32), INV xi xa mi ma → ∀ (p1 : Int64) (p2 : Int32), ∃ (r : Int32) (o0 : Int32) (o1 : (Nat → Int32)) (q0 : Int32) (q1 : (Nat → Int32)), f_X9_type (xi 60) (xa 56) p1 p2 = some (r, o0, o1) ∧ f_X10_type (mi 8) (ma 15) p1 p2 = some (r, q0, q1) ∧ INV (va_up xi 60 o0) (va_up xa 56 o1) (va_up mi 8 q0) (va_up ma 15 q1)
/-- what is to be shown of clear -/
def PP_clear (INV : (Nat → Int32) → (Nat → Nat → Int32) → (Nat → Int32) → (Nat → Nat → Int32) → Prop) : Prop := ∀ (xi : Nat → Int32) (xa : Nat → Nat → Int32) (mi : Nat → Int32) (ma : Nat → Nat → Int32), INV xi xa mi ma → ∀ (_ : Unit), ∃ (r : Int32) (o0 : Int32) (q0 : Int32), f_X9_clear (xi 60) = some (r, o0) ∧ f_X10_clear (mi 8) = some (r, q0) ∧ INV (va_up xi 60 o0) xa (va_up mi 8 q0) ma
/-- what is to be shown of fault -/
def PP_fault (INV : (Nat → Int32) → (Nat → Nat → Int32) → (Nat → Int32) → (Nat → Nat → Int32) → Prop) : Prop := ∀ (xi : Nat → Int32) (xa : Nat → Nat → Int32) (mi : Nat → Int32) (ma : Nat → Nat → Int32), INV xi xa mi ma → ∀ (_ : Unit), ∃ (r : Int32) (o0 : Int32) (o1 : Int32) (o2 : Int32) (o3 : Int32) (o4 : (Nat → Int32)) (q0 : Int32) (q1 : Int32) (q2 : Int32) (q3 : Int32) (q4 : Int32) (q5 : (Nat → Int32)) (q6 : (Nat → Int32)), f_X9_fault (xi 60) (xi 61) (xi 62) (xi 64) (xa 56) (xa 57) = some (r, o0, o1, o2, o3, o4) ∧ f_X10_fault (mi 8) (mi 12) (ma 15) (ma 17) (ma 16) = some (r, q0, q1, q2, q3, q4, q5, q6) ∧ INV (va_up (va_up (va_up (va_up xi 61 o0) 62 o1) 63 o2) 64 o3) (va_up xa 57 o4) (va_up (va_up (va_up (va_up (va_up mi 9 q0) 10 q1) 11 q2) 12 q3) 13 q4) (va_up (va_up ma 17 q5) 16 q6)
/-- what is to be shown of read -/
def PP_read (INV : (Nat → Int32) → (Nat → Nat → Int32) → (Nat → Int32) → (Nat → Nat → Int32) → Prop) : Prop := ∀ (xi : Nat → Int32) (xa : Nat → Nat → Int32) (mi : Nat → Int32) (ma : Nat → Nat → Int32), INV xi xa mi ma → ∀ (_ : Unit), ∃ (r : Int32) (o0 : Int32) (o1 : Int32) (o2 : Int32) (o3 : Int32) (o4 : Int32) (o5 : (Nat → Int32)) (o6 : Int32) (o7 : Int32) (o8 : (Nat → Int32)) (o9 : (Nat → Int32)) (o10 : Int32) (o11 : Int32) (o12 : (Nat → Int32)) (o13 : (Nat → Int32)) (o14 : Int32) (o15 : Int32) (o16 : (Nat → Int32)) (o17 : (Nat → Int32)) (o18 : Int32) (o19 : Int32) (o20 : (Nat → Int32)) (o21 : (Nat → Int32)) (o22 : (Nat → Int32)) (o23 : (Nat → Int32)) (o24 : Int32) (o25 : Int32) (o26 : (Nat → Int32)) (o27 : (Nat → Int32)) (o28 : Int32) (o29 : Int32) (o30 : (Nat → Int32)) (o31 : (Nat → Int32)) (o32 : (Nat → Int32)) (o33 : (Nat → Int32)) (o34 : (Nat → Int32)) (o35 : (Nat → Int32)) (q0 : Int32) (q1 : Int32) (q2 : Int32) (q3 : Int32) (q4 : Int32) (q5 : Int32) (q6 : (Nat → Int32)) (q7 : (Nat → Int32)) (q8 : (Nat → Int32)) (q9 : (Nat → Int32)), f_X9_read (xi 60) (xi 61) (xi 62) (xi 64) (xa 56) (xa 57) (xi 2) (xi 13) (xa 9) (xa 0) (xi 14) (xi 15) (xi 3) (xi 4) 40 (xa 1) 40 (xa 10) (xi 16) (xi 17) (xi 5) (xi 6) 50 (xa 2) 50 (xa 11) (xi 18) (xi 19) (xi 7) (xi 8) 50 (xa 3) 50 (xa 12) (xa 13) (xa 4) (xi 20) (xi 21) (xi 9) (xi 10) 80 (xa 5) 80 (xa 14) (xi 22) (xi 23) (xi 11) (xi 12) 50 (xa 6) 50 (xa 15) (xa 16) (xa 7) (xa 17) (xa 8) = some (r, o0, o1, o2, o3, o4, o5, o6, o7, o8, o9, o10, o11, o12, o13, o14, o15, o16, o17, o18, o19, o20, o21, o22, o23, o24, o25, o26, o27, o28, o29, o30, o31, o32, o33, o34, o35) ∧ f_X10_read (mi 8) (mi 12) (ma 15) (ma 17) (ma 16) (ma 0) (ma 3) = some (r, q0, q1, q2, q3, q4, q5, q6, q7, q8, q9) ∧ INV (va_up (va_up (va_up (va_up (va_up (va_up (va_up (va_up (va_up (va_up (va_up (va_up (va_up (va_up (va_up (va_up (va_up xi 60 o0) 61 o1) 62 o2) 63 o3) 64 o4) 2 o6) 13 o7) 15 o10) 4 o11) 17 o14) 6 o15) 19 o18) 8 o19) 21 o24) 10 o25) 23 o28) 12 o29) (va_up (va_up (va_up (va_up (va_up (va_up (va_up (va_up (va_up (va_up (va_up (va_up (va_up (va_up (va_up (va_up (va_up (va_up (va_up xa 57 o5) 9 o8) 0 o9) 1 o12) 10 o13) 2 o16) 11 o17) 3 o20) 12 o21) 13 o22) 4 o23) 5 o26) 14 o27) 6 o30) 15 o31) 16 o32) 7 o33) 17 o34) 8 o35) (va_up (va_up (va_up (va_up (va_up (va_up mi 8 q0) 9 q1) 10 q2) 11 q3) 12 q4) 13 q5) (va_up (va_up (va_up (va_up ma 17 q6) 16 q7) 0 q8) 3 q9)
/-- what is to be shown of image -/
def PP_image (INV : (Nat → Int32) → (Nat → Nat → Int32) → (Nat → Int32) → (Nat → Nat → Int32) → Prop) : Prop := ∀ (xi : Nat → Int32) (xa : Nat → Nat → Int32) (mi : Nat → Int32) (ma : Nat → Nat → Int32), INV xi xa mi ma → ∀ (p1 : Int32), ∃ (r : Int32) (o0 : Int32) (o1 : Int32) (o2 : Int32) (o3 : (Nat → Int32)) (o4 : Int32) (o5 : (Nat → Int32)) (o6 : Int32) (o7 : (Nat → Int32)) (o8 : Int32) (o9 : (Nat → Int32)) (o10 : (Nat → Int32)) (o11 : Int32) (o12 : (Nat → Int32)) (o13 : Int32) (o14 : (Nat → Int32)) (o15 : (Nat → Int32)) (o16 : (Nat → Int32)) (o17 : Int32) (o18 : (Nat → Int32)) (o19 : Int32) (o20 : (Nat → Int32)) (o21 : Int32) (o22 : (Nat → Int32)) (o23 : Int32) (o24 : (Nat → Int32)) (o25 : (Nat → Int32)) (o26 : Int32) (o27 : (Nat → Int32)) (o28 : Int32) (o29 : (Nat → Int32)) (o30 : (Nat → Int32)) (o31 : (Nat → Int32)) (q0 : (Nat → Int32)) (q1 : (Nat → Int32)), f_X9_image (xi 0) (xi 1) (xi 2) (xi 35) (xa 27) (xa 0) (xi 36) (xi 37) (xi 4) 40 (xa 1) 40 (xa 28) (xi 38) (xi 39) (xi 6) 50 (xa 2) 50 (xa 29) (xi 40) (xi 41) (xi 8) 50 (xa 3) 50 (xa 30) (xa 31) (xa 4) (xi 42) (xi 43) (xi 10) 80 (xa 5) 80 (xa 32) (xi 44) (xi 45) (xi 12) 50 (xa 6) 50 (xa 33) (xa 34) (xa 7) (xa 35) (xa 8) (xi 24) (xa 18) (xi 25) (xi 26) 40 (xa 19) (xi 27) (xi 28) 50 (xa 20) (xi 29) (xi 30) 50 (xa 21) (xa 22) (xi 31) (xi 32) 80 (xa 23) (xi 33) (xi 34) 50 (xa 24) (xa 25) (xa 26) p1 = some (r, o0, o1, o2, o3, o4, o5, o6, o7, o8, o9, o10, o11, o12, o13, o14, o15, o16, o17, o18, o19, o20, o21, o22, o23, o24, o25, o26, o27, o28, o29, o30, o31) ∧ f_X10_image (ma 0) (ma 1) (ma 2) p1 = some (r, q0, q1) ∧ INV (va_up (va_up (va_up (va_up (va_up (va_up (va_up (va_up (va_up (va_up (va_up (va_up (va_up (va_up xi 0 o0) 1 o1) 35 o2) 37 o4) 39 o6) 41 o8) 43 o11) 45 o13) 24 o17) 26 o19) 28 o21) 30 o23) 32 o26) 34 o28) (va_up (va_up (va_up (va_up (va_up (va_up (va_up (va_up (va_up (va_up (va_up (va_up (va_up (va_up (va_up (va_up (va_up (va_up xa 27 o3) 28 o5) 29 o7) 30 o9) 31 o10) 32 o12) 33 o14) 34 o15) 35 o16) 18 o18) 19 o20) 20 o22) 21 o24) 22 o25) 23 o27) 24 o29) 25 o30) 26 o31) mi (va_up (va_up ma 1 q0) 2 q1)
/-- what is to be shown of from -/
def PP_from (INV : (Nat → Int32) → (Nat → Nat → Int32) → (Nat → Int32) → (Nat → Nat → Int32) → Prop) : Prop := ∀ (xi : Nat → Int32) (xa : Nat → Nat → Int32) (mi : Nat → Int32) (ma : Nat → Nat → Int32), INV xi xa mi ma → ∀ (p1 : Int32), ∃ (r : Int32) (o0 : Int32) (o1 : (Nat → Int32)) (o2 : Int32) (o3 : (Nat → Int32)) (o4 : Int32) (o5 : (Nat → Int32)) (o6 : Int32) (o7 : (Nat → Int32)) (o8 : (Nat → Int32)) (o9 : Int32) (o10 : (Nat → Int32)) (o11 : Int32) (o12 : (Nat → Int32)) (o13 : (Nat → Int32)) (o14 : (Nat → Int32)) (q0 : (Nat → Int32)), f_X9_from (xi 0) (xi 1) (xi 35) (xi 2) (xa 0) (xa 27) (xi 3) (xi 4) (xi 37) 40 (xa 28) 40 (xa 1) (xi 5) (xi 6) (xi 39) 50 (xa 29) 50 (xa 2) (xi 7) (xi 8) (xi 41) 50 (xa 30) 50 (xa 3) (xa 4) (xa 31) (xi 9) (xi 10) (xi 43) 80 (xa 32) 80 (xa 5) (xi 11) (xi 12) (xi 45) 50 (xa 33) 50 (xa 6) (xa 7) (xa 34) (xa 8) (xa 35) (xi 24) (xa 18) (xi 26) 40 (xa 19) (xi 28) 50 (xa 20) (xi 30) 50 (xa 21) (xa 22) (xi 32) 80 (xa 23) (xi 34) 50 (xa 24) (xa 25) (xa 26) p1 = some (r, o0, o1, o2, o3, o4, o5, o6, o7, o8, o9, o10, o11, o12, o13, o14) ∧ f_X10_from (ma 2) (ma 1) (ma 0) p1 = some (r, q0) ∧ INV (va_up (va_up (va_up (va_up (va_up (va_up xi 2 o0) 4 o2) 6 o4) 8 o6) 10 o9) 12 o11) (va_up (va_up (va_up (va_up (va_up (va_up (va_up (va_up (va_up xa 0 o1) 1 o3) 2 o5) 3 o7) 4 o8) 5 o10) 6 o12) 7 o13) 8 o14) mi (va_up ma 0 q0)
/-- what is to be shown of count -/
def PP_count (INV : (Nat → Int32) → (Nat → Nat → Int32) → (Nat → Int32) → (Nat → Nat → Int32) → Prop) : Prop := ∀ (xi : Nat → Int32) (xa : Nat → Nat → Int32) (mi : Nat → Int32) (ma : Nat → Nat → Int32), INV xi xa mi ma → ∀ (p1 : Int32), ∃ (r : Int32), f_X9_count (xi 2) (xi 4) (xi 6) (xi 8) (xi 10) (xi 12) (xi 60) p1 = some r ∧ f_X10_count (mi 8) (ma 0) p1 = some r ∧ INV xi xa mi ma
/-- what is to be shown of digest -/
def PP_digest (INV : (Nat → Int32) → (Nat → Nat → Int32) → (Nat → Int32) → (Nat → Nat → Int32) → Prop) : Prop := ∀ (xi : Nat → Int32) (xa : Nat → Nat → Int32) (mi : Nat → Int32) (ma : Nat → Nat → Int32), INV xi xa mi ma → ∀ (_ : Unit), ∃ (r : Int64), f_X9_digest (xi 2) (xi 4) (xi 6) (xi 8) (xi 10) (xi 12) (xi 60) (xa 0) 40 (xa 1) 50 (xa 2) 50 (xa 3) (xa 4) 80 (xa 5) 50 (xa 6) (xa 7) (xa 8) = some r ∧ f_X10_digest (mi 8) (ma 0) = some r ∧ INV xi xa mi ma
