/-- the words that can be carried -/
def tG : List Cond := lw_tbl.filter goodWord
theorem inG {w : Cond} (i : Nat) (h : lw_tbl[i]? = some w) (hg : goodWord w = true) : w ∈ tG := List.mem_filter.mpr ⟨List.mem_of_getElem? h, hg⟩
theorem in1 {c0 : Cond} {a : List Cond} (h : ∀ w ∈ a, w ∈ tG) : ∀ w ∈ a, w ∈ c0 :: tG := fun w hw => List.mem_cons_of_mem _ (h w hw)
theorem gT {c0 : Cond} {ws : List Cond} (h : ∀ w ∈ ws, w ∈ tG) : GoodIn (c0 :: tG) ws := fun w hw => ⟨List.mem_cons_of_mem _ (h w hw), good_of_word (List.mem_filter.mp (h w hw)).2⟩
theorem gT0 {ws : List Cond} (h : ∀ w ∈ ws, w ∈ tG) : GoodIn tG ws := fun w hw => ⟨h w hw, good_of_word (List.mem_filter.mp (h w hw)).2⟩
theorem mV {own : String} {idx : Nat} {C : String} {y : MethodName} {cy : Cond} (h1 : Cond.methodLink own idx y ∈ tG) (h2 : Cond.instanceMethod y ∈ tG) (h3 : Cond.selects C y y ∈ tG) (h4 : Cond.initialized C ∈ tG) (h5 : cy ∈ tG) : ∀ w ∈ wsV own idx C y (cy :: tG), w ∈ tG := by
  intro w hw
  unfold wsV at hw
  rcases List.mem_append.mp hw with hw | hw
  · simp only [List.mem_cons, List.not_mem_nil, or_false] at hw
    rcases hw with rfl | rfl | rfl | rfl <;> assumption
  · rcases List.mem_cons.mp hw with rfl | hw
    · exact h5
    · exact hw
theorem mS {own : String} {idx : Nat} {C : String} {y : MethodName} {cy : Cond} (hC : y.cls = C) (h1 : Cond.methodLink own idx y ∈ tG) (h2 : Cond.static y ∈ tG) (h3 : Cond.initialized C ∈ tG) (h5 : cy ∈ tG) : ∀ w ∈ va_wsS own idx y (cy :: tG), w ∈ tG := by
  intro w hw
  unfold va_wsS at hw
  rw [hC] at hw
  rcases List.mem_append.mp hw with hw | hw
  · simp only [List.mem_cons, List.not_mem_nil, or_false] at hw
    rcases hw with rfl | rfl | rfl <;> assumption
  · rcases List.mem_cons.mp hw with rfl | hw
    · exact h5
    · exact hw
theorem gV {c0 : Cond} {own : String} {idx : Nat} {C : String} {y : MethodName} {cy : Cond} (h1 : Cond.methodLink own idx y ∈ tG) (h2 : Cond.instanceMethod y ∈ tG) (h3 : Cond.selects C y y ∈ tG) (h4 : Cond.initialized C ∈ tG) (h5 : cy ∈ tG) : GoodIn (c0 :: tG) (wsV own idx C y (cy :: tG)) := gT (mV h1 h2 h3 h4 h5)
theorem gV0 {own : String} {idx : Nat} {C : String} {y : MethodName} {cy : Cond} (h1 : Cond.methodLink own idx y ∈ tG) (h2 : Cond.instanceMethod y ∈ tG) (h3 : Cond.selects C y y ∈ tG) (h4 : Cond.initialized C ∈ tG) (h5 : cy ∈ tG) : GoodIn tG (wsV own idx C y (cy :: tG)) := gT0 (mV h1 h2 h3 h4 h5)
theorem gS {c0 : Cond} {own : String} {idx : Nat} {C : String} {y : MethodName} {cy : Cond} (h1 : Cond.methodLink own idx y ∈ tG) (h2 : Cond.static y ∈ tG) (h3 : Cond.initialized C ∈ tG) (h5 : cy ∈ tG) (hC : y.cls = C := by rfl) : GoodIn (c0 :: tG) (va_wsS own idx y (cy :: tG)) := gT (mS hC h1 h2 h3 h5)
theorem gI {c0 cy : Cond} (h5 : cy ∈ tG) : GoodIn (c0 :: tG) (cy :: tG) := gT (fun w hw => (List.mem_cons.mp hw).elim (fun e => e ▸ h5) id)
theorem gI0 {cy : Cond} (h5 : cy ∈ tG) : GoodIn tG (cy :: tG) := gT0 (fun w hw => (List.mem_cons.mp hw).elim (fun e => e ▸ h5) id)
set_option maxRecDepth 20000 in
theorem kw_0 : Cond.methodLink RX4 3 objectInit ∈ tG := inG 103 (by decide +kernel) (by decide +kernel)
set_option maxRecDepth 20000 in
theorem kw_1 : Cond.instanceMethod objectInit ∈ tG := inG 90 (by decide +kernel) (by decide +kernel)
set_option maxRecDepth 20000 in
theorem kw_2 : Cond.code objectInit ⟨#[0xb1]⟩ 1 none ∈ tG := inG 91 (by decide +kernel) (by decide +kernel)
set_option maxRecDepth 20000 in
theorem kw_3 : Cond.methodLink RX4 9 Lib.Math.min.name ∈ tG := inG 104 (by decide +kernel) (by decide +kernel)
set_option maxRecDepth 20000 in
theorem kw_4 : Cond.static Lib.Math.min.name ∈ tG := inG 105 (by decide +kernel) (by decide +kernel)
set_option maxRecDepth 20000 in
theorem kw_5 : Cond.initialized "java/lang/Math" ∈ tG := inG 68 (by decide +kernel) (by decide +kernel)
set_option maxRecDepth 20000 in
theorem kw_6 : Cond.code Lib.Math.min.name Lib.Math.min.code 2 (some .int) ∈ tG := inG 106 (by decide +kernel) (by decide +kernel)
set_option maxRecDepth 20000 in
theorem kw_7 : Cond.methodLink RX4 15 Lib.Math.max.name ∈ tG := inG 107 (by decide +kernel) (by decide +kernel)
set_option maxRecDepth 20000 in
theorem kw_8 : Cond.static Lib.Math.max.name ∈ tG := inG 108 (by decide +kernel) (by decide +kernel)
set_option maxRecDepth 20000 in
theorem kw_9 : Cond.code Lib.Math.max.name Lib.Math.max.code 2 (some .int) ∈ tG := inG 109 (by decide +kernel) (by decide +kernel)
set_option maxRecDepth 20000 in
theorem tw_X4 : ∀ w ∈ u_ws RX4 TX4 3, w ∈ tG := fun w h => List.mem_filter.mpr ⟨(by decide +kernel : ∀ w ∈ u_ws RX4 TX4 3, w ∈ lw_tbl) w h, (by decide +kernel : ∀ w ∈ u_ws RX4 TX4 3, goodWord w = true) w h⟩
set_option maxRecDepth 20000 in
theorem kw_11 : Cond.fieldLink RX4 18 "StoneRiver$Rows" "limit" "I" ∈ tG := inG 110 (by decide +kernel) (by decide +kernel)
set_option maxRecDepth 20000 in
theorem kw_12 : Cond.arrayClass .int ∈ tG := inG 120 (by decide +kernel) (by decide +kernel)
set_option maxRecDepth 20000 in
theorem kw_13 : Cond.fieldLink RX4 24 "StoneRiver$Rows" "cells" "[I" ∈ tG := inG 111 (by decide +kernel) (by decide +kernel)
set_option maxRecDepth 20000 in
theorem kw_14 : Cond.methodLink RX1 1 objectInit ∈ tG := inG 97 (by decide +kernel) (by decide +kernel)
set_option maxRecDepth 20000 in
theorem tw_X1 : ∀ w ∈ u_ws RX1 TX1 10, w ∈ tG := fun w h => List.mem_filter.mpr ⟨(by decide +kernel : ∀ w ∈ u_ws RX1 TX1 10, w ∈ lw_tbl) w h, (by decide +kernel : ∀ w ∈ u_ws RX1 TX1 10, goodWord w = true) w h⟩
set_option maxRecDepth 20000 in
theorem kw_16 : Cond.fieldLink RX1 9 "StoneRiver$Found" "surfaces" "[I" ∈ tG := inG 121 (by decide +kernel) (by decide +kernel)
set_option maxRecDepth 20000 in
theorem kw_17 : Cond.classLink RX1 15 RX4 ∈ tG := inG 98 (by decide +kernel) (by decide +kernel)
set_option maxRecDepth 20000 in
theorem kw_18 : Cond.instantiable RX4 3 ∈ tG := inG 99 (by decide +kernel) (by decide +kernel)
set_option maxRecDepth 20000 in
theorem kw_19 : Cond.initialized RX4 ∈ tG := inG 67 (by decide +kernel) (by decide +kernel)
set_option maxRecDepth 20000 in
theorem kw_20 : Cond.code yX4_init cX4_init 2 none ∈ tG := inG 102 (by decide +kernel) (by decide +kernel)
set_option maxRecDepth 20000 in
theorem kw_21 : Cond.methodLink RX1 17 yX4_init ∈ tG := inG 100 (by decide +kernel) (by decide +kernel)
set_option maxRecDepth 20000 in
theorem kw_22 : Cond.instanceMethod yX4_init ∈ tG := inG 101 (by decide +kernel) (by decide +kernel)
set_option maxRecDepth 20000 in
theorem kw_23 : Cond.fieldLink RX1 20 "StoneRiver$Found" "cliffs" "LStoneRiver$Rows;" ∈ tG := inG 125 (by decide +kernel) (by decide +kernel)
set_option maxRecDepth 20000 in
theorem kw_24 : Cond.fieldLink RX1 24 "StoneRiver$Found" "boulders" "LStoneRiver$Rows;" ∈ tG := inG 128 (by decide +kernel) (by decide +kernel)
set_option maxRecDepth 20000 in
theorem kw_25 : Cond.fieldLink RX1 27 "StoneRiver$Found" "scratches" "LStoneRiver$Rows;" ∈ tG := inG 131 (by decide +kernel) (by decide +kernel)
set_option maxRecDepth 20000 in
theorem kw_26 : Cond.fieldLink RX1 30 "StoneRiver$Found" "numbers" "[I" ∈ tG := inG 134 (by decide +kernel) (by decide +kernel)
set_option maxRecDepth 20000 in
theorem kw_27 : Cond.fieldLink RX1 35 "StoneRiver$Found" "facts" "LStoneRiver$Rows;" ∈ tG := inG 141 (by decide +kernel) (by decide +kernel)
set_option maxRecDepth 20000 in
theorem kw_28 : Cond.fieldLink RX1 40 "StoneRiver$Found" "signs" "LStoneRiver$Rows;" ∈ tG := inG 144 (by decide +kernel) (by decide +kernel)
set_option maxRecDepth 20000 in
theorem kw_29 : Cond.fieldLink RX1 45 "StoneRiver$Found" "areas" "[I" ∈ tG := inG 147 (by decide +kernel) (by decide +kernel)
set_option maxRecDepth 20000 in
theorem kw_30 : Cond.fieldLink RX1 50 "StoneRiver$Found" "heights" "[I" ∈ tG := inG 150 (by decide +kernel) (by decide +kernel)
set_option maxRecDepth 20000 in
theorem kw_31 : Cond.methodLink RX7 3 objectInit ∈ tG := inG 182 (by decide +kernel) (by decide +kernel)
set_option maxRecDepth 20000 in
theorem tw_X7 : ∀ w ∈ u_ws RX7 TX7 3, w ∈ tG := fun w h => List.mem_filter.mpr ⟨(by decide +kernel : ∀ w ∈ u_ws RX7 TX7 3, w ∈ lw_tbl) w h, (by decide +kernel : ∀ w ∈ u_ws RX7 TX7 3, goodWord w = true) w h⟩
set_option maxRecDepth 20000 in
theorem kw_33 : Cond.fieldLink RX7 11 "StoneRiver$Valley" "next" "[I" ∈ tG := inG 183 (by decide +kernel) (by decide +kernel)
set_option maxRecDepth 20000 in
theorem kw_34 : Cond.fieldLink RX7 15 "StoneRiver$Valley" "stepsToGoal" "[I" ∈ tG := inG 184 (by decide +kernel) (by decide +kernel)
set_option maxRecDepth 20000 in
theorem kw_35 : Cond.fieldLink RX7 18 "StoneRiver$Valley" "stepsFromEarlier" "[I" ∈ tG := inG 185 (by decide +kernel) (by decide +kernel)
set_option maxRecDepth 20000 in
theorem kw_36 : Cond.methodLink RX0 3 objectInit ∈ tG := inG 198 (by decide +kernel) (by decide +kernel)
set_option maxRecDepth 20000 in
theorem tw_X0 : ∀ w ∈ u_ws RX0 TX0 14, w ∈ tG := fun w h => List.mem_filter.mpr ⟨(by decide +kernel : ∀ w ∈ u_ws RX0 TX0 14, w ∈ lw_tbl) w h, (by decide +kernel : ∀ w ∈ u_ws RX0 TX0 14, goodWord w = true) w h⟩
set_option maxRecDepth 20000 in
theorem kw_38 : Cond.fieldLink RX0 11 "StoneRiver$Ages" "least" "[I" ∈ tG := inG 201 (by decide +kernel) (by decide +kernel)
set_option maxRecDepth 20000 in
theorem kw_39 : Cond.fieldLink RX0 15 "StoneRiver$Ages" "greatest" "[I" ∈ tG := inG 202 (by decide +kernel) (by decide +kernel)
set_option maxRecDepth 20000 in
theorem kw_40 : Cond.fieldLink RX0 18 "StoneRiver$Ages" "leastBefore" "[I" ∈ tG := inG 203 (by decide +kernel) (by decide +kernel)
set_option maxRecDepth 20000 in
theorem kw_41 : Cond.fieldLink RX0 21 "StoneRiver$Ages" "greatestBefore" "[I" ∈ tG := inG 204 (by decide +kernel) (by decide +kernel)
set_option maxRecDepth 20000 in
theorem kw_42 : Cond.fieldLink RX0 24 "StoneRiver$Ages" "ridgeOf" "[I" ∈ tG := inG 205 (by decide +kernel) (by decide +kernel)
set_option maxRecDepth 20000 in
theorem kw_43 : Cond.fieldLink RX0 27 "StoneRiver$Ages" "olderOf" "[I" ∈ tG := inG 206 (by decide +kernel) (by decide +kernel)
set_option maxRecDepth 20000 in
theorem kw_44 : Cond.fieldLink RX0 30 "StoneRiver$Ages" "lowOf" "[I" ∈ tG := inG 207 (by decide +kernel) (by decide +kernel)
set_option maxRecDepth 20000 in
theorem kw_45 : Cond.fieldLink RX0 33 "StoneRiver$Ages" "highOf" "[I" ∈ tG := inG 208 (by decide +kernel) (by decide +kernel)
set_option maxRecDepth 20000 in
theorem kw_46 : Cond.fieldLink RX0 36 "StoneRiver$Ages" "cutsBetween" "[I" ∈ tG := inG 210 (by decide +kernel) (by decide +kernel)
set_option maxRecDepth 20000 in
theorem kw_47 : Cond.classLink RX0 39 RX4 ∈ tG := inG 199 (by decide +kernel) (by decide +kernel)
set_option maxRecDepth 20000 in
theorem kw_48 : Cond.methodLink RX0 41 yX4_init ∈ tG := inG 200 (by decide +kernel) (by decide +kernel)
set_option maxRecDepth 20000 in
theorem kw_49 : Cond.fieldLink RX0 44 "StoneRiver$Ages" "soughtFor" "LStoneRiver$Rows;" ∈ tG := inG 211 (by decide +kernel) (by decide +kernel)
set_option maxRecDepth 20000 in
theorem kw_50 : Cond.methodLink RX2 5 objectInit ∈ tG := inG 249 (by decide +kernel) (by decide +kernel)
set_option maxRecDepth 20000 in
theorem tw_X2 : ∀ w ∈ u_ws RX2 TX2 10, w ∈ tG := fun w h => List.mem_filter.mpr ⟨(by decide +kernel : ∀ w ∈ u_ws RX2 TX2 10, w ∈ lw_tbl) w h, (by decide +kernel : ∀ w ∈ u_ws RX2 TX2 10, goodWord w = true) w h⟩
set_option maxRecDepth 20000 in
theorem kw_52 : Cond.fieldLink RX2 11 "StoneRiver$Fronts" "wayOn" "[I" ∈ tG := inG 252 (by decide +kernel) (by decide +kernel)
set_option maxRecDepth 20000 in
theorem kw_53 : Cond.fieldLink RX2 15 "StoneRiver$Fronts" "lowest" "[I" ∈ tG := inG 253 (by decide +kernel) (by decide +kernel)
set_option maxRecDepth 20000 in
theorem kw_54 : Cond.fieldLink RX2 18 "StoneRiver$Fronts" "highest" "[I" ∈ tG := inG 254 (by decide +kernel) (by decide +kernel)
set_option maxRecDepth 20000 in
theorem kw_55 : Cond.fieldLink RX2 21 "StoneRiver$Fronts" "seenAt" "[I" ∈ tG := inG 255 (by decide +kernel) (by decide +kernel)
set_option maxRecDepth 20000 in
theorem kw_56 : Cond.fieldLink RX2 24 "StoneRiver$Fronts" "firstRow" "[I" ∈ tG := inG 256 (by decide +kernel) (by decide +kernel)
set_option maxRecDepth 20000 in
theorem kw_57 : Cond.classLink RX2 27 RX4 ∈ tG := inG 250 (by decide +kernel) (by decide +kernel)
set_option maxRecDepth 20000 in
theorem kw_58 : Cond.methodLink RX2 29 yX4_init ∈ tG := inG 251 (by decide +kernel) (by decide +kernel)
set_option maxRecDepth 20000 in
theorem kw_59 : Cond.fieldLink RX2 32 "StoneRiver$Fronts" "drawnFor" "LStoneRiver$Rows;" ∈ tG := inG 260 (by decide +kernel) (by decide +kernel)
set_option maxRecDepth 20000 in
theorem kw_60 : Cond.methodLink RX3 1 objectInit ∈ tG := inG 288 (by decide +kernel) (by decide +kernel)
set_option maxRecDepth 20000 in
theorem tw_X3 : ∀ w ∈ u_ws RX3 TX3 3, w ∈ tG := fun w h => List.mem_filter.mpr ⟨(by decide +kernel : ∀ w ∈ u_ws RX3 TX3 3, w ∈ lw_tbl) w h, (by decide +kernel : ∀ w ∈ u_ws RX3 TX3 3, goodWord w = true) w h⟩
set_option maxRecDepth 20000 in
theorem kw_62 : Cond.fieldLink RX3 9 "StoneRiver$Outburst" "left" "[I" ∈ tG := inG 289 (by decide +kernel) (by decide +kernel)
set_option maxRecDepth 20000 in
theorem kw_63 : Cond.methodLink RX6 3 objectInit ∈ tG := inG 304 (by decide +kernel) (by decide +kernel)
set_option maxRecDepth 20000 in
theorem tw_X6 : ∀ w ∈ u_ws RX6 TX6 7, w ∈ tG := fun w h => List.mem_filter.mpr ⟨(by decide +kernel : ∀ w ∈ u_ws RX6 TX6 7, w ∈ lw_tbl) w h, (by decide +kernel : ∀ w ∈ u_ws RX6 TX6 7, goodWord w = true) w h⟩
set_option maxRecDepth 20000 in
theorem kw_65 : Cond.fieldLink RX6 11 "StoneRiver$Text" "bytes" "[I" ∈ tG := inG 305 (by decide +kernel) (by decide +kernel)
set_option maxRecDepth 20000 in
theorem kw_66 : Cond.fieldLink RX6 15 "StoneRiver$Text" "numbers" "[I" ∈ tG := inG 311 (by decide +kernel) (by decide +kernel)
set_option maxRecDepth 20000 in
theorem kw_67 : Cond.methodLink RX9 1 objectInit ∈ tG := inG 89 (by decide +kernel) (by decide +kernel)
set_option maxRecDepth 20000 in
theorem kw_68 : Cond.classLink RX9 7 RX1 ∈ tG := inG 92 (by decide +kernel) (by decide +kernel)
set_option maxRecDepth 20000 in
theorem kw_69 : Cond.instantiable RX1 10 ∈ tG := inG 93 (by decide +kernel) (by decide +kernel)
set_option maxRecDepth 20000 in
theorem kw_70 : Cond.initialized RX1 ∈ tG := inG 66 (by decide +kernel) (by decide +kernel)
set_option maxRecDepth 20000 in
theorem kw_71 : Cond.code yX1_init cX1_init 1 none ∈ tG := inG 96 (by decide +kernel) (by decide +kernel)
set_option maxRecDepth 20000 in
theorem kw_72 : Cond.methodLink RX9 9 yX1_init ∈ tG := inG 94 (by decide +kernel) (by decide +kernel)
set_option maxRecDepth 20000 in
theorem kw_73 : Cond.instanceMethod yX1_init ∈ tG := inG 95 (by decide +kernel) (by decide +kernel)
set_option maxRecDepth 20000 in
theorem tw_X9 : ∀ w ∈ u_ws RX9 TX9 11, w ∈ tG := fun w h => List.mem_filter.mpr ⟨(by decide +kernel : ∀ w ∈ u_ws RX9 TX9 11, w ∈ lw_tbl) w h, (by decide +kernel : ∀ w ∈ u_ws RX9 TX9 11, goodWord w = true) w h⟩
set_option maxRecDepth 20000 in
theorem kw_75 : Cond.fieldLink RX9 10 "StoneRiver" "now" "LStoneRiver$Found;" ∈ tG := inG 327 (by decide +kernel) (by decide +kernel)
set_option maxRecDepth 20000 in
theorem kw_76 : Cond.fieldLink RX9 16 "StoneRiver" "beforeRead" "LStoneRiver$Found;" ∈ tG := inG 328 (by decide +kernel) (by decide +kernel)
set_option maxRecDepth 20000 in
theorem kw_77 : Cond.fieldLink RX9 19 "StoneRiver" "firstImage" "LStoneRiver$Found;" ∈ tG := inG 329 (by decide +kernel) (by decide +kernel)
set_option maxRecDepth 20000 in
theorem kw_78 : Cond.fieldLink RX9 22 "StoneRiver" "secondImage" "LStoneRiver$Found;" ∈ tG := inG 330 (by decide +kernel) (by decide +kernel)
set_option maxRecDepth 20000 in
theorem kw_79 : Cond.classLink RX9 25 RX7 ∈ tG := inG 177 (by decide +kernel) (by decide +kernel)
set_option maxRecDepth 20000 in
theorem kw_80 : Cond.instantiable RX7 3 ∈ tG := inG 178 (by decide +kernel) (by decide +kernel)
set_option maxRecDepth 20000 in
theorem kw_81 : Cond.initialized RX7 ∈ tG := inG 69 (by decide +kernel) (by decide +kernel)
set_option maxRecDepth 20000 in
theorem kw_82 : Cond.code yX7_init cX7_init 1 none ∈ tG := inG 181 (by decide +kernel) (by decide +kernel)
set_option maxRecDepth 20000 in
theorem kw_83 : Cond.methodLink RX9 27 yX7_init ∈ tG := inG 179 (by decide +kernel) (by decide +kernel)
set_option maxRecDepth 20000 in
theorem kw_84 : Cond.instanceMethod yX7_init ∈ tG := inG 180 (by decide +kernel) (by decide +kernel)
set_option maxRecDepth 20000 in
theorem kw_85 : Cond.fieldLink RX9 28 "StoneRiver" "valley" "LStoneRiver$Valley;" ∈ tG := inG 331 (by decide +kernel) (by decide +kernel)
set_option maxRecDepth 20000 in
theorem kw_86 : Cond.classLink RX9 32 RX0 ∈ tG := inG 193 (by decide +kernel) (by decide +kernel)
set_option maxRecDepth 20000 in
theorem kw_87 : Cond.instantiable RX0 14 ∈ tG := inG 194 (by decide +kernel) (by decide +kernel)
set_option maxRecDepth 20000 in
theorem kw_88 : Cond.initialized RX0 ∈ tG := inG 70 (by decide +kernel) (by decide +kernel)
set_option maxRecDepth 20000 in
theorem kw_89 : Cond.code yX0_init cX0_init 1 none ∈ tG := inG 197 (by decide +kernel) (by decide +kernel)
set_option maxRecDepth 20000 in
theorem kw_90 : Cond.methodLink RX9 34 yX0_init ∈ tG := inG 195 (by decide +kernel) (by decide +kernel)
set_option maxRecDepth 20000 in
theorem kw_91 : Cond.instanceMethod yX0_init ∈ tG := inG 196 (by decide +kernel) (by decide +kernel)
set_option maxRecDepth 20000 in
theorem kw_92 : Cond.fieldLink RX9 35 "StoneRiver" "ages" "LStoneRiver$Ages;" ∈ tG := inG 332 (by decide +kernel) (by decide +kernel)
set_option maxRecDepth 20000 in
theorem kw_93 : Cond.classLink RX9 39 RX2 ∈ tG := inG 244 (by decide +kernel) (by decide +kernel)
set_option maxRecDepth 20000 in
theorem kw_94 : Cond.instantiable RX2 10 ∈ tG := inG 245 (by decide +kernel) (by decide +kernel)
set_option maxRecDepth 20000 in
theorem kw_95 : Cond.initialized RX2 ∈ tG := inG 71 (by decide +kernel) (by decide +kernel)
set_option maxRecDepth 20000 in
theorem kw_96 : Cond.code yX2_init cX2_init 1 none ∈ tG := inG 248 (by decide +kernel) (by decide +kernel)
set_option maxRecDepth 20000 in
theorem kw_97 : Cond.methodLink RX9 41 yX2_init ∈ tG := inG 246 (by decide +kernel) (by decide +kernel)
set_option maxRecDepth 20000 in
theorem kw_98 : Cond.instanceMethod yX2_init ∈ tG := inG 247 (by decide +kernel) (by decide +kernel)
set_option maxRecDepth 20000 in
theorem kw_99 : Cond.fieldLink RX9 42 "StoneRiver" "fronts" "LStoneRiver$Fronts;" ∈ tG := inG 333 (by decide +kernel) (by decide +kernel)
set_option maxRecDepth 20000 in
theorem kw_100 : Cond.classLink RX9 46 RX3 ∈ tG := inG 283 (by decide +kernel) (by decide +kernel)
set_option maxRecDepth 20000 in
theorem kw_101 : Cond.instantiable RX3 3 ∈ tG := inG 284 (by decide +kernel) (by decide +kernel)
set_option maxRecDepth 20000 in
theorem kw_102 : Cond.initialized RX3 ∈ tG := inG 72 (by decide +kernel) (by decide +kernel)
set_option maxRecDepth 20000 in
theorem kw_103 : Cond.code yX3_init cX3_init 1 none ∈ tG := inG 287 (by decide +kernel) (by decide +kernel)
set_option maxRecDepth 20000 in
theorem kw_104 : Cond.methodLink RX9 48 yX3_init ∈ tG := inG 285 (by decide +kernel) (by decide +kernel)
set_option maxRecDepth 20000 in
theorem kw_105 : Cond.instanceMethod yX3_init ∈ tG := inG 286 (by decide +kernel) (by decide +kernel)
set_option maxRecDepth 20000 in
theorem kw_106 : Cond.fieldLink RX9 49 "StoneRiver" "outburst" "LStoneRiver$Outburst;" ∈ tG := inG 334 (by decide +kernel) (by decide +kernel)
set_option maxRecDepth 20000 in
theorem kw_107 : Cond.classLink RX9 53 RX6 ∈ tG := inG 299 (by decide +kernel) (by decide +kernel)
set_option maxRecDepth 20000 in
theorem kw_108 : Cond.instantiable RX6 7 ∈ tG := inG 300 (by decide +kernel) (by decide +kernel)
set_option maxRecDepth 20000 in
theorem kw_109 : Cond.initialized RX6 ∈ tG := inG 73 (by decide +kernel) (by decide +kernel)
set_option maxRecDepth 20000 in
theorem kw_110 : Cond.code yX6_init cX6_init 1 none ∈ tG := inG 303 (by decide +kernel) (by decide +kernel)
set_option maxRecDepth 20000 in
theorem kw_111 : Cond.methodLink RX9 55 yX6_init ∈ tG := inG 301 (by decide +kernel) (by decide +kernel)
set_option maxRecDepth 20000 in
theorem kw_112 : Cond.instanceMethod yX6_init ∈ tG := inG 302 (by decide +kernel) (by decide +kernel)
set_option maxRecDepth 20000 in
theorem kw_113 : Cond.fieldLink RX9 56 "StoneRiver" "text" "LStoneRiver$Text;" ∈ tG := inG 335 (by decide +kernel) (by decide +kernel)
set_option maxRecDepth 20000 in
theorem kw_114 : Cond.methodLink RX10 1 objectInit ∈ tG := inG 984 (by decide +kernel) (by decide +kernel)
set_option maxRecDepth 20000 in
theorem tw_X10 : ∀ w ∈ u_ws RX10 TX10 32, w ∈ tG := fun w h => List.mem_filter.mpr ⟨(by decide +kernel : ∀ w ∈ u_ws RX10 TX10 32, w ∈ lw_tbl) w h, (by decide +kernel : ∀ w ∈ u_ws RX10 TX10 32, goodWord w = true) w h⟩
set_option maxRecDepth 20000 in
theorem kw_116 : Cond.fieldLink RX10 7 "StoneRiverModel" "book" "[I" ∈ tG := inG 985 (by decide +kernel) (by decide +kernel)
set_option maxRecDepth 20000 in
theorem kw_117 : Cond.fieldLink RX10 13 "StoneRiverModel" "images" "[I" ∈ tG := inG 986 (by decide +kernel) (by decide +kernel)
set_option maxRecDepth 20000 in
theorem kw_118 : Cond.arrayClass .boolean ∈ tG := inG 1082 (by decide +kernel) (by decide +kernel)
set_option maxRecDepth 20000 in
theorem kw_119 : Cond.fieldLink RX10 16 "StoneRiverModel" "kept" "[Z" ∈ tG := inG 987 (by decide +kernel) (by decide +kernel)
set_option maxRecDepth 20000 in
theorem kw_120 : Cond.fieldLink RX10 20 "StoneRiverModel" "aside" "[I" ∈ tG := inG 988 (by decide +kernel) (by decide +kernel)
set_option maxRecDepth 20000 in
theorem kw_121 : Cond.fieldLink RX10 23 "StoneRiverModel" "far" "[I" ∈ tG := inG 989 (by decide +kernel) (by decide +kernel)
set_option maxRecDepth 20000 in
theorem kw_122 : Cond.fieldLink RX10 26 "StoneRiverModel" "then" "[I" ∈ tG := inG 990 (by decide +kernel) (by decide +kernel)
set_option maxRecDepth 20000 in
theorem kw_123 : Cond.fieldLink RX10 29 "StoneRiverModel" "row" "[I" ∈ tG := inG 991 (by decide +kernel) (by decide +kernel)
set_option maxRecDepth 20000 in
theorem kw_124 : Cond.fieldLink RX10 32 "StoneRiverModel" "mays" "[I" ∈ tG := inG 992 (by decide +kernel) (by decide +kernel)
set_option maxRecDepth 20000 in
theorem kw_125 : Cond.fieldLink RX10 35 "StoneRiverModel" "firstRow" "[I" ∈ tG := inG 993 (by decide +kernel) (by decide +kernel)
set_option maxRecDepth 20000 in
theorem kw_126 : Cond.fieldLink RX10 38 "StoneRiverModel" "low" "[I" ∈ tG := inG 994 (by decide +kernel) (by decide +kernel)
set_option maxRecDepth 20000 in
theorem kw_127 : Cond.fieldLink RX10 41 "StoneRiverModel" "high" "[I" ∈ tG := inG 995 (by decide +kernel) (by decide +kernel)
set_option maxRecDepth 20000 in
theorem kw_128 : Cond.fieldLink RX10 44 "StoneRiverModel" "lowOne" "[I" ∈ tG := inG 1001 (by decide +kernel) (by decide +kernel)
set_option maxRecDepth 20000 in
theorem kw_129 : Cond.fieldLink RX10 47 "StoneRiverModel" "highOne" "[I" ∈ tG := inG 1002 (by decide +kernel) (by decide +kernel)
set_option maxRecDepth 20000 in
theorem kw_130 : Cond.fieldLink RX10 50 "StoneRiverModel" "ways" "[I" ∈ tG := inG 1003 (by decide +kernel) (by decide +kernel)
set_option maxRecDepth 20000 in
theorem kw_131 : Cond.fieldLink RX10 53 "StoneRiverModel" "left" "[I" ∈ tG := inG 1005 (by decide +kernel) (by decide +kernel)
set_option maxRecDepth 20000 in
theorem kw_132 : Cond.fieldLink RX10 56 "StoneRiverModel" "text" "[I" ∈ tG := inG 1008 (by decide +kernel) (by decide +kernel)
set_option maxRecDepth 20000 in
theorem kw_133 : Cond.fieldLink RX10 59 "StoneRiverModel" "verbs" "[I" ∈ tG := inG 1014 (by decide +kernel) (by decide +kernel)
set_option maxRecDepth 20000 in
theorem kw_134 : Cond.fieldLink RX10 62 "StoneRiverModel" "nums" "[I" ∈ tG := inG 1015 (by decide +kernel) (by decide +kernel)
set_option maxRecDepth 20000 in
theorem kw_135 : Cond.constant RJ6 264 (65536) ∈ tG := inG 539 (by decide +kernel) (by decide +kernel)
set_option maxRecDepth 20000 in
theorem kw_136 : Cond.fieldLink RJ0 38 "java/lang/String" "COMPACT_STRINGS" "Z" ∈ tG := inG 869 (by decide +kernel) (by decide +kernel)
set_option maxRecDepth 20000 in
theorem kw_137 : Cond.fieldLink RJ0 15 "java/lang/String" "coder" "B" ∈ tG := inG 1440 (by decide +kernel) (by decide +kernel)
set_option maxRecDepth 20000 in
theorem kw_138 : Cond.fieldLink RJ0 1053 "jdk/internal/util/Preconditions" "SIOOBE_FORMATTER" "Ljava/util/function/BiFunction;" ∈ tG := inG 877 (by decide +kernel) (by decide +kernel)
set_option maxRecDepth 20000 in
theorem kw_139 : Cond.methodLink RJ0 1059 yJ3_checkIndex_8e157 ∈ tG := inG 879 (by decide +kernel) (by decide +kernel)
set_option maxRecDepth 20000 in
theorem kw_140 : Cond.static yJ3_checkIndex_8e157 ∈ tG := inG 880 (by decide +kernel) (by decide +kernel)
set_option maxRecDepth 20000 in
theorem kw_141 : Cond.initialized RJ3 ∈ tG := inG 82 (by decide +kernel) (by decide +kernel)
set_option maxRecDepth 20000 in
theorem kw_142 : Cond.code yJ3_checkIndex_8e157 cJ3_checkIndex_8e157 3 (some .int) ∈ tG := inG 881 (by decide +kernel) (by decide +kernel)
set_option maxRecDepth 20000 in
theorem kw_143 : Cond.methodLink RJ1 9 yJ0_checkIndex_df160 ∈ tG := inG 874 (by decide +kernel) (by decide +kernel)
set_option maxRecDepth 20000 in
theorem kw_144 : Cond.static yJ0_checkIndex_df160 ∈ tG := inG 875 (by decide +kernel) (by decide +kernel)
set_option maxRecDepth 20000 in
theorem kw_145 : Cond.initialized RJ0 ∈ tG := inG 80 (by decide +kernel) (by decide +kernel)
set_option maxRecDepth 20000 in
theorem kw_146 : Cond.code yJ0_checkIndex_df160 cJ0_checkIndex_df160 2 none ∈ tG := inG 876 (by decide +kernel) (by decide +kernel)
set_option maxRecDepth 20000 in
theorem kw_147 : Cond.methodLink RJ0 492 yJ0_isLatin1_aae02 ∈ tG := inG 865 (by decide +kernel) (by decide +kernel)
set_option maxRecDepth 20000 in
theorem kw_148 : Cond.instanceMethod yJ0_isLatin1_aae02 ∈ tG := inG 866 (by decide +kernel) (by decide +kernel)
set_option maxRecDepth 20000 in
theorem kw_149 : Cond.selects RJ0 yJ0_isLatin1_aae02 yJ0_isLatin1_aae02 ∈ tG := inG 867 (by decide +kernel) (by decide +kernel)
set_option maxRecDepth 20000 in
theorem kw_150 : Cond.code yJ0_isLatin1_aae02 cJ0_isLatin1_aae02 1 (some .boolean) ∈ tG := inG 868 (by decide +kernel) (by decide +kernel)
set_option maxRecDepth 20000 in
theorem kw_151 : Cond.fieldLink RJ0 9 "java/lang/String" "value" "[B" ∈ tG := inG 1441 (by decide +kernel) (by decide +kernel)
set_option maxRecDepth 20000 in
theorem kw_152 : Cond.methodLink RJ0 495 yJ1_charAt_3b067 ∈ tG := inG 871 (by decide +kernel) (by decide +kernel)
set_option maxRecDepth 20000 in
theorem kw_153 : Cond.static yJ1_charAt_3b067 ∈ tG := inG 872 (by decide +kernel) (by decide +kernel)
set_option maxRecDepth 20000 in
theorem kw_154 : Cond.initialized RJ1 ∈ tG := inG 81 (by decide +kernel) (by decide +kernel)
set_option maxRecDepth 20000 in
theorem kw_155 : Cond.code yJ1_charAt_3b067 cJ1_charAt_3b067 2 (some .char) ∈ tG := inG 873 (by decide +kernel) (by decide +kernel)
set_option maxRecDepth 20000 in
theorem kw_156 : Cond.constantLong RX10 65 (2) ∈ tG := inG 1090 (by decide +kernel) (by decide +kernel)
set_option maxRecDepth 20000 in
theorem kw_157 : Cond.methodLink RX10 67 yX10_in ∈ tG := inG 1091 (by decide +kernel) (by decide +kernel)
set_option maxRecDepth 20000 in
theorem kw_158 : Cond.static yX10_in ∈ tG := inG 1092 (by decide +kernel) (by decide +kernel)
set_option maxRecDepth 20000 in
theorem kw_159 : Cond.initialized RX10 ∈ tG := inG 74 (by decide +kernel) (by decide +kernel)
set_option maxRecDepth 20000 in
theorem kw_160 : Cond.code yX10_in cX10_in 6 (some .boolean) ∈ tG := inG 1093 (by decide +kernel) (by decide +kernel)
set_option maxRecDepth 20000 in
theorem kw_161 : Cond.constantLong RX10 71 (63) ∈ tG := inG 1097 (by decide +kernel) (by decide +kernel)
set_option maxRecDepth 20000 in
theorem kw_162 : Cond.methodLink RX10 73 yX10_isStage ∈ tG := inG 1087 (by decide +kernel) (by decide +kernel)
set_option maxRecDepth 20000 in
theorem kw_163 : Cond.static yX10_isStage ∈ tG := inG 1088 (by decide +kernel) (by decide +kernel)
set_option maxRecDepth 20000 in
theorem kw_164 : Cond.code yX10_isStage cX10_isStage 1 (some .boolean) ∈ tG := inG 1089 (by decide +kernel) (by decide +kernel)
set_option maxRecDepth 20000 in
theorem kw_165 : Cond.methodLink RX10 77 yX10_isPlace ∈ tG := inG 1094 (by decide +kernel) (by decide +kernel)
set_option maxRecDepth 20000 in
theorem kw_166 : Cond.static yX10_isPlace ∈ tG := inG 1095 (by decide +kernel) (by decide +kernel)
set_option maxRecDepth 20000 in
theorem kw_167 : Cond.code yX10_isPlace cX10_isPlace 1 (some .boolean) ∈ tG := inG 1096 (by decide +kernel) (by decide +kernel)
set_option maxRecDepth 20000 in
theorem kw_168 : Cond.constantLong RX10 80 (99) ∈ tG := inG 1098 (by decide +kernel) (by decide +kernel)
set_option maxRecDepth 20000 in
theorem kw_169 : Cond.methodLink RX10 82 yX10_sets ∈ tG := inG 1099 (by decide +kernel) (by decide +kernel)
set_option maxRecDepth 20000 in
theorem kw_170 : Cond.instanceMethod yX10_sets ∈ tG := inG 1101 (by decide +kernel) (by decide +kernel)
set_option maxRecDepth 20000 in
theorem kw_171 : Cond.selects RX10 yX10_sets yX10_sets ∈ tG := inG 28 (by decide +kernel) (by decide +kernel)
set_option maxRecDepth 20000 in
theorem kw_172 : Cond.code yX10_sets cX10_sets 4 (some .int) ∈ tG := inG 1102 (by decide +kernel) (by decide +kernel)
set_option maxRecDepth 20000 in
theorem kw_173 : Cond.constantLong RX10 86 (7) ∈ tG := inG 1107 (by decide +kernel) (by decide +kernel)
set_option maxRecDepth 20000 in
theorem kw_174 : Cond.constantLong RX10 88 (-50) ∈ tG := inG 1108 (by decide +kernel) (by decide +kernel)
set_option maxRecDepth 20000 in
theorem kw_175 : Cond.constantLong RX10 90 (50) ∈ tG := inG 1109 (by decide +kernel) (by decide +kernel)
set_option maxRecDepth 20000 in
theorem kw_176 : Cond.methodLink RX10 92 yX10_heightAt ∈ tG := inG 1118 (by decide +kernel) (by decide +kernel)
set_option maxRecDepth 20000 in
theorem kw_177 : Cond.instanceMethod yX10_heightAt ∈ tG := inG 1120 (by decide +kernel) (by decide +kernel)
set_option maxRecDepth 20000 in
theorem kw_178 : Cond.selects RX10 yX10_heightAt yX10_heightAt ∈ tG := inG 30 (by decide +kernel) (by decide +kernel)
set_option maxRecDepth 20000 in
theorem kw_179 : Cond.code yX10_heightAt cX10_heightAt 3 (some .int) ∈ tG := inG 1121 (by decide +kernel) (by decide +kernel)
set_option maxRecDepth 20000 in
theorem kw_180 : Cond.methodLink RX10 95 yX10_beside ∈ tG := inG 1122 (by decide +kernel) (by decide +kernel)
set_option maxRecDepth 20000 in
theorem kw_181 : Cond.static yX10_beside ∈ tG := inG 1123 (by decide +kernel) (by decide +kernel)
set_option maxRecDepth 20000 in
theorem kw_182 : Cond.code yX10_beside cX10_beside 4 (some .int) ∈ tG := inG 1124 (by decide +kernel) (by decide +kernel)
set_option maxRecDepth 20000 in
theorem kw_183 : Cond.methodLink RX10 98 yX10_flowOf ∈ tG := inG 1114 (by decide +kernel) (by decide +kernel)
set_option maxRecDepth 20000 in
theorem kw_184 : Cond.instanceMethod yX10_flowOf ∈ tG := inG 1116 (by decide +kernel) (by decide +kernel)
set_option maxRecDepth 20000 in
theorem kw_185 : Cond.selects RX10 yX10_flowOf yX10_flowOf ∈ tG := inG 29 (by decide +kernel) (by decide +kernel)
set_option maxRecDepth 20000 in
theorem kw_186 : Cond.code yX10_flowOf cX10_flowOf 7 (some .int) ∈ tG := inG 1117 (by decide +kernel) (by decide +kernel)
set_option maxRecDepth 20000 in
theorem kw_187 : Cond.constantLong RX10 101 (5) ∈ tG := inG 1129 (by decide +kernel) (by decide +kernel)
set_option maxRecDepth 20000 in
theorem kw_188 : Cond.methodLink RX10 103 yX10_comes ∈ tG := inG 1130 (by decide +kernel) (by decide +kernel)
set_option maxRecDepth 20000 in
theorem kw_189 : Cond.instanceMethod yX10_comes ∈ tG := inG 1132 (by decide +kernel) (by decide +kernel)
set_option maxRecDepth 20000 in
theorem kw_190 : Cond.selects RX10 yX10_comes yX10_comes ∈ tG := inG 31 (by decide +kernel) (by decide +kernel)
set_option maxRecDepth 20000 in
theorem kw_191 : Cond.code yX10_comes cX10_comes 6 (some .int) ∈ tG := inG 1133 (by decide +kernel) (by decide +kernel)
set_option maxRecDepth 20000 in
theorem kw_192 : Cond.constant RX10 107 (1000000) ∈ tG := inG 1162 (by decide +kernel) (by decide +kernel)
set_option maxRecDepth 20000 in
theorem kw_193 : Cond.methodLink RX10 108 yX10_cliffAt ∈ tG := inG 1146 (by decide +kernel) (by decide +kernel)
set_option maxRecDepth 20000 in
theorem kw_194 : Cond.instanceMethod yX10_cliffAt ∈ tG := inG 1148 (by decide +kernel) (by decide +kernel)
set_option maxRecDepth 20000 in
theorem kw_195 : Cond.selects RX10 yX10_cliffAt yX10_cliffAt ∈ tG := inG 33 (by decide +kernel) (by decide +kernel)
set_option maxRecDepth 20000 in
theorem kw_196 : Cond.code yX10_cliffAt cX10_cliffAt 3 (some .int) ∈ tG := inG 1149 (by decide +kernel) (by decide +kernel)
set_option maxRecDepth 20000 in
theorem kw_197 : Cond.methodLink RX10 111 yX10_carries ∈ tG := inG 1158 (by decide +kernel) (by decide +kernel)
set_option maxRecDepth 20000 in
theorem kw_198 : Cond.instanceMethod yX10_carries ∈ tG := inG 1160 (by decide +kernel) (by decide +kernel)
set_option maxRecDepth 20000 in
theorem kw_199 : Cond.selects RX10 yX10_carries yX10_carries ∈ tG := inG 36 (by decide +kernel) (by decide +kernel)
set_option maxRecDepth 20000 in
theorem kw_200 : Cond.code yX10_carries cX10_carries 7 none ∈ tG := inG 1161 (by decide +kernel) (by decide +kernel)
set_option maxRecDepth 20000 in
theorem kw_201 : Cond.methodLink RX10 115 yX10_boulderAt ∈ tG := inG 1150 (by decide +kernel) (by decide +kernel)
set_option maxRecDepth 20000 in
theorem kw_202 : Cond.instanceMethod yX10_boulderAt ∈ tG := inG 1152 (by decide +kernel) (by decide +kernel)
set_option maxRecDepth 20000 in
theorem kw_203 : Cond.selects RX10 yX10_boulderAt yX10_boulderAt ∈ tG := inG 34 (by decide +kernel) (by decide +kernel)
set_option maxRecDepth 20000 in
theorem kw_204 : Cond.code yX10_boulderAt cX10_boulderAt 3 (some .int) ∈ tG := inG 1153 (by decide +kernel) (by decide +kernel)
set_option maxRecDepth 20000 in
theorem kw_205 : Cond.methodLink RX10 118 yX10_is ∈ tG := inG 1142 (by decide +kernel) (by decide +kernel)
set_option maxRecDepth 20000 in
theorem kw_206 : Cond.instanceMethod yX10_is ∈ tG := inG 1144 (by decide +kernel) (by decide +kernel)
set_option maxRecDepth 20000 in
theorem kw_207 : Cond.selects RX10 yX10_is yX10_is ∈ tG := inG 32 (by decide +kernel) (by decide +kernel)
set_option maxRecDepth 20000 in
theorem kw_208 : Cond.code yX10_is cX10_is 3 (some .boolean) ∈ tG := inG 1145 (by decide +kernel) (by decide +kernel)
set_option maxRecDepth 20000 in
theorem kw_209 : Cond.methodLink RX10 122 yX10_stepsOf ∈ tG := inG 1154 (by decide +kernel) (by decide +kernel)
set_option maxRecDepth 20000 in
theorem kw_210 : Cond.instanceMethod yX10_stepsOf ∈ tG := inG 1156 (by decide +kernel) (by decide +kernel)
set_option maxRecDepth 20000 in
theorem kw_211 : Cond.selects RX10 yX10_stepsOf yX10_stepsOf ∈ tG := inG 35 (by decide +kernel) (by decide +kernel)
set_option maxRecDepth 20000 in
theorem kw_212 : Cond.code yX10_stepsOf cX10_stepsOf 4 (some .int) ∈ tG := inG 1157 (by decide +kernel) (by decide +kernel)
set_option maxRecDepth 20000 in
theorem kw_213 : Cond.constantLong RX10 125 (15) ∈ tG := inG 1179 (by decide +kernel) (by decide +kernel)
set_option maxRecDepth 20000 in
theorem kw_214 : Cond.constantLong RX10 131 (9) ∈ tG := inG 1186 (by decide +kernel) (by decide +kernel)
set_option maxRecDepth 20000 in
theorem kw_215 : Cond.constantLong RX10 129 (999) ∈ tG := inG 1185 (by decide +kernel) (by decide +kernel)
set_option maxRecDepth 20000 in
theorem kw_216 : Cond.constantLong RX10 127 (20) ∈ tG := inG 1184 (by decide +kernel) (by decide +kernel)
set_option maxRecDepth 20000 in
theorem kw_217 : Cond.methodLink RX10 133 yX10_mayOf ∈ tG := inG 1191 (by decide +kernel) (by decide +kernel)
set_option maxRecDepth 20000 in
theorem kw_218 : Cond.instanceMethod yX10_mayOf ∈ tG := inG 1193 (by decide +kernel) (by decide +kernel)
set_option maxRecDepth 20000 in
theorem kw_219 : Cond.selects RX10 yX10_mayOf yX10_mayOf ∈ tG := inG 37 (by decide +kernel) (by decide +kernel)
set_option maxRecDepth 20000 in
theorem kw_220 : Cond.code yX10_mayOf cX10_mayOf 6 (some .int) ∈ tG := inG 1194 (by decide +kernel) (by decide +kernel)
set_option maxRecDepth 20000 in
theorem kw_221 : Cond.methodLink RX10 137 yX10_isLaid ∈ tG := inG 1203 (by decide +kernel) (by decide +kernel)
set_option maxRecDepth 20000 in
theorem kw_222 : Cond.instanceMethod yX10_isLaid ∈ tG := inG 1205 (by decide +kernel) (by decide +kernel)
set_option maxRecDepth 20000 in
theorem kw_223 : Cond.selects RX10 yX10_isLaid yX10_isLaid ∈ tG := inG 39 (by decide +kernel) (by decide +kernel)
set_option maxRecDepth 20000 in
theorem kw_224 : Cond.code yX10_isLaid cX10_isLaid 4 (some .boolean) ∈ tG := inG 1206 (by decide +kernel) (by decide +kernel)
set_option maxRecDepth 20000 in
theorem kw_225 : Cond.methodLink RX10 140 yX10_lays ∈ tG := inG 1199 (by decide +kernel) (by decide +kernel)
set_option maxRecDepth 20000 in
theorem kw_226 : Cond.instanceMethod yX10_lays ∈ tG := inG 1201 (by decide +kernel) (by decide +kernel)
set_option maxRecDepth 20000 in
theorem kw_227 : Cond.selects RX10 yX10_lays yX10_lays ∈ tG := inG 38 (by decide +kernel) (by decide +kernel)
set_option maxRecDepth 20000 in
theorem kw_228 : Cond.code yX10_lays cX10_lays 5 (some .int) ∈ tG := inG 1202 (by decide +kernel) (by decide +kernel)
set_option maxRecDepth 20000 in
theorem kw_229 : Cond.constantLong RX10 144 (300) ∈ tG := inG 1219 (by decide +kernel) (by decide +kernel)
set_option maxRecDepth 20000 in
theorem kw_230 : Cond.methodLink RX10 146 yX10_isFact ∈ tG := inG 1215 (by decide +kernel) (by decide +kernel)
set_option maxRecDepth 20000 in
theorem kw_231 : Cond.instanceMethod yX10_isFact ∈ tG := inG 1217 (by decide +kernel) (by decide +kernel)
set_option maxRecDepth 20000 in
theorem kw_232 : Cond.selects RX10 yX10_isFact yX10_isFact ∈ tG := inG 40 (by decide +kernel) (by decide +kernel)
set_option maxRecDepth 20000 in
theorem kw_233 : Cond.code yX10_isFact cX10_isFact 5 (some .boolean) ∈ tG := inG 1218 (by decide +kernel) (by decide +kernel)
set_option maxRecDepth 20000 in
theorem kw_234 : Cond.fieldLink RX10 150 "StoneRiverModel" "moved" "Z" ∈ tG := inG 1000 (by decide +kernel) (by decide +kernel)
set_option maxRecDepth 20000 in
theorem kw_235 : Cond.methodLink RX10 154 yX10_factAt ∈ tG := inG 1236 (by decide +kernel) (by decide +kernel)
set_option maxRecDepth 20000 in
theorem kw_236 : Cond.instanceMethod yX10_factAt ∈ tG := inG 1238 (by decide +kernel) (by decide +kernel)
set_option maxRecDepth 20000 in
theorem kw_237 : Cond.selects RX10 yX10_factAt yX10_factAt ∈ tG := inG 44 (by decide +kernel) (by decide +kernel)
set_option maxRecDepth 20000 in
theorem kw_238 : Cond.code yX10_factAt cX10_factAt 3 (some .int) ∈ tG := inG 1239 (by decide +kernel) (by decide +kernel)
set_option maxRecDepth 20000 in
theorem kw_239 : Cond.methodLink RX10 157 yX10_atLeast ∈ tG := inG 1240 (by decide +kernel) (by decide +kernel)
set_option maxRecDepth 20000 in
theorem kw_240 : Cond.instanceMethod yX10_atLeast ∈ tG := inG 1242 (by decide +kernel) (by decide +kernel)
set_option maxRecDepth 20000 in
theorem kw_241 : Cond.selects RX10 yX10_atLeast yX10_atLeast ∈ tG := inG 45 (by decide +kernel) (by decide +kernel)
set_option maxRecDepth 20000 in
theorem kw_242 : Cond.code yX10_atLeast cX10_atLeast 3 none ∈ tG := inG 1243 (by decide +kernel) (by decide +kernel)
set_option maxRecDepth 20000 in
theorem kw_243 : Cond.methodLink RX10 161 yX10_atMost ∈ tG := inG 1244 (by decide +kernel) (by decide +kernel)
set_option maxRecDepth 20000 in
theorem kw_244 : Cond.instanceMethod yX10_atMost ∈ tG := inG 1246 (by decide +kernel) (by decide +kernel)
set_option maxRecDepth 20000 in
theorem kw_245 : Cond.selects RX10 yX10_atMost yX10_atMost ∈ tG := inG 46 (by decide +kernel) (by decide +kernel)
set_option maxRecDepth 20000 in
theorem kw_246 : Cond.code yX10_atMost cX10_atMost 3 none ∈ tG := inG 1247 (by decide +kernel) (by decide +kernel)
set_option maxRecDepth 20000 in
theorem kw_247 : Cond.fieldLink RX10 164 "StoneRiverModel" "known" "I" ∈ tG := inG 998 (by decide +kernel) (by decide +kernel)
set_option maxRecDepth 20000 in
theorem kw_248 : Cond.fieldLink RX10 168 "StoneRiverModel" "knownAge" "I" ∈ tG := inG 999 (by decide +kernel) (by decide +kernel)
set_option maxRecDepth 20000 in
theorem kw_249 : Cond.methodLink RX10 171 yX10_bears ∈ tG := inG 1232 (by decide +kernel) (by decide +kernel)
set_option maxRecDepth 20000 in
theorem kw_250 : Cond.instanceMethod yX10_bears ∈ tG := inG 1234 (by decide +kernel) (by decide +kernel)
set_option maxRecDepth 20000 in
theorem kw_251 : Cond.selects RX10 yX10_bears yX10_bears ∈ tG := inG 43 (by decide +kernel) (by decide +kernel)
set_option maxRecDepth 20000 in
theorem kw_252 : Cond.code yX10_bears cX10_bears 4 none ∈ tG := inG 1235 (by decide +kernel) (by decide +kernel)
set_option maxRecDepth 20000 in
theorem kw_253 : Cond.fieldLink RX10 174 "StoneRiverModel" "noOlder" "I" ∈ tG := inG 996 (by decide +kernel) (by decide +kernel)
set_option maxRecDepth 20000 in
theorem kw_254 : Cond.fieldLink RX10 177 "StoneRiverModel" "thanThis" "I" ∈ tG := inG 997 (by decide +kernel) (by decide +kernel)
set_option maxRecDepth 20000 in
theorem kw_255 : Cond.methodLink RX10 180 yX10_bounds ∈ tG := inG 1228 (by decide +kernel) (by decide +kernel)
set_option maxRecDepth 20000 in
theorem kw_256 : Cond.instanceMethod yX10_bounds ∈ tG := inG 1230 (by decide +kernel) (by decide +kernel)
set_option maxRecDepth 20000 in
theorem kw_257 : Cond.selects RX10 yX10_bounds yX10_bounds ∈ tG := inG 42 (by decide +kernel) (by decide +kernel)
set_option maxRecDepth 20000 in
theorem kw_258 : Cond.code yX10_bounds cX10_bounds 5 (some .boolean) ∈ tG := inG 1231 (by decide +kernel) (by decide +kernel)
set_option maxRecDepth 20000 in
theorem kw_259 : Cond.methodLink RX10 183 yX10_plain ∈ tG := inG 1224 (by decide +kernel) (by decide +kernel)
set_option maxRecDepth 20000 in
theorem kw_260 : Cond.instanceMethod yX10_plain ∈ tG := inG 1226 (by decide +kernel) (by decide +kernel)
set_option maxRecDepth 20000 in
theorem kw_261 : Cond.selects RX10 yX10_plain yX10_plain ∈ tG := inG 41 (by decide +kernel) (by decide +kernel)
set_option maxRecDepth 20000 in
theorem kw_262 : Cond.code yX10_plain cX10_plain 2 (some .boolean) ∈ tG := inG 1227 (by decide +kernel) (by decide +kernel)
set_option maxRecDepth 20000 in
theorem kw_263 : Cond.methodLink RX10 186 yX10_all ∈ tG := inG 1256 (by decide +kernel) (by decide +kernel)
set_option maxRecDepth 20000 in
theorem kw_264 : Cond.instanceMethod yX10_all ∈ tG := inG 1258 (by decide +kernel) (by decide +kernel)
set_option maxRecDepth 20000 in
theorem kw_265 : Cond.selects RX10 yX10_all yX10_all ∈ tG := inG 48 (by decide +kernel) (by decide +kernel)
set_option maxRecDepth 20000 in
theorem kw_266 : Cond.code yX10_all cX10_all 1 (some .int) ∈ tG := inG 1259 (by decide +kernel) (by decide +kernel)
set_option maxRecDepth 20000 in
theorem kw_267 : Cond.methodLink RX10 189 yX10_sizeOf ∈ tG := inG 1260 (by decide +kernel) (by decide +kernel)
set_option maxRecDepth 20000 in
theorem kw_268 : Cond.static yX10_sizeOf ∈ tG := inG 1261 (by decide +kernel) (by decide +kernel)
set_option maxRecDepth 20000 in
theorem kw_269 : Cond.code yX10_sizeOf cX10_sizeOf 3 (some .int) ∈ tG := inG 1262 (by decide +kernel) (by decide +kernel)
set_option maxRecDepth 20000 in
theorem kw_270 : Cond.methodLink RX10 192 yX10_findFewest ∈ tG := inG 1252 (by decide +kernel) (by decide +kernel)
set_option maxRecDepth 20000 in
theorem kw_271 : Cond.instanceMethod yX10_findFewest ∈ tG := inG 1254 (by decide +kernel) (by decide +kernel)
set_option maxRecDepth 20000 in
theorem kw_272 : Cond.selects RX10 yX10_findFewest yX10_findFewest ∈ tG := inG 47 (by decide +kernel) (by decide +kernel)
set_option maxRecDepth 20000 in
theorem kw_273 : Cond.code yX10_findFewest cX10_findFewest 3 (some .int) ∈ tG := inG 1255 (by decide +kernel) (by decide +kernel)
set_option maxRecDepth 20000 in
theorem kw_274 : Cond.methodLink RX10 195 yX10_ofScholar ∈ tG := inG 1275 (by decide +kernel) (by decide +kernel)
set_option maxRecDepth 20000 in
theorem kw_275 : Cond.instanceMethod yX10_ofScholar ∈ tG := inG 1277 (by decide +kernel) (by decide +kernel)
set_option maxRecDepth 20000 in
theorem kw_276 : Cond.selects RX10 yX10_ofScholar yX10_ofScholar ∈ tG := inG 49 (by decide +kernel) (by decide +kernel)
set_option maxRecDepth 20000 in
theorem kw_277 : Cond.code yX10_ofScholar cX10_ofScholar 4 (some .int) ∈ tG := inG 1278 (by decide +kernel) (by decide +kernel)
set_option maxRecDepth 20000 in
theorem kw_278 : Cond.constantLong RX10 198 (39) ∈ tG := inG 1283 (by decide +kernel) (by decide +kernel)
set_option maxRecDepth 20000 in
theorem kw_279 : Cond.methodLink RX10 200 yX10_places ∈ tG := inG 1284 (by decide +kernel) (by decide +kernel)
set_option maxRecDepth 20000 in
theorem kw_280 : Cond.instanceMethod yX10_places ∈ tG := inG 1286 (by decide +kernel) (by decide +kernel)
set_option maxRecDepth 20000 in
theorem kw_281 : Cond.selects RX10 yX10_places yX10_places ∈ tG := inG 50 (by decide +kernel) (by decide +kernel)
set_option maxRecDepth 20000 in
theorem kw_282 : Cond.code yX10_places cX10_places 3 (some .int) ∈ tG := inG 1287 (by decide +kernel) (by decide +kernel)
set_option maxRecDepth 20000 in
theorem kw_283 : Cond.fieldLink RX10 203 "StoneRiverModel" "met" "I" ∈ tG := inG 1004 (by decide +kernel) (by decide +kernel)
set_option maxRecDepth 20000 in
theorem kw_284 : Cond.methodLink RX10 206 yX10_wayAt ∈ tG := inG 1300 (by decide +kernel) (by decide +kernel)
set_option maxRecDepth 20000 in
theorem kw_285 : Cond.instanceMethod yX10_wayAt ∈ tG := inG 1302 (by decide +kernel) (by decide +kernel)
set_option maxRecDepth 20000 in
theorem kw_286 : Cond.selects RX10 yX10_wayAt yX10_wayAt ∈ tG := inG 53 (by decide +kernel) (by decide +kernel)
set_option maxRecDepth 20000 in
theorem kw_287 : Cond.code yX10_wayAt cX10_wayAt 4 (some .int) ∈ tG := inG 1303 (by decide +kernel) (by decide +kernel)
set_option maxRecDepth 20000 in
theorem kw_288 : Cond.methodLink RX10 210 yX10_bearsYear ∈ tG := inG 1296 (by decide +kernel) (by decide +kernel)
set_option maxRecDepth 20000 in
theorem kw_289 : Cond.instanceMethod yX10_bearsYear ∈ tG := inG 1298 (by decide +kernel) (by decide +kernel)
set_option maxRecDepth 20000 in
theorem kw_290 : Cond.selects RX10 yX10_bearsYear yX10_bearsYear ∈ tG := inG 52 (by decide +kernel) (by decide +kernel)
set_option maxRecDepth 20000 in
theorem kw_291 : Cond.code yX10_bearsYear cX10_bearsYear 9 (some .boolean) ∈ tG := inG 1299 (by decide +kernel) (by decide +kernel)
set_option maxRecDepth 20000 in
theorem kw_292 : Cond.methodLink RX10 213 yX10_onFrom ∈ tG := inG 1304 (by decide +kernel) (by decide +kernel)
set_option maxRecDepth 20000 in
theorem kw_293 : Cond.instanceMethod yX10_onFrom ∈ tG := inG 1306 (by decide +kernel) (by decide +kernel)
set_option maxRecDepth 20000 in
theorem kw_294 : Cond.selects RX10 yX10_onFrom yX10_onFrom ∈ tG := inG 54 (by decide +kernel) (by decide +kernel)
set_option maxRecDepth 20000 in
theorem kw_295 : Cond.code yX10_onFrom cX10_onFrom 9 (some .int) ∈ tG := inG 1307 (by decide +kernel) (by decide +kernel)
set_option maxRecDepth 20000 in
theorem kw_296 : Cond.methodLink RX10 217 yX10_travels ∈ tG := inG 1292 (by decide +kernel) (by decide +kernel)
set_option maxRecDepth 20000 in
theorem kw_297 : Cond.instanceMethod yX10_travels ∈ tG := inG 1294 (by decide +kernel) (by decide +kernel)
set_option maxRecDepth 20000 in
theorem kw_298 : Cond.selects RX10 yX10_travels yX10_travels ∈ tG := inG 51 (by decide +kernel) (by decide +kernel)
set_option maxRecDepth 20000 in
theorem kw_299 : Cond.code yX10_travels cX10_travels 7 (some .int) ∈ tG := inG 1295 (by decide +kernel) (by decide +kernel)
set_option maxRecDepth 20000 in
theorem kw_300 : Cond.constantLong RX10 220 (19) ∈ tG := inG 1312 (by decide +kernel) (by decide +kernel)
set_option maxRecDepth 20000 in
theorem kw_301 : Cond.methodLink RX10 222 yX10_volume ∈ tG := inG 1324 (by decide +kernel) (by decide +kernel)
set_option maxRecDepth 20000 in
theorem kw_302 : Cond.instanceMethod yX10_volume ∈ tG := inG 1326 (by decide +kernel) (by decide +kernel)
set_option maxRecDepth 20000 in
theorem kw_303 : Cond.selects RX10 yX10_volume yX10_volume ∈ tG := inG 56 (by decide +kernel) (by decide +kernel)
set_option maxRecDepth 20000 in
theorem kw_304 : Cond.code yX10_volume cX10_volume 5 (some .int) ∈ tG := inG 1327 (by decide +kernel) (by decide +kernel)
set_option maxRecDepth 20000 in
theorem kw_305 : Cond.fieldLink RX10 225 "StoneRiverModel" "hours" "I" ∈ tG := inG 1006 (by decide +kernel) (by decide +kernel)
set_option maxRecDepth 20000 in
theorem kw_306 : Cond.fieldLink RX10 228 "StoneRiverModel" "greatest" "I" ∈ tG := inG 1007 (by decide +kernel) (by decide +kernel)
set_option maxRecDepth 20000 in
theorem kw_307 : Cond.methodLink RX10 231 yX10_isLake ∈ tG := inG 1317 (by decide +kernel) (by decide +kernel)
set_option maxRecDepth 20000 in
theorem kw_308 : Cond.static yX10_isLake ∈ tG := inG 1318 (by decide +kernel) (by decide +kernel)
set_option maxRecDepth 20000 in
theorem kw_309 : Cond.code yX10_isLake cX10_isLake 2 (some .boolean) ∈ tG := inG 1319 (by decide +kernel) (by decide +kernel)
set_option maxRecDepth 20000 in
theorem kw_310 : Cond.methodLink RX10 234 yX10_drains ∈ tG := inG 1320 (by decide +kernel) (by decide +kernel)
set_option maxRecDepth 20000 in
theorem kw_311 : Cond.instanceMethod yX10_drains ∈ tG := inG 1322 (by decide +kernel) (by decide +kernel)
set_option maxRecDepth 20000 in
theorem kw_312 : Cond.selects RX10 yX10_drains yX10_drains ∈ tG := inG 55 (by decide +kernel) (by decide +kernel)
set_option maxRecDepth 20000 in
theorem kw_313 : Cond.code yX10_drains cX10_drains 8 none ∈ tG := inG 1323 (by decide +kernel) (by decide +kernel)
set_option maxRecDepth 20000 in
theorem kw_314 : Cond.constantLong RX10 237 (60) ∈ tG := inG 1336 (by decide +kernel) (by decide +kernel)
set_option maxRecDepth 20000 in
theorem kw_315 : Cond.methodLink RX10 239 yX10_isWarm ∈ tG := inG 1341 (by decide +kernel) (by decide +kernel)
set_option maxRecDepth 20000 in
theorem kw_316 : Cond.static yX10_isWarm ∈ tG := inG 1342 (by decide +kernel) (by decide +kernel)
set_option maxRecDepth 20000 in
theorem kw_317 : Cond.code yX10_isWarm cX10_isWarm 1 (some .boolean) ∈ tG := inG 1343 (by decide +kernel) (by decide +kernel)
set_option maxRecDepth 20000 in
theorem kw_318 : Cond.methodLink RX10 242 yX10_stands ∈ tG := inG 1344 (by decide +kernel) (by decide +kernel)
set_option maxRecDepth 20000 in
theorem kw_319 : Cond.instanceMethod yX10_stands ∈ tG := inG 1346 (by decide +kernel) (by decide +kernel)
set_option maxRecDepth 20000 in
theorem kw_320 : Cond.selects RX10 yX10_stands yX10_stands ∈ tG := inG 57 (by decide +kernel) (by decide +kernel)
set_option maxRecDepth 20000 in
theorem kw_321 : Cond.code yX10_stands cX10_stands 7 (some .int) ∈ tG := inG 1347 (by decide +kernel) (by decide +kernel)
set_option maxRecDepth 20000 in
theorem kw_322 : Cond.constantLong RX10 245 (8) ∈ tG := inG 1356 (by decide +kernel) (by decide +kernel)
set_option maxRecDepth 20000 in
theorem kw_323 : Cond.fieldLink RX10 247 "StoneRiverModel" "typed" "I" ∈ tG := inG 1009 (by decide +kernel) (by decide +kernel)
set_option maxRecDepth 20000 in
theorem kw_324 : Cond.constantLong RX10 250 (255) ∈ tG := inG 1357 (by decide +kernel) (by decide +kernel)
set_option maxRecDepth 20000 in
theorem kw_325 : Cond.fieldLink RX10 252 "StoneRiverModel" "at" "I" ∈ tG := inG 1010 (by decide +kernel) (by decide +kernel)
set_option maxRecDepth 20000 in
theorem kw_326 : Cond.constantLong RX10 255 (3548358) ∈ tG := inG 1383 (by decide +kernel) (by decide +kernel)
set_option maxRecDepth 20000 in
theorem kw_327 : Cond.constantLong RX10 257 (2673217714) ∈ tG := inG 1384 (by decide +kernel) (by decide +kernel)
set_option maxRecDepth 20000 in
theorem kw_328 : Cond.constantLong RX10 259 (20520685672) ∈ tG := inG 1385 (by decide +kernel) (by decide +kernel)
set_option maxRecDepth 20000 in
theorem kw_329 : Cond.constantLong RX10 261 (19173605) ∈ tG := inG 1386 (by decide +kernel) (by decide +kernel)
set_option maxRecDepth 20000 in
theorem kw_330 : Cond.constantLong RX10 263 (120467) ∈ tG := inG 1387 (by decide +kernel) (by decide +kernel)
set_option maxRecDepth 20000 in
theorem kw_331 : Cond.constantLong RX10 265 (769508) ∈ tG := inG 1388 (by decide +kernel) (by decide +kernel)
set_option maxRecDepth 20000 in
theorem kw_332 : Cond.constantLong RX10 267 (412197038) ∈ tG := inG 1389 (by decide +kernel) (by decide +kernel)
set_option maxRecDepth 20000 in
theorem kw_333 : Cond.constantLong RX10 269 (206276) ∈ tG := inG 1390 (by decide +kernel) (by decide +kernel)
set_option maxRecDepth 20000 in
theorem kw_334 : Cond.constantLong RX10 271 (13360) ∈ tG := inG 1391 (by decide +kernel) (by decide +kernel)
set_option maxRecDepth 20000 in
theorem kw_335 : Cond.constantLong RX10 273 (52) ∈ tG := inG 1392 (by decide +kernel) (by decide +kernel)
set_option maxRecDepth 20000 in
theorem kw_336 : Cond.constantLong RX10 275 (215205) ∈ tG := inG 1393 (by decide +kernel) (by decide +kernel)
set_option maxRecDepth 20000 in
theorem kw_337 : Cond.constantLong RX10 277 (9317) ∈ tG := inG 1394 (by decide +kernel) (by decide +kernel)
set_option maxRecDepth 20000 in
theorem kw_338 : Cond.methodLink RX10 279 yX10_isAt ∈ tG := inG 1374 (by decide +kernel) (by decide +kernel)
set_option maxRecDepth 20000 in
theorem kw_339 : Cond.instanceMethod yX10_isAt ∈ tG := inG 1376 (by decide +kernel) (by decide +kernel)
set_option maxRecDepth 20000 in
theorem kw_340 : Cond.selects RX10 yX10_isAt yX10_isAt ∈ tG := inG 60 (by decide +kernel) (by decide +kernel)
set_option maxRecDepth 20000 in
theorem kw_341 : Cond.code yX10_isAt cX10_isAt 3 (some .boolean) ∈ tG := inG 1377 (by decide +kernel) (by decide +kernel)
set_option maxRecDepth 20000 in
theorem kw_342 : Cond.fieldLink RX10 282 "StoneRiverModel" "start" "I" ∈ tG := inG 1011 (by decide +kernel) (by decide +kernel)
set_option maxRecDepth 20000 in
theorem kw_343 : Cond.fieldLink RX10 285 "StoneRiverModel" "token" "I" ∈ tG := inG 1012 (by decide +kernel) (by decide +kernel)
set_option maxRecDepth 20000 in
theorem kw_344 : Cond.fieldLink RX10 296 "StoneRiverModel" "value" "I" ∈ tG := inG 1013 (by decide +kernel) (by decide +kernel)
set_option maxRecDepth 20000 in
theorem kw_345 : Cond.constantLong RX10 288 (32) ∈ tG := inG 1378 (by decide +kernel) (by decide +kernel)
set_option maxRecDepth 20000 in
theorem kw_346 : Cond.constantLong RX10 290 (97) ∈ tG := inG 1379 (by decide +kernel) (by decide +kernel)
set_option maxRecDepth 20000 in
theorem kw_347 : Cond.methodLink RX10 292 yX10_wordOf ∈ tG := inG 1380 (by decide +kernel) (by decide +kernel)
set_option maxRecDepth 20000 in
theorem kw_348 : Cond.static yX10_wordOf ∈ tG := inG 1381 (by decide +kernel) (by decide +kernel)
set_option maxRecDepth 20000 in
theorem kw_349 : Cond.code yX10_wordOf cX10_wordOf 4 (some .int) ∈ tG := inG 1382 (by decide +kernel) (by decide +kernel)
set_option maxRecDepth 20000 in
theorem kw_350 : Cond.fieldLink RX10 299 "StoneRiverModel" "items" "I" ∈ tG := inG 1016 (by decide +kernel) (by decide +kernel)
set_option maxRecDepth 20000 in
theorem kw_351 : Cond.methodLink RX10 302 yX10_scans ∈ tG := inG 1370 (by decide +kernel) (by decide +kernel)
set_option maxRecDepth 20000 in
theorem kw_352 : Cond.instanceMethod yX10_scans ∈ tG := inG 1372 (by decide +kernel) (by decide +kernel)
set_option maxRecDepth 20000 in
theorem kw_353 : Cond.selects RX10 yX10_scans yX10_scans ∈ tG := inG 59 (by decide +kernel) (by decide +kernel)
set_option maxRecDepth 20000 in
theorem kw_354 : Cond.code yX10_scans cX10_scans 3 none ∈ tG := inG 1373 (by decide +kernel) (by decide +kernel)
set_option maxRecDepth 20000 in
theorem kw_355 : Cond.methodLink RX10 305 yX10_numbers ∈ tG := inG 1395 (by decide +kernel) (by decide +kernel)
set_option maxRecDepth 20000 in
theorem kw_356 : Cond.static yX10_numbers ∈ tG := inG 1396 (by decide +kernel) (by decide +kernel)
set_option maxRecDepth 20000 in
theorem kw_357 : Cond.code yX10_numbers cX10_numbers 1 (some .int) ∈ tG := inG 1397 (by decide +kernel) (by decide +kernel)
set_option maxRecDepth 20000 in
theorem kw_358 : Cond.methodLink RX10 308 yX10_reads ∈ tG := inG 1366 (by decide +kernel) (by decide +kernel)
set_option maxRecDepth 20000 in
theorem kw_359 : Cond.instanceMethod yX10_reads ∈ tG := inG 1368 (by decide +kernel) (by decide +kernel)
set_option maxRecDepth 20000 in
theorem kw_360 : Cond.selects RX10 yX10_reads yX10_reads ∈ tG := inG 58 (by decide +kernel) (by decide +kernel)
set_option maxRecDepth 20000 in
theorem kw_361 : Cond.code yX10_reads cX10_reads 3 (some .boolean) ∈ tG := inG 1369 (by decide +kernel) (by decide +kernel)
set_option maxRecDepth 20000 in
theorem kw_362 : Cond.methodLink RX10 312 yX10_cliff ∈ tG := inG 1406 (by decide +kernel) (by decide +kernel)
set_option maxRecDepth 20000 in
theorem kw_363 : Cond.instanceMethod yX10_cliff ∈ tG := inG 1126 (by decide +kernel) (by decide +kernel)
set_option maxRecDepth 20000 in
theorem kw_364 : Cond.selects RX10 yX10_cliff yX10_cliff ∈ tG := inG 1127 (by decide +kernel) (by decide +kernel)
set_option maxRecDepth 20000 in
theorem kw_365 : Cond.code yX10_cliff cX10_cliff 3 (some .int) ∈ tG := inG 1128 (by decide +kernel) (by decide +kernel)
set_option maxRecDepth 20000 in
theorem kw_366 : Cond.methodLink RX10 315 yX10_boulder ∈ tG := inG 1407 (by decide +kernel) (by decide +kernel)
set_option maxRecDepth 20000 in
theorem kw_367 : Cond.instanceMethod yX10_boulder ∈ tG := inG 1135 (by decide +kernel) (by decide +kernel)
set_option maxRecDepth 20000 in
theorem kw_368 : Cond.selects RX10 yX10_boulder yX10_boulder ∈ tG := inG 1136 (by decide +kernel) (by decide +kernel)
set_option maxRecDepth 20000 in
theorem kw_369 : Cond.code yX10_boulder cX10_boulder 3 (some .int) ∈ tG := inG 1137 (by decide +kernel) (by decide +kernel)
set_option maxRecDepth 20000 in
theorem kw_370 : Cond.methodLink RX10 318 yX10_scratch ∈ tG := inG 1408 (by decide +kernel) (by decide +kernel)
set_option maxRecDepth 20000 in
theorem kw_371 : Cond.instanceMethod yX10_scratch ∈ tG := inG 1176 (by decide +kernel) (by decide +kernel)
set_option maxRecDepth 20000 in
theorem kw_372 : Cond.selects RX10 yX10_scratch yX10_scratch ∈ tG := inG 1177 (by decide +kernel) (by decide +kernel)
set_option maxRecDepth 20000 in
theorem kw_373 : Cond.code yX10_scratch cX10_scratch 3 (some .int) ∈ tG := inG 1178 (by decide +kernel) (by decide +kernel)
set_option maxRecDepth 20000 in
theorem kw_374 : Cond.methodLink RX10 321 yX10_ridge ∈ tG := inG 1409 (by decide +kernel) (by decide +kernel)
set_option maxRecDepth 20000 in
theorem kw_375 : Cond.instanceMethod yX10_ridge ∈ tG := inG 1208 (by decide +kernel) (by decide +kernel)
set_option maxRecDepth 20000 in
theorem kw_376 : Cond.selects RX10 yX10_ridge yX10_ridge ∈ tG := inG 1209 (by decide +kernel) (by decide +kernel)
set_option maxRecDepth 20000 in
theorem kw_377 : Cond.code yX10_ridge cX10_ridge 1 (some .int) ∈ tG := inG 1210 (by decide +kernel) (by decide +kernel)
set_option maxRecDepth 20000 in
theorem kw_378 : Cond.methodLink RX10 327 yX10_fact ∈ tG := inG 1411 (by decide +kernel) (by decide +kernel)
set_option maxRecDepth 20000 in
theorem kw_379 : Cond.instanceMethod yX10_fact ∈ tG := inG 1212 (by decide +kernel) (by decide +kernel)
set_option maxRecDepth 20000 in
theorem kw_380 : Cond.selects RX10 yX10_fact yX10_fact ∈ tG := inG 1213 (by decide +kernel) (by decide +kernel)
set_option maxRecDepth 20000 in
theorem kw_381 : Cond.code yX10_fact cX10_fact 7 (some .int) ∈ tG := inG 1214 (by decide +kernel) (by decide +kernel)
set_option maxRecDepth 20000 in
theorem kw_382 : Cond.methodLink RX10 324 yX10_sign ∈ tG := inG 1410 (by decide +kernel) (by decide +kernel)
set_option maxRecDepth 20000 in
theorem kw_383 : Cond.instanceMethod yX10_sign ∈ tG := inG 1280 (by decide +kernel) (by decide +kernel)
set_option maxRecDepth 20000 in
theorem kw_384 : Cond.selects RX10 yX10_sign yX10_sign ∈ tG := inG 1281 (by decide +kernel) (by decide +kernel)
set_option maxRecDepth 20000 in
theorem kw_385 : Cond.code yX10_sign cX10_sign 6 (some .int) ∈ tG := inG 1282 (by decide +kernel) (by decide +kernel)
set_option maxRecDepth 20000 in
theorem kw_386 : Cond.methodLink RX10 330 yX10_tellsItem ∈ tG := inG 1402 (by decide +kernel) (by decide +kernel)
set_option maxRecDepth 20000 in
theorem kw_387 : Cond.instanceMethod yX10_tellsItem ∈ tG := inG 1404 (by decide +kernel) (by decide +kernel)
set_option maxRecDepth 20000 in
theorem kw_388 : Cond.selects RX10 yX10_tellsItem yX10_tellsItem ∈ tG := inG 61 (by decide +kernel) (by decide +kernel)
set_option maxRecDepth 20000 in
theorem kw_389 : Cond.code yX10_tellsItem cX10_tellsItem 6 (some .int) ∈ tG := inG 1405 (by decide +kernel) (by decide +kernel)
set_option maxRecDepth 20000 in
theorem kw_390 : Cond.constantLong RX10 333 (6) ∈ tG := inG 1424 (by decide +kernel) (by decide +kernel)
set_option maxRecDepth 20000 in
theorem kw_391 : Cond.methodLink RX10 335 yX10_countOf ∈ tG := inG 1425 (by decide +kernel) (by decide +kernel)
set_option maxRecDepth 20000 in
theorem kw_392 : Cond.instanceMethod yX10_countOf ∈ tG := inG 1427 (by decide +kernel) (by decide +kernel)
set_option maxRecDepth 20000 in
theorem kw_393 : Cond.selects RX10 yX10_countOf yX10_countOf ∈ tG := inG 62 (by decide +kernel) (by decide +kernel)
set_option maxRecDepth 20000 in
theorem kw_394 : Cond.code yX10_countOf cX10_countOf 2 (some .int) ∈ tG := inG 1428 (by decide +kernel) (by decide +kernel)
set_option maxRecDepth 20000 in
theorem kw_395 : Cond.constantLong RX10 338 (31) ∈ tG := inG 1434 (by decide +kernel) (by decide +kernel)
set_option maxRecDepth 20000 in
theorem kw_396 : Cond.constantLong RX10 340 (521) ∈ tG := inG 1433 (by decide +kernel) (by decide +kernel)
set_option maxRecDepth 20000 in
theorem kw_397 : Cond.methodLink RX10 342 yX10_mixed ∈ tG := inG 1435 (by decide +kernel) (by decide +kernel)
set_option maxRecDepth 20000 in
theorem kw_398 : Cond.instanceMethod yX10_mixed ∈ tG := inG 1437 (by decide +kernel) (by decide +kernel)
set_option maxRecDepth 20000 in
theorem kw_399 : Cond.selects RX10 yX10_mixed yX10_mixed ∈ tG := inG 63 (by decide +kernel) (by decide +kernel)
set_option maxRecDepth 20000 in
theorem kw_400 : Cond.code yX10_mixed cX10_mixed 8 (some .long) ∈ tG := inG 1438 (by decide +kernel) (by decide +kernel)
set_option maxRecDepth 20000 in
theorem kw_401 : Cond.fieldLink RX4 28 "StoneRiver$Rows" "size" "I" ∈ tG := inG 112 (by decide +kernel) (by decide +kernel)
set_option maxRecDepth 20000 in
theorem kw_402 : Cond.fieldLink RX0 48 "StoneRiver$Found" "facts" "LStoneRiver$Rows;" ∈ tG := inG 142 (by decide +kernel) (by decide +kernel)
set_option maxRecDepth 20000 in
theorem kw_403 : Cond.methodLink RX0 53 yX4_size ∈ tG := inG 563 (by decide +kernel) (by decide +kernel)
set_option maxRecDepth 20000 in
theorem kw_404 : Cond.instanceMethod yX4_size ∈ tG := inG 447 (by decide +kernel) (by decide +kernel)
set_option maxRecDepth 20000 in
theorem kw_405 : Cond.selects RX4 yX4_size yX4_size ∈ tG := inG 448 (by decide +kernel) (by decide +kernel)
set_option maxRecDepth 20000 in
theorem kw_406 : Cond.code yX4_size cX4_size 1 (some .int) ∈ tG := inG 449 (by decide +kernel) (by decide +kernel)
set_option maxRecDepth 20000 in
theorem kw_407 : Cond.methodLink RX4 31 yX4_has ∈ tG := inG 431 (by decide +kernel) (by decide +kernel)
set_option maxRecDepth 20000 in
theorem kw_408 : Cond.instanceMethod yX4_has ∈ tG := inG 420 (by decide +kernel) (by decide +kernel)
set_option maxRecDepth 20000 in
theorem kw_409 : Cond.selects RX4 yX4_has yX4_has ∈ tG := inG 421 (by decide +kernel) (by decide +kernel)
set_option maxRecDepth 20000 in
theorem kw_410 : Cond.code yX4_has cX4_has 2 (some .boolean) ∈ tG := inG 422 (by decide +kernel) (by decide +kernel)
set_option maxRecDepth 20000 in
theorem kw_411 : Cond.methodLink RX0 136 Lib.Math.min.name ∈ tG := inG 572 (by decide +kernel) (by decide +kernel)
set_option maxRecDepth 20000 in
theorem kw_412 : Cond.fieldLink RX0 142 "StoneRiver$Ages" "taken" "I" ∈ tG := inG 209 (by decide +kernel) (by decide +kernel)
set_option maxRecDepth 20000 in
theorem kw_413 : Cond.methodLink RX0 139 yX4_cell ∈ tG := inG 573 (by decide +kernel) (by decide +kernel)
set_option maxRecDepth 20000 in
theorem kw_414 : Cond.instanceMethod yX4_cell ∈ tG := inG 428 (by decide +kernel) (by decide +kernel)
set_option maxRecDepth 20000 in
theorem kw_415 : Cond.selects RX4 yX4_cell yX4_cell ∈ tG := inG 429 (by decide +kernel) (by decide +kernel)
set_option maxRecDepth 20000 in
theorem kw_416 : Cond.code yX4_cell cX4_cell 3 (some .int) ∈ tG := inG 430 (by decide +kernel) (by decide +kernel)
set_option maxRecDepth 20000 in
theorem kw_417 : Cond.fieldLink RX0 79 "StoneRiver$Found" "numbers" "[I" ∈ tG := inG 139 (by decide +kernel) (by decide +kernel)
set_option maxRecDepth 20000 in
theorem kw_418 : Cond.methodLink RX0 153 yJ7_fill_53178 ∈ tG := inG 578 (by decide +kernel) (by decide +kernel)
set_option maxRecDepth 20000 in
theorem kw_419 : Cond.static yJ7_fill_53178 ∈ tG := inG 579 (by decide +kernel) (by decide +kernel)
set_option maxRecDepth 20000 in
theorem kw_420 : Cond.initialized RJ7 ∈ tG := inG 78 (by decide +kernel) (by decide +kernel)
set_option maxRecDepth 20000 in
theorem kw_421 : Cond.code yJ7_fill_53178 cJ7_fill_53178 4 none ∈ tG := inG 580 (by decide +kernel) (by decide +kernel)
set_option maxRecDepth 20000 in
theorem kw_422 : Cond.methodLink RX0 118 Lib.Math.max.name ∈ tG := inG 581 (by decide +kernel) (by decide +kernel)
set_option maxRecDepth 20000 in
theorem kw_423 : Cond.methodLink RX0 159 yX0_moveByCuts ∈ tG := inG 582 (by decide +kernel) (by decide +kernel)
set_option maxRecDepth 20000 in
theorem kw_424 : Cond.instanceMethod yX0_moveByCuts ∈ tG := inG 584 (by decide +kernel) (by decide +kernel)
set_option maxRecDepth 20000 in
theorem kw_425 : Cond.selects RX0 yX0_moveByCuts yX0_moveByCuts ∈ tG := inG 8 (by decide +kernel) (by decide +kernel)
set_option maxRecDepth 20000 in
theorem kw_426 : Cond.code yX0_moveByCuts cX0_moveByCuts 6 (some .boolean) ∈ tG := inG 585 (by decide +kernel) (by decide +kernel)
set_option maxRecDepth 20000 in
theorem kw_427 : Cond.methodLink RX0 162 yX0_haveAllAges ∈ tG := inG 586 (by decide +kernel) (by decide +kernel)
set_option maxRecDepth 20000 in
theorem kw_428 : Cond.instanceMethod yX0_haveAllAges ∈ tG := inG 588 (by decide +kernel) (by decide +kernel)
set_option maxRecDepth 20000 in
theorem kw_429 : Cond.selects RX0 yX0_haveAllAges yX0_haveAllAges ∈ tG := inG 9 (by decide +kernel) (by decide +kernel)
set_option maxRecDepth 20000 in
theorem kw_430 : Cond.code yX0_haveAllAges cX0_haveAllAges 2 (some .boolean) ∈ tG := inG 589 (by decide +kernel) (by decide +kernel)
set_option maxRecDepth 20000 in
theorem kw_431 : Cond.methodLink RX0 57 yX0_take ∈ tG := inG 568 (by decide +kernel) (by decide +kernel)
set_option maxRecDepth 20000 in
theorem kw_432 : Cond.instanceMethod yX0_take ∈ tG := inG 570 (by decide +kernel) (by decide +kernel)
set_option maxRecDepth 20000 in
theorem kw_433 : Cond.selects RX0 yX0_take yX0_take ∈ tG := inG 6 (by decide +kernel) (by decide +kernel)
set_option maxRecDepth 20000 in
theorem kw_434 : Cond.code yX0_take cX0_take 5 none ∈ tG := inG 571 (by decide +kernel) (by decide +kernel)
set_option maxRecDepth 20000 in
theorem kw_435 : Cond.methodLink RX0 61 yX0_join ∈ tG := inG 574 (by decide +kernel) (by decide +kernel)
set_option maxRecDepth 20000 in
theorem kw_436 : Cond.instanceMethod yX0_join ∈ tG := inG 576 (by decide +kernel) (by decide +kernel)
set_option maxRecDepth 20000 in
theorem kw_437 : Cond.selects RX0 yX0_join yX0_join ∈ tG := inG 7 (by decide +kernel) (by decide +kernel)
set_option maxRecDepth 20000 in
theorem kw_438 : Cond.code yX0_join cX0_join 4 (some .boolean) ∈ tG := inG 577 (by decide +kernel) (by decide +kernel)
set_option maxRecDepth 20000 in
theorem kw_439 : Cond.methodLink RX4 41 yX4_cell ∈ tG := inG 610 (by decide +kernel) (by decide +kernel)
set_option maxRecDepth 20000 in
theorem kw_440 : Cond.methodLink RX0 148 yJ6_numberOfTrailingZeros_0f7a4 ∈ tG := inG 619 (by decide +kernel) (by decide +kernel)
set_option maxRecDepth 20000 in
theorem kw_441 : Cond.static yJ6_numberOfTrailingZeros_0f7a4 ∈ tG := inG 537 (by decide +kernel) (by decide +kernel)
set_option maxRecDepth 20000 in
theorem kw_442 : Cond.initialized RJ6 ∈ tG := inG 77 (by decide +kernel) (by decide +kernel)
set_option maxRecDepth 20000 in
theorem kw_443 : Cond.code yJ6_numberOfTrailingZeros_0f7a4 cJ6_numberOfTrailingZeros_0f7a4 2 (some .int) ∈ tG := inG 538 (by decide +kernel) (by decide +kernel)
set_option maxRecDepth 20000 in
theorem kw_444 : Cond.methodLink RX0 145 yX0_nextOfAsManyBits ∈ tG := inG 616 (by decide +kernel) (by decide +kernel)
set_option maxRecDepth 20000 in
theorem kw_445 : Cond.static yX0_nextOfAsManyBits ∈ tG := inG 617 (by decide +kernel) (by decide +kernel)
set_option maxRecDepth 20000 in
theorem kw_446 : Cond.code yX0_nextOfAsManyBits cX0_nextOfAsManyBits 3 (some .int) ∈ tG := inG 618 (by decide +kernel) (by decide +kernel)
set_option maxRecDepth 20000 in
theorem kw_447 : Cond.methodLink RX4 35 arraycopyName ∈ tG := inG 624 (by decide +kernel) (by decide +kernel)
set_option maxRecDepth 20000 in
theorem kw_448 : Cond.native arraycopyName ∈ tG := inG 445 (by decide +kernel) (by decide +kernel)
set_option maxRecDepth 20000 in
theorem kw_449 : Cond.static arraycopyName ∈ tG := inG 444 (by decide +kernel) (by decide +kernel)
set_option maxRecDepth 20000 in
theorem kw_450 : Cond.initialized "java/lang/System" ∈ tG := inG 75 (by decide +kernel) (by decide +kernel)
set_option maxRecDepth 20000 in
theorem kw_451 : Cond.fieldLink RX0 82 "StoneRiver$Ages" "soughtSlow" "I" ∈ tG := inG 212 (by decide +kernel) (by decide +kernel)
set_option maxRecDepth 20000 in
theorem kw_452 : Cond.methodLink RX0 69 yX0_bitsOfAll ∈ tG := inG 611 (by decide +kernel) (by decide +kernel)
set_option maxRecDepth 20000 in
theorem kw_453 : Cond.static yX0_bitsOfAll ∈ tG := inG 561 (by decide +kernel) (by decide +kernel)
set_option maxRecDepth 20000 in
theorem kw_454 : Cond.code yX0_bitsOfAll cX0_bitsOfAll 1 (some .int) ∈ tG := inG 562 (by decide +kernel) (by decide +kernel)
set_option maxRecDepth 20000 in
theorem kw_455 : Cond.methodLink RX0 93 yX0_seekLeftOut ∈ tG := inG 612 (by decide +kernel) (by decide +kernel)
set_option maxRecDepth 20000 in
theorem kw_456 : Cond.instanceMethod yX0_seekLeftOut ∈ tG := inG 614 (by decide +kernel) (by decide +kernel)
set_option maxRecDepth 20000 in
theorem kw_457 : Cond.selects RX0 yX0_seekLeftOut yX0_seekLeftOut ∈ tG := inG 10 (by decide +kernel) (by decide +kernel)
set_option maxRecDepth 20000 in
theorem kw_458 : Cond.code yX0_seekLeftOut cX0_seekLeftOut 5 (some .int) ∈ tG := inG 615 (by decide +kernel) (by decide +kernel)
set_option maxRecDepth 20000 in
theorem kw_459 : Cond.fieldLink RX0 97 "StoneRiver$Ages" "lastLeftOut" "I" ∈ tG := inG 214 (by decide +kernel) (by decide +kernel)
set_option maxRecDepth 20000 in
theorem kw_460 : Cond.methodLink RX0 100 yX4_copyFrom ∈ tG := inG 620 (by decide +kernel) (by decide +kernel)
set_option maxRecDepth 20000 in
theorem kw_461 : Cond.instanceMethod yX4_copyFrom ∈ tG := inG 621 (by decide +kernel) (by decide +kernel)
set_option maxRecDepth 20000 in
theorem kw_462 : Cond.selects RX4 yX4_copyFrom yX4_copyFrom ∈ tG := inG 622 (by decide +kernel) (by decide +kernel)
set_option maxRecDepth 20000 in
theorem kw_463 : Cond.code yX4_copyFrom cX4_copyFrom 2 none ∈ tG := inG 623 (by decide +kernel) (by decide +kernel)
set_option maxRecDepth 20000 in
theorem kw_464 : Cond.fieldLink RX0 86 "StoneRiver$Ages" "soughtFast" "I" ∈ tG := inG 213 (by decide +kernel) (by decide +kernel)
set_option maxRecDepth 20000 in
theorem kw_465 : Cond.methodLink RX0 89 yX4_isLike ∈ tG := inG 606 (by decide +kernel) (by decide +kernel)
set_option maxRecDepth 20000 in
theorem kw_466 : Cond.instanceMethod yX4_isLike ∈ tG := inG 607 (by decide +kernel) (by decide +kernel)
set_option maxRecDepth 20000 in
theorem kw_467 : Cond.selects RX4 yX4_isLike yX4_isLike ∈ tG := inG 608 (by decide +kernel) (by decide +kernel)
set_option maxRecDepth 20000 in
theorem kw_468 : Cond.code yX4_isLike cX4_isLike 5 (some .boolean) ∈ tG := inG 609 (by decide +kernel) (by decide +kernel)
set_option maxRecDepth 20000 in
theorem kw_469 : Cond.methodLink RX0 104 yX0_cuts ∈ tG := inG 639 (by decide +kernel) (by decide +kernel)
set_option maxRecDepth 20000 in
theorem kw_470 : Cond.instanceMethod yX0_cuts ∈ tG := inG 641 (by decide +kernel) (by decide +kernel)
set_option maxRecDepth 20000 in
theorem kw_471 : Cond.selects RX0 yX0_cuts yX0_cuts ∈ tG := inG 12 (by decide +kernel) (by decide +kernel)
set_option maxRecDepth 20000 in
theorem kw_472 : Cond.code yX0_cuts cX0_cuts 4 (some .int) ∈ tG := inG 642 (by decide +kernel) (by decide +kernel)
set_option maxRecDepth 20000 in
theorem kw_473 : Cond.methodLink RX0 65 yX0_leftOut ∈ tG := inG 633 (by decide +kernel) (by decide +kernel)
set_option maxRecDepth 20000 in
theorem kw_474 : Cond.instanceMethod yX0_leftOut ∈ tG := inG 603 (by decide +kernel) (by decide +kernel)
set_option maxRecDepth 20000 in
theorem kw_475 : Cond.selects RX0 yX0_leftOut yX0_leftOut ∈ tG := inG 604 (by decide +kernel) (by decide +kernel)
set_option maxRecDepth 20000 in
theorem kw_476 : Cond.code yX0_leftOut cX0_leftOut 4 (some .int) ∈ tG := inG 605 (by decide +kernel) (by decide +kernel)
set_option maxRecDepth 20000 in
theorem kw_477 : Cond.methodLink RX0 72 yX0_joinBy ∈ tG := inG 634 (by decide +kernel) (by decide +kernel)
set_option maxRecDepth 20000 in
theorem kw_478 : Cond.instanceMethod yX0_joinBy ∈ tG := inG 565 (by decide +kernel) (by decide +kernel)
set_option maxRecDepth 20000 in
theorem kw_479 : Cond.selects RX0 yX0_joinBy yX0_joinBy ∈ tG := inG 566 (by decide +kernel) (by decide +kernel)
set_option maxRecDepth 20000 in
theorem kw_480 : Cond.code yX0_joinBy cX0_joinBy 3 (some .boolean) ∈ tG := inG 567 (by decide +kernel) (by decide +kernel)
set_option maxRecDepth 20000 in
theorem kw_481 : Cond.methodLink RX0 76 yX0_countCuts ∈ tG := inG 635 (by decide +kernel) (by decide +kernel)
set_option maxRecDepth 20000 in
theorem kw_482 : Cond.instanceMethod yX0_countCuts ∈ tG := inG 637 (by decide +kernel) (by decide +kernel)
set_option maxRecDepth 20000 in
theorem kw_483 : Cond.selects RX0 yX0_countCuts yX0_countCuts ∈ tG := inG 11 (by decide +kernel) (by decide +kernel)
set_option maxRecDepth 20000 in
theorem kw_484 : Cond.code yX0_countCuts cX0_countCuts 6 none ∈ tG := inG 638 (by decide +kernel) (by decide +kernel)
set_option maxRecDepth 20000 in
theorem kw_485 : Cond.methodLink RX0 108 yX0_greatestOf ∈ tG := inG 647 (by decide +kernel) (by decide +kernel)
set_option maxRecDepth 20000 in
theorem kw_486 : Cond.instanceMethod yX0_greatestOf ∈ tG := inG 595 (by decide +kernel) (by decide +kernel)
set_option maxRecDepth 20000 in
theorem kw_487 : Cond.selects RX0 yX0_greatestOf yX0_greatestOf ∈ tG := inG 596 (by decide +kernel) (by decide +kernel)
set_option maxRecDepth 20000 in
theorem kw_488 : Cond.code yX0_greatestOf cX0_greatestOf 2 (some .int) ∈ tG := inG 597 (by decide +kernel) (by decide +kernel)
set_option maxRecDepth 20000 in
theorem kw_489 : Cond.methodLink RX0 111 yX0_leastOf ∈ tG := inG 648 (by decide +kernel) (by decide +kernel)
set_option maxRecDepth 20000 in
theorem kw_490 : Cond.instanceMethod yX0_leastOf ∈ tG := inG 591 (by decide +kernel) (by decide +kernel)
set_option maxRecDepth 20000 in
theorem kw_491 : Cond.selects RX0 yX0_leastOf yX0_leastOf ∈ tG := inG 592 (by decide +kernel) (by decide +kernel)
set_option maxRecDepth 20000 in
theorem kw_492 : Cond.code yX0_leastOf cX0_leastOf 2 (some .int) ∈ tG := inG 593 (by decide +kernel) (by decide +kernel)
set_option maxRecDepth 20000 in
theorem kw_493 : Cond.methodLink RX0 114 yX0_spansIfKnown ∈ tG := inG 657 (by decide +kernel) (by decide +kernel)
set_option maxRecDepth 20000 in
theorem kw_494 : Cond.instanceMethod yX0_spansIfKnown ∈ tG := inG 659 (by decide +kernel) (by decide +kernel)
set_option maxRecDepth 20000 in
theorem kw_495 : Cond.selects RX0 yX0_spansIfKnown yX0_spansIfKnown ∈ tG := inG 13 (by decide +kernel) (by decide +kernel)
set_option maxRecDepth 20000 in
theorem kw_496 : Cond.code yX0_spansIfKnown cX0_spansIfKnown 8 (some .int) ∈ tG := inG 660 (by decide +kernel) (by decide +kernel)
set_option maxRecDepth 20000 in
theorem kw_497 : Cond.methodLink RX0 123 yX0_bitsOfScholar ∈ tG := inG 669 (by decide +kernel) (by decide +kernel)
set_option maxRecDepth 20000 in
theorem kw_498 : Cond.static yX0_bitsOfScholar ∈ tG := inG 670 (by decide +kernel) (by decide +kernel)
set_option maxRecDepth 20000 in
theorem kw_499 : Cond.code yX0_bitsOfScholar cX0_bitsOfScholar 4 (some .int) ∈ tG := inG 671 (by decide +kernel) (by decide +kernel)
set_option maxRecDepth 20000 in
theorem kw_500 : Cond.methodLink RX0 127 arraycopyName ∈ tG := inG 672 (by decide +kernel) (by decide +kernel)
set_option maxRecDepth 20000 in
theorem kw_501 : Cond.fieldLink RX0 133 "StoneRiver$Found" "ridges" "I" ∈ tG := inG 154 (by decide +kernel) (by decide +kernel)
set_option maxRecDepth 20000 in
theorem kw_502 : Cond.fieldLink RX1 53 "StoneRiver$Found" "LEAST_NUMBERS" "[I" ∈ tG := inG 494 (by decide +kernel) (by decide +kernel)
set_option maxRecDepth 20000 in
theorem kw_503 : Cond.fieldLink RX1 56 "StoneRiver$Found" "MOST_NUMBERS" "[I" ∈ tG := inG 496 (by decide +kernel) (by decide +kernel)
set_option maxRecDepth 20000 in
theorem kw_504 : Cond.methodLink RX1 59 arraycopyName ∈ tG := inG 920 (by decide +kernel) (by decide +kernel)
set_option maxRecDepth 20000 in
theorem kw_505 : Cond.methodLink RX1 65 yX4_copyFrom ∈ tG := inG 921 (by decide +kernel) (by decide +kernel)
set_option maxRecDepth 20000 in
theorem kw_506 : Cond.fieldLink RX1 69 "StoneRiver$Found" "ridges" "I" ∈ tG := inG 153 (by decide +kernel) (by decide +kernel)
set_option maxRecDepth 20000 in
theorem kw_507 : Cond.constantLong RX1 81 (31) ∈ tG := inG 973 (by decide +kernel) (by decide +kernel)
set_option maxRecDepth 20000 in
theorem kw_508 : Cond.constantLong RX4 44 (31) ∈ tG := inG 978 (by decide +kernel) (by decide +kernel)
set_option maxRecDepth 20000 in
theorem kw_509 : Cond.methodLink RX1 73 yX1_digestOf ∈ tG := inG 970 (by decide +kernel) (by decide +kernel)
set_option maxRecDepth 20000 in
theorem kw_510 : Cond.static yX1_digestOf ∈ tG := inG 971 (by decide +kernel) (by decide +kernel)
set_option maxRecDepth 20000 in
theorem kw_511 : Cond.code yX1_digestOf cX1_digestOf 9 (some .long) ∈ tG := inG 972 (by decide +kernel) (by decide +kernel)
set_option maxRecDepth 20000 in
theorem kw_512 : Cond.methodLink RX1 77 yX4_digestOn ∈ tG := inG 974 (by decide +kernel) (by decide +kernel)
set_option maxRecDepth 20000 in
theorem kw_513 : Cond.instanceMethod yX4_digestOn ∈ tG := inG 975 (by decide +kernel) (by decide +kernel)
set_option maxRecDepth 20000 in
theorem kw_514 : Cond.selects RX4 yX4_digestOn yX4_digestOn ∈ tG := inG 976 (by decide +kernel) (by decide +kernel)
set_option maxRecDepth 20000 in
theorem kw_515 : Cond.code yX4_digestOn cX4_digestOn 8 (some .long) ∈ tG := inG 977 (by decide +kernel) (by decide +kernel)
set_option maxRecDepth 20000 in
theorem kw_516 : Cond.fieldLink RX2 36 "StoneRiver$Found" "signs" "LStoneRiver$Rows;" ∈ tG := inG 145 (by decide +kernel) (by decide +kernel)
set_option maxRecDepth 20000 in
theorem kw_517 : Cond.methodLink RX2 41 yX4_size ∈ tG := inG 680 (by decide +kernel) (by decide +kernel)
set_option maxRecDepth 20000 in
theorem kw_518 : Cond.methodLink RX2 45 yX4_cell ∈ tG := inG 681 (by decide +kernel) (by decide +kernel)
set_option maxRecDepth 20000 in
theorem kw_519 : Cond.fieldLink RX2 49 "StoneRiver$Fronts" "travel" "I" ∈ tG := inG 259 (by decide +kernel) (by decide +kernel)
set_option maxRecDepth 20000 in
theorem kw_520 : Cond.methodLink RX2 89 Lib.Math.min.name ∈ tG := inG 700 (by decide +kernel) (by decide +kernel)
set_option maxRecDepth 20000 in
theorem kw_521 : Cond.methodLink RX2 97 Lib.Math.max.name ∈ tG := inG 701 (by decide +kernel) (by decide +kernel)
set_option maxRecDepth 20000 in
theorem kw_522 : Cond.methodLink RX2 79 yJ7_fill_53178 ∈ tG := inG 695 (by decide +kernel) (by decide +kernel)
set_option maxRecDepth 20000 in
theorem kw_523 : Cond.methodLink RX2 85 yX2_takeSign ∈ tG := inG 696 (by decide +kernel) (by decide +kernel)
set_option maxRecDepth 20000 in
theorem kw_524 : Cond.instanceMethod yX2_takeSign ∈ tG := inG 698 (by decide +kernel) (by decide +kernel)
set_option maxRecDepth 20000 in
theorem kw_525 : Cond.selects RX2 yX2_takeSign yX2_takeSign ∈ tG := inG 15 (by decide +kernel) (by decide +kernel)
set_option maxRecDepth 20000 in
theorem kw_526 : Cond.code yX2_takeSign cX2_takeSign 8 none ∈ tG := inG 699 (by decide +kernel) (by decide +kernel)
set_option maxRecDepth 20000 in
theorem kw_527 : Cond.fieldLink RX2 94 "StoneRiver$Fronts" "allSeen" "I" ∈ tG := inG 257 (by decide +kernel) (by decide +kernel)
set_option maxRecDepth 20000 in
theorem kw_528 : Cond.constant RX2 107 (1000000) ∈ tG := inG 713 (by decide +kernel) (by decide +kernel)
set_option maxRecDepth 20000 in
theorem kw_529 : Cond.fieldLink RX2 56 "StoneRiver$Fronts" "stride" "I" ∈ tG := inG 258 (by decide +kernel) (by decide +kernel)
set_option maxRecDepth 20000 in
theorem kw_530 : Cond.methodLink RX2 108 Lib.Math.abs.name ∈ tG := inG 714 (by decide +kernel) (by decide +kernel)
set_option maxRecDepth 20000 in
theorem kw_531 : Cond.static Lib.Math.abs.name ∈ tG := inG 715 (by decide +kernel) (by decide +kernel)
set_option maxRecDepth 20000 in
theorem kw_532 : Cond.code Lib.Math.abs.name Lib.Math.abs.code 1 (some .int) ∈ tG := inG 716 (by decide +kernel) (by decide +kernel)
set_option maxRecDepth 20000 in
theorem kw_533 : Cond.methodLink RX2 100 yX2_wayAt ∈ tG := inG 706 (by decide +kernel) (by decide +kernel)
set_option maxRecDepth 20000 in
theorem kw_534 : Cond.static yX2_wayAt ∈ tG := inG 707 (by decide +kernel) (by decide +kernel)
set_option maxRecDepth 20000 in
theorem kw_535 : Cond.code yX2_wayAt cX2_wayAt 3 (some .int) ∈ tG := inG 708 (by decide +kernel) (by decide +kernel)
set_option maxRecDepth 20000 in
theorem kw_536 : Cond.methodLink RX2 104 yX2_leastWayFrom ∈ tG := inG 709 (by decide +kernel) (by decide +kernel)
set_option maxRecDepth 20000 in
theorem kw_537 : Cond.instanceMethod yX2_leastWayFrom ∈ tG := inG 711 (by decide +kernel) (by decide +kernel)
set_option maxRecDepth 20000 in
theorem kw_538 : Cond.selects RX2 yX2_leastWayFrom yX2_leastWayFrom ∈ tG := inG 17 (by decide +kernel) (by decide +kernel)
set_option maxRecDepth 20000 in
theorem kw_539 : Cond.code yX2_leastWayFrom cX2_leastWayFrom 8 (some .int) ∈ tG := inG 712 (by decide +kernel) (by decide +kernel)
set_option maxRecDepth 20000 in
theorem kw_540 : Cond.methodLink RX2 112 yX2_leastFront ∈ tG := inG 721 (by decide +kernel) (by decide +kernel)
set_option maxRecDepth 20000 in
theorem kw_541 : Cond.instanceMethod yX2_leastFront ∈ tG := inG 723 (by decide +kernel) (by decide +kernel)
set_option maxRecDepth 20000 in
theorem kw_542 : Cond.selects RX2 yX2_leastFront yX2_leastFront ∈ tG := inG 19 (by decide +kernel) (by decide +kernel)
set_option maxRecDepth 20000 in
theorem kw_543 : Cond.code yX2_leastFront cX2_leastFront 11 (some .int) ∈ tG := inG 724 (by decide +kernel) (by decide +kernel)
set_option maxRecDepth 20000 in
theorem kw_544 : Cond.fieldLink RX2 53 "StoneRiver$Found" "numbers" "[I" ∈ tG := inG 137 (by decide +kernel) (by decide +kernel)
set_option maxRecDepth 20000 in
theorem kw_545 : Cond.fieldLink RX2 59 "StoneRiver$Fronts" "drawnStride" "I" ∈ tG := inG 261 (by decide +kernel) (by decide +kernel)
set_option maxRecDepth 20000 in
theorem kw_546 : Cond.methodLink RX2 66 yX2_takeSigns ∈ tG := inG 691 (by decide +kernel) (by decide +kernel)
set_option maxRecDepth 20000 in
theorem kw_547 : Cond.instanceMethod yX2_takeSigns ∈ tG := inG 693 (by decide +kernel) (by decide +kernel)
set_option maxRecDepth 20000 in
theorem kw_548 : Cond.selects RX2 yX2_takeSigns yX2_takeSigns ∈ tG := inG 14 (by decide +kernel) (by decide +kernel)
set_option maxRecDepth 20000 in
theorem kw_549 : Cond.code yX2_takeSigns cX2_takeSigns 4 none ∈ tG := inG 694 (by decide +kernel) (by decide +kernel)
set_option maxRecDepth 20000 in
theorem kw_550 : Cond.methodLink RX2 70 yX2_findWaysFrom ∈ tG := inG 702 (by decide +kernel) (by decide +kernel)
set_option maxRecDepth 20000 in
theorem kw_551 : Cond.instanceMethod yX2_findWaysFrom ∈ tG := inG 704 (by decide +kernel) (by decide +kernel)
set_option maxRecDepth 20000 in
theorem kw_552 : Cond.selects RX2 yX2_findWaysFrom yX2_findWaysFrom ∈ tG := inG 16 (by decide +kernel) (by decide +kernel)
set_option maxRecDepth 20000 in
theorem kw_553 : Cond.code yX2_findWaysFrom cX2_findWaysFrom 4 none ∈ tG := inG 705 (by decide +kernel) (by decide +kernel)
set_option maxRecDepth 20000 in
theorem kw_554 : Cond.methodLink RX2 73 yX2_followFirstRow ∈ tG := inG 717 (by decide +kernel) (by decide +kernel)
set_option maxRecDepth 20000 in
theorem kw_555 : Cond.instanceMethod yX2_followFirstRow ∈ tG := inG 719 (by decide +kernel) (by decide +kernel)
set_option maxRecDepth 20000 in
theorem kw_556 : Cond.selects RX2 yX2_followFirstRow yX2_followFirstRow ∈ tG := inG 18 (by decide +kernel) (by decide +kernel)
set_option maxRecDepth 20000 in
theorem kw_557 : Cond.code yX2_followFirstRow cX2_followFirstRow 4 none ∈ tG := inG 720 (by decide +kernel) (by decide +kernel)
set_option maxRecDepth 20000 in
theorem kw_558 : Cond.methodLink RX2 76 yX4_copyFrom ∈ tG := inG 725 (by decide +kernel) (by decide +kernel)
set_option maxRecDepth 20000 in
theorem kw_559 : Cond.methodLink RX2 62 yX4_isLike ∈ tG := inG 690 (by decide +kernel) (by decide +kernel)
set_option maxRecDepth 20000 in
theorem kw_560 : Cond.methodLink RX3 13 Lib.Math.max.name ∈ tG := inG 751 (by decide +kernel) (by decide +kernel)
set_option maxRecDepth 20000 in
theorem kw_561 : Cond.fieldLink RX3 19 "StoneRiver$Outburst" "hours" "I" ∈ tG := inG 290 (by decide +kernel) (by decide +kernel)
set_option maxRecDepth 20000 in
theorem kw_562 : Cond.fieldLink RX3 23 "StoneRiver$Outburst" "greatest" "I" ∈ tG := inG 291 (by decide +kernel) (by decide +kernel)
set_option maxRecDepth 20000 in
theorem kw_563 : Cond.methodLink RX3 41 Lib.Math.min.name ∈ tG := inG 758 (by decide +kernel) (by decide +kernel)
set_option maxRecDepth 20000 in
theorem kw_564 : Cond.fieldLink RX3 26 "StoneRiver$Found" "areas" "[I" ∈ tG := inG 148 (by decide +kernel) (by decide +kernel)
set_option maxRecDepth 20000 in
theorem kw_565 : Cond.methodLink RX3 31 yX3_volume ∈ tG := inG 756 (by decide +kernel) (by decide +kernel)
set_option maxRecDepth 20000 in
theorem kw_566 : Cond.static yX3_volume ∈ tG := inG 749 (by decide +kernel) (by decide +kernel)
set_option maxRecDepth 20000 in
theorem kw_567 : Cond.code yX3_volume cX3_volume 5 (some .int) ∈ tG := inG 750 (by decide +kernel) (by decide +kernel)
set_option maxRecDepth 20000 in
theorem kw_568 : Cond.methodLink RX3 35 arraycopyName ∈ tG := inG 757 (by decide +kernel) (by decide +kernel)
set_option maxRecDepth 20000 in
theorem kw_569 : Cond.methodLink RX3 44 yX3_highestWithSomething ∈ tG := inG 759 (by decide +kernel) (by decide +kernel)
set_option maxRecDepth 20000 in
theorem kw_570 : Cond.instanceMethod yX3_highestWithSomething ∈ tG := inG 761 (by decide +kernel) (by decide +kernel)
set_option maxRecDepth 20000 in
theorem kw_571 : Cond.selects RX3 yX3_highestWithSomething yX3_highestWithSomething ∈ tG := inG 20 (by decide +kernel) (by decide +kernel)
set_option maxRecDepth 20000 in
theorem kw_572 : Cond.code yX3_highestWithSomething cX3_highestWithSomething 4 (some .int) ∈ tG := inG 762 (by decide +kernel) (by decide +kernel)
set_option maxRecDepth 20000 in
theorem kw_573 : Cond.fieldLink RX3 47 "StoneRiver$Found" "numbers" "[I" ∈ tG := inG 138 (by decide +kernel) (by decide +kernel)
set_option maxRecDepth 20000 in
theorem kw_574 : Cond.methodLink RX3 50 yX3_drain ∈ tG := inG 763 (by decide +kernel) (by decide +kernel)
set_option maxRecDepth 20000 in
theorem kw_575 : Cond.instanceMethod yX3_drain ∈ tG := inG 765 (by decide +kernel) (by decide +kernel)
set_option maxRecDepth 20000 in
theorem kw_576 : Cond.selects RX3 yX3_drain yX3_drain ∈ tG := inG 21 (by decide +kernel) (by decide +kernel)
set_option maxRecDepth 20000 in
theorem kw_577 : Cond.code yX3_drain cX3_drain 7 none ∈ tG := inG 766 (by decide +kernel) (by decide +kernel)
set_option maxRecDepth 20000 in
theorem kw_578 : Cond.fieldLink RX7 80 "StoneRiver$Valley" "ROW_STEP" "[I" ∈ tG := inG 396 (by decide +kernel) (by decide +kernel)
set_option maxRecDepth 20000 in
theorem kw_579 : Cond.fieldLink RX7 83 "StoneRiver$Valley" "COLUMN_STEP" "[I" ∈ tG := inG 398 (by decide +kernel) (by decide +kernel)
set_option maxRecDepth 20000 in
theorem kw_580 : Cond.methodLink RX7 21 yX7_surfaceAt ∈ tG := inG 390 (by decide +kernel) (by decide +kernel)
set_option maxRecDepth 20000 in
theorem kw_581 : Cond.static yX7_surfaceAt ∈ tG := inG 391 (by decide +kernel) (by decide +kernel)
set_option maxRecDepth 20000 in
theorem kw_582 : Cond.code yX7_surfaceAt cX7_surfaceAt 4 (some .int) ∈ tG := inG 392 (by decide +kernel) (by decide +kernel)
set_option maxRecDepth 20000 in
theorem kw_583 : Cond.methodLink RX7 25 yX7_placeBeside ∈ tG := inG 393 (by decide +kernel) (by decide +kernel)
set_option maxRecDepth 20000 in
theorem kw_584 : Cond.static yX7_placeBeside ∈ tG := inG 394 (by decide +kernel) (by decide +kernel)
set_option maxRecDepth 20000 in
theorem kw_585 : Cond.code yX7_placeBeside cX7_placeBeside 5 (some .int) ∈ tG := inG 395 (by decide +kernel) (by decide +kernel)
set_option maxRecDepth 20000 in
theorem kw_586 : Cond.methodLink RX5 73 yJ9_floorMod_7cf53 ∈ tG := inG 510 (by decide +kernel) (by decide +kernel)
set_option maxRecDepth 20000 in
theorem kw_587 : Cond.static yJ9_floorMod_7cf53 ∈ tG := inG 511 (by decide +kernel) (by decide +kernel)
set_option maxRecDepth 20000 in
theorem kw_588 : Cond.initialized RJ9 ∈ tG := inG 68 (by decide +kernel) (by decide +kernel)
set_option maxRecDepth 20000 in
theorem kw_589 : Cond.code yJ9_floorMod_7cf53 cJ9_floorMod_7cf53 3 (some .int) ∈ tG := inG 512 (by decide +kernel) (by decide +kernel)
set_option maxRecDepth 20000 in
theorem kw_590 : Cond.methodLink RX5 68 Lib.Math.min.name ∈ tG := inG 513 (by decide +kernel) (by decide +kernel)
set_option maxRecDepth 20000 in
theorem kw_591 : Cond.fieldLink RX5 9 "StoneRiver$Found" "scratches" "LStoneRiver$Rows;" ∈ tG := inG 132 (by decide +kernel) (by decide +kernel)
set_option maxRecDepth 20000 in
theorem kw_592 : Cond.methodLink RX5 17 yX4_cell ∈ tG := inG 505 (by decide +kernel) (by decide +kernel)
set_option maxRecDepth 20000 in
theorem kw_593 : Cond.fieldLink RX5 25 "StoneRiver$Found" "surfaces" "[I" ∈ tG := inG 123 (by decide +kernel) (by decide +kernel)
set_option maxRecDepth 20000 in
theorem kw_594 : Cond.methodLink RX5 29 yX7_directionOfFlow ∈ tG := inG 506 (by decide +kernel) (by decide +kernel)
set_option maxRecDepth 20000 in
theorem kw_595 : Cond.static yX7_directionOfFlow ∈ tG := inG 388 (by decide +kernel) (by decide +kernel)
set_option maxRecDepth 20000 in
theorem kw_596 : Cond.code yX7_directionOfFlow cX7_directionOfFlow 7 (some .int) ∈ tG := inG 389 (by decide +kernel) (by decide +kernel)
set_option maxRecDepth 20000 in
theorem kw_597 : Cond.methodLink RX5 33 yX5_turnBetween ∈ tG := inG 507 (by decide +kernel) (by decide +kernel)
set_option maxRecDepth 20000 in
theorem kw_598 : Cond.static yX5_turnBetween ∈ tG := inG 508 (by decide +kernel) (by decide +kernel)
set_option maxRecDepth 20000 in
theorem kw_599 : Cond.initialized RX5 ∈ tG := inG 76 (by decide +kernel) (by decide +kernel)
set_option maxRecDepth 20000 in
theorem kw_600 : Cond.code yX5_turnBetween cX5_turnBetween 3 (some .int) ∈ tG := inG 509 (by decide +kernel) (by decide +kernel)
set_option maxRecDepth 20000 in
theorem kw_601 : Cond.fieldLink RX5 36 "StoneRiver$Found" "numbers" "[I" ∈ tG := inG 136 (by decide +kernel) (by decide +kernel)
set_option maxRecDepth 20000 in
theorem kw_602 : Cond.methodLink RX5 55 yX5_areAtOnePlace ∈ tG := inG 525 (by decide +kernel) (by decide +kernel)
set_option maxRecDepth 20000 in
theorem kw_603 : Cond.static yX5_areAtOnePlace ∈ tG := inG 526 (by decide +kernel) (by decide +kernel)
set_option maxRecDepth 20000 in
theorem kw_604 : Cond.code yX5_areAtOnePlace cX5_areAtOnePlace 3 (some .boolean) ∈ tG := inG 527 (by decide +kernel) (by decide +kernel)
set_option maxRecDepth 20000 in
theorem kw_605 : Cond.methodLink RX5 39 yX4_size ∈ tG := inG 521 (by decide +kernel) (by decide +kernel)
set_option maxRecDepth 20000 in
theorem kw_606 : Cond.methodLink RX5 59 yX5_stagesOf ∈ tG := inG 531 (by decide +kernel) (by decide +kernel)
set_option maxRecDepth 20000 in
theorem kw_607 : Cond.static yX5_stagesOf ∈ tG := inG 503 (by decide +kernel) (by decide +kernel)
set_option maxRecDepth 20000 in
theorem kw_608 : Cond.code yX5_stagesOf cX5_stagesOf 7 (some .int) ∈ tG := inG 504 (by decide +kernel) (by decide +kernel)
set_option maxRecDepth 20000 in
theorem kw_609 : Cond.methodLink RX5 43 yX5_isFirstAtItsPlace ∈ tG := inG 522 (by decide +kernel) (by decide +kernel)
set_option maxRecDepth 20000 in
theorem kw_610 : Cond.static yX5_isFirstAtItsPlace ∈ tG := inG 523 (by decide +kernel) (by decide +kernel)
set_option maxRecDepth 20000 in
theorem kw_611 : Cond.code yX5_isFirstAtItsPlace cX5_isFirstAtItsPlace 3 (some .boolean) ∈ tG := inG 524 (by decide +kernel) (by decide +kernel)
set_option maxRecDepth 20000 in
theorem kw_612 : Cond.methodLink RX5 47 yX5_rowsAtPlaceOf ∈ tG := inG 528 (by decide +kernel) (by decide +kernel)
set_option maxRecDepth 20000 in
theorem kw_613 : Cond.static yX5_rowsAtPlaceOf ∈ tG := inG 529 (by decide +kernel) (by decide +kernel)
set_option maxRecDepth 20000 in
theorem kw_614 : Cond.code yX5_rowsAtPlaceOf cX5_rowsAtPlaceOf 7 (some .int) ∈ tG := inG 530 (by decide +kernel) (by decide +kernel)
set_option maxRecDepth 20000 in
theorem kw_615 : Cond.methodLink RX5 51 yX5_rows ∈ tG := inG 535 (by decide +kernel) (by decide +kernel)
set_option maxRecDepth 20000 in
theorem kw_616 : Cond.static yX5_rows ∈ tG := inG 519 (by decide +kernel) (by decide +kernel)
set_option maxRecDepth 20000 in
theorem kw_617 : Cond.code yX5_rows cX5_rows 3 (some .int) ∈ tG := inG 520 (by decide +kernel) (by decide +kernel)
set_option maxRecDepth 20000 in
theorem kw_618 : Cond.methodLink RX5 62 yJ6_numberOfTrailingZeros_0f7a4 ∈ tG := inG 536 (by decide +kernel) (by decide +kernel)
set_option maxRecDepth 20000 in
theorem kw_619 : Cond.fieldLink RX6 18 "StoneRiver$Text" "size" "I" ∈ tG := inG 306 (by decide +kernel) (by decide +kernel)
set_option maxRecDepth 20000 in
theorem kw_620 : Cond.constantLong RX6 22 (255) ∈ tG := inG 816 (by decide +kernel) (by decide +kernel)
set_option maxRecDepth 20000 in
theorem kw_621 : Cond.fieldLink RX6 34 "StoneRiver$Text" "next" "I" ∈ tG := inG 309 (by decide +kernel) (by decide +kernel)
set_option maxRecDepth 20000 in
theorem kw_622 : Cond.fieldLink RX6 31 "StoneRiver$Text" "start" "I" ∈ tG := inG 307 (by decide +kernel) (by decide +kernel)
set_option maxRecDepth 20000 in
theorem kw_623 : Cond.methodLink RX6 73 yJ0_charAt_5068e ∈ tG := inG 861 (by decide +kernel) (by decide +kernel)
set_option maxRecDepth 20000 in
theorem kw_624 : Cond.instanceMethod yJ0_charAt_5068e ∈ tG := inG 862 (by decide +kernel) (by decide +kernel)
set_option maxRecDepth 20000 in
theorem kw_625 : Cond.selects RJ0 yJ0_charAt_5068e yJ0_charAt_5068e ∈ tG := inG 863 (by decide +kernel) (by decide +kernel)
set_option maxRecDepth 20000 in
theorem kw_626 : Cond.code yJ0_charAt_5068e cJ0_charAt_5068e 2 (some .char) ∈ tG := inG 864 (by decide +kernel) (by decide +kernel)
set_option maxRecDepth 20000 in
theorem kw_627 : Cond.methodLink RX6 55 yX6_isLetter ∈ tG := inG 849 (by decide +kernel) (by decide +kernel)
set_option maxRecDepth 20000 in
theorem kw_628 : Cond.static yX6_isLetter ∈ tG := inG 850 (by decide +kernel) (by decide +kernel)
set_option maxRecDepth 20000 in
theorem kw_629 : Cond.code yX6_isLetter cX6_isLetter 1 (some .boolean) ∈ tG := inG 851 (by decide +kernel) (by decide +kernel)
set_option maxRecDepth 20000 in
theorem kw_630 : Cond.fieldLink RX6 43 "StoneRiver$Text" "value" "I" ∈ tG := inG 308 (by decide +kernel) (by decide +kernel)
set_option maxRecDepth 20000 in
theorem kw_631 : Cond.methodLink RX6 68 yX6_isTokenTheWord ∈ tG := inG 856 (by decide +kernel) (by decide +kernel)
set_option maxRecDepth 20000 in
theorem kw_632 : Cond.instanceMethod yX6_isTokenTheWord ∈ tG := inG 858 (by decide +kernel) (by decide +kernel)
set_option maxRecDepth 20000 in
theorem kw_633 : Cond.selects RX6 yX6_isTokenTheWord yX6_isTokenTheWord ∈ tG := inG 24 (by decide +kernel) (by decide +kernel)
set_option maxRecDepth 20000 in
theorem kw_634 : Cond.code yX6_isTokenTheWord cX6_isTokenTheWord 4 (some .boolean) ∈ tG := inG 859 (by decide +kernel) (by decide +kernel)
set_option maxRecDepth 20000 in
theorem kw_635 : Cond.methodLink RX6 62 yX6_isFigure ∈ tG := inG 901 (by decide +kernel) (by decide +kernel)
set_option maxRecDepth 20000 in
theorem kw_636 : Cond.static yX6_isFigure ∈ tG := inG 902 (by decide +kernel) (by decide +kernel)
set_option maxRecDepth 20000 in
theorem kw_637 : Cond.code yX6_isFigure cX6_isFigure 1 (some .boolean) ∈ tG := inG 903 (by decide +kernel) (by decide +kernel)
set_option maxRecDepth 20000 in
theorem kw_638 : Cond.methodLink RX6 65 yX6_takeNumber ∈ tG := inG 904 (by decide +kernel) (by decide +kernel)
set_option maxRecDepth 20000 in
theorem kw_639 : Cond.instanceMethod yX6_takeNumber ∈ tG := inG 906 (by decide +kernel) (by decide +kernel)
set_option maxRecDepth 20000 in
theorem kw_640 : Cond.selects RX6 yX6_takeNumber yX6_takeNumber ∈ tG := inG 25 (by decide +kernel) (by decide +kernel)
set_option maxRecDepth 20000 in
theorem kw_641 : Cond.code yX6_takeNumber cX6_takeNumber 1 (some .int) ∈ tG := inG 907 (by decide +kernel) (by decide +kernel)
set_option maxRecDepth 20000 in
theorem kw_642 : Cond.methodLink RX6 59 yX6_takeWord ∈ tG := inG 852 (by decide +kernel) (by decide +kernel)
set_option maxRecDepth 20000 in
theorem kw_643 : Cond.instanceMethod yX6_takeWord ∈ tG := inG 854 (by decide +kernel) (by decide +kernel)
set_option maxRecDepth 20000 in
theorem kw_644 : Cond.selects RX6 yX6_takeWord yX6_takeWord ∈ tG := inG 23 (by decide +kernel) (by decide +kernel)
set_option maxRecDepth 20000 in
theorem kw_645 : Cond.code yX6_takeWord cX6_takeWord 2 (some .int) ∈ tG := inG 855 (by decide +kernel) (by decide +kernel)
set_option maxRecDepth 20000 in
theorem kw_646 : Cond.methodLink RX6 40 yX6_takeToken ∈ tG := inG 845 (by decide +kernel) (by decide +kernel)
set_option maxRecDepth 20000 in
theorem kw_647 : Cond.instanceMethod yX6_takeToken ∈ tG := inG 847 (by decide +kernel) (by decide +kernel)
set_option maxRecDepth 20000 in
theorem kw_648 : Cond.selects RX6 yX6_takeToken yX6_takeToken ∈ tG := inG 22 (by decide +kernel) (by decide +kernel)
set_option maxRecDepth 20000 in
theorem kw_649 : Cond.code yX6_takeToken cX6_takeToken 1 (some .int) ∈ tG := inG 848 (by decide +kernel) (by decide +kernel)
set_option maxRecDepth 20000 in
theorem kw_650 : Cond.fieldLink RX6 37 "StoneRiver$Text" "word" "I" ∈ tG := inG 310 (by decide +kernel) (by decide +kernel)
set_option maxRecDepth 20000 in
theorem kw_651 : Cond.fieldLink RX6 46 "StoneRiver$Text" "NUMBERS_AFTER" "[I" ∈ tG := inG 908 (by decide +kernel) (by decide +kernel)
set_option maxRecDepth 20000 in
theorem kw_652 : Cond.methodLink RX6 49 Lib.Math.min.name ∈ tG := inG 910 (by decide +kernel) (by decide +kernel)
set_option maxRecDepth 20000 in
theorem kw_653 : Cond.methodLink RX6 24 yX6_goToStart ∈ tG := inG 837 (by decide +kernel) (by decide +kernel)
set_option maxRecDepth 20000 in
theorem kw_654 : Cond.instanceMethod yX6_goToStart ∈ tG := inG 838 (by decide +kernel) (by decide +kernel)
set_option maxRecDepth 20000 in
theorem kw_655 : Cond.selects RX6 yX6_goToStart yX6_goToStart ∈ tG := inG 839 (by decide +kernel) (by decide +kernel)
set_option maxRecDepth 20000 in
theorem kw_656 : Cond.code yX6_goToStart cX6_goToStart 1 none ∈ tG := inG 840 (by decide +kernel) (by decide +kernel)
set_option maxRecDepth 20000 in
theorem kw_657 : Cond.methodLink RX6 27 yX6_takeItem ∈ tG := inG 841 (by decide +kernel) (by decide +kernel)
set_option maxRecDepth 20000 in
theorem kw_658 : Cond.instanceMethod yX6_takeItem ∈ tG := inG 842 (by decide +kernel) (by decide +kernel)
set_option maxRecDepth 20000 in
theorem kw_659 : Cond.selects RX6 yX6_takeItem yX6_takeItem ∈ tG := inG 843 (by decide +kernel) (by decide +kernel)
set_option maxRecDepth 20000 in
theorem kw_660 : Cond.code yX6_takeItem cX6_takeItem 4 (some .int) ∈ tG := inG 844 (by decide +kernel) (by decide +kernel)
set_option maxRecDepth 20000 in
theorem kw_661 : Cond.constant RX7 62 (1000000) ∈ tG := inG 436 (by decide +kernel) (by decide +kernel)
set_option maxRecDepth 20000 in
theorem kw_662 : Cond.methodLink RX7 75 Lib.Math.min.name ∈ tG := inG 442 (by decide +kernel) (by decide +kernel)
set_option maxRecDepth 20000 in
theorem kw_663 : Cond.methodLink RX7 63 yX7_directionOfFlow ∈ tG := inG 437 (by decide +kernel) (by decide +kernel)
set_option maxRecDepth 20000 in
theorem kw_664 : Cond.methodLink RX7 66 yX7_fewestDownFrom ∈ tG := inG 438 (by decide +kernel) (by decide +kernel)
set_option maxRecDepth 20000 in
theorem kw_665 : Cond.instanceMethod yX7_fewestDownFrom ∈ tG := inG 440 (by decide +kernel) (by decide +kernel)
set_option maxRecDepth 20000 in
theorem kw_666 : Cond.selects RX7 yX7_fewestDownFrom yX7_fewestDownFrom ∈ tG := inG 1 (by decide +kernel) (by decide +kernel)
set_option maxRecDepth 20000 in
theorem kw_667 : Cond.code yX7_fewestDownFrom cX7_fewestDownFrom 5 (some .int) ∈ tG := inG 441 (by decide +kernel) (by decide +kernel)
set_option maxRecDepth 20000 in
theorem kw_668 : Cond.methodLink RX7 69 arraycopyName ∈ tG := inG 443 (by decide +kernel) (by decide +kernel)
set_option maxRecDepth 20000 in
theorem kw_669 : Cond.fieldLink RX7 29 "StoneRiver$Found" "surfaces" "[I" ∈ tG := inG 124 (by decide +kernel) (by decide +kernel)
set_option maxRecDepth 20000 in
theorem kw_670 : Cond.fieldLink RX7 34 "StoneRiver$Found" "boulders" "LStoneRiver$Rows;" ∈ tG := inG 129 (by decide +kernel) (by decide +kernel)
set_option maxRecDepth 20000 in
theorem kw_671 : Cond.methodLink RX7 38 yX4_cell ∈ tG := inG 427 (by decide +kernel) (by decide +kernel)
set_option maxRecDepth 20000 in
theorem kw_672 : Cond.methodLink RX7 43 yX7_leadTo ∈ tG := inG 432 (by decide +kernel) (by decide +kernel)
set_option maxRecDepth 20000 in
theorem kw_673 : Cond.instanceMethod yX7_leadTo ∈ tG := inG 434 (by decide +kernel) (by decide +kernel)
set_option maxRecDepth 20000 in
theorem kw_674 : Cond.selects RX7 yX7_leadTo yX7_leadTo ∈ tG := inG 0 (by decide +kernel) (by decide +kernel)
set_option maxRecDepth 20000 in
theorem kw_675 : Cond.code yX7_leadTo cX7_leadTo 5 none ∈ tG := inG 435 (by decide +kernel) (by decide +kernel)
set_option maxRecDepth 20000 in
theorem kw_676 : Cond.fieldLink RX7 47 "StoneRiver$Found" "cliffs" "LStoneRiver$Rows;" ∈ tG := inG 126 (by decide +kernel) (by decide +kernel)
set_option maxRecDepth 20000 in
theorem kw_677 : Cond.methodLink RX7 50 yX7_stepsFrom ∈ tG := inG 454 (by decide +kernel) (by decide +kernel)
set_option maxRecDepth 20000 in
theorem kw_678 : Cond.instanceMethod yX7_stepsFrom ∈ tG := inG 456 (by decide +kernel) (by decide +kernel)
set_option maxRecDepth 20000 in
theorem kw_679 : Cond.selects RX7 yX7_stepsFrom yX7_stepsFrom ∈ tG := inG 3 (by decide +kernel) (by decide +kernel)
set_option maxRecDepth 20000 in
theorem kw_680 : Cond.code yX7_stepsFrom cX7_stepsFrom 2 (some .int) ∈ tG := inG 457 (by decide +kernel) (by decide +kernel)
set_option maxRecDepth 20000 in
theorem kw_681 : Cond.methodLink RX7 54 yX4_size ∈ tG := inG 446 (by decide +kernel) (by decide +kernel)
set_option maxRecDepth 20000 in
theorem kw_682 : Cond.methodLink RX7 58 yX7_stepsOfSort ∈ tG := inG 450 (by decide +kernel) (by decide +kernel)
set_option maxRecDepth 20000 in
theorem kw_683 : Cond.instanceMethod yX7_stepsOfSort ∈ tG := inG 452 (by decide +kernel) (by decide +kernel)
set_option maxRecDepth 20000 in
theorem kw_684 : Cond.selects RX7 yX7_stepsOfSort yX7_stepsOfSort ∈ tG := inG 2 (by decide +kernel) (by decide +kernel)
set_option maxRecDepth 20000 in
theorem kw_685 : Cond.code yX7_stepsOfSort cX7_stepsOfSort 4 (some .int) ∈ tG := inG 453 (by decide +kernel) (by decide +kernel)
set_option maxRecDepth 20000 in
theorem kw_686 : Cond.fieldLink RX8 11 "StoneRiver$Found" "numbers" "[I" ∈ tG := inG 135 (by decide +kernel) (by decide +kernel)
set_option maxRecDepth 20000 in
theorem kw_687 : Cond.fieldLink RX8 17 "StoneRiver$Found" "heights" "[I" ∈ tG := inG 151 (by decide +kernel) (by decide +kernel)
set_option maxRecDepth 20000 in
theorem kw_688 : Cond.methodLink RX8 20 Lib.Math.max.name ∈ tG := inG 796 (by decide +kernel) (by decide +kernel)
set_option maxRecDepth 20000 in
theorem kw_689 : Cond.methodLink RX8 26 yX8_standsAt ∈ tG := inG 804 (by decide +kernel) (by decide +kernel)
set_option maxRecDepth 20000 in
theorem kw_690 : Cond.static yX8_standsAt ∈ tG := inG 794 (by decide +kernel) (by decide +kernel)
set_option maxRecDepth 20000 in
theorem kw_691 : Cond.initialized RX8 ∈ tG := inG 79 (by decide +kernel) (by decide +kernel)
set_option maxRecDepth 20000 in
theorem kw_692 : Cond.code yX8_standsAt cX8_standsAt 6 (some .int) ∈ tG := inG 795 (by decide +kernel) (by decide +kernel)
set_option maxRecDepth 20000 in
theorem kw_693 : Cond.methodLink RX9 67 yX9_within ∈ tG := inG 368 (by decide +kernel) (by decide +kernel)
set_option maxRecDepth 20000 in
theorem kw_694 : Cond.static yX9_within ∈ tG := inG 369 (by decide +kernel) (by decide +kernel)
set_option maxRecDepth 20000 in
theorem kw_695 : Cond.initialized RX9 ∈ tG := inG 65 (by decide +kernel) (by decide +kernel)
set_option maxRecDepth 20000 in
theorem kw_696 : Cond.code yX9_within cX9_within 3 (some .boolean) ∈ tG := inG 370 (by decide +kernel) (by decide +kernel)
set_option maxRecDepth 20000 in
theorem kw_697 : Cond.methodLink RX9 60 yX9_isStage ∈ tG := inG 365 (by decide +kernel) (by decide +kernel)
set_option maxRecDepth 20000 in
theorem kw_698 : Cond.static yX9_isStage ∈ tG := inG 366 (by decide +kernel) (by decide +kernel)
set_option maxRecDepth 20000 in
theorem kw_699 : Cond.code yX9_isStage cX9_isStage 1 (some .boolean) ∈ tG := inG 367 (by decide +kernel) (by decide +kernel)
set_option maxRecDepth 20000 in
theorem kw_700 : Cond.methodLink RX9 64 yX9_isPlace ∈ tG := inG 371 (by decide +kernel) (by decide +kernel)
set_option maxRecDepth 20000 in
theorem kw_701 : Cond.static yX9_isPlace ∈ tG := inG 372 (by decide +kernel) (by decide +kernel)
set_option maxRecDepth 20000 in
theorem kw_702 : Cond.code yX9_isPlace cX9_isPlace 1 (some .boolean) ∈ tG := inG 373 (by decide +kernel) (by decide +kernel)
set_option maxRecDepth 20000 in
theorem kw_703 : Cond.fieldLink RX9 71 "StoneRiver$Found" "surfaces" "[I" ∈ tG := inG 122 (by decide +kernel) (by decide +kernel)
set_option maxRecDepth 20000 in
theorem kw_704 : Cond.methodLink RX9 75 yX9_exchange ∈ tG := inG 374 (by decide +kernel) (by decide +kernel)
set_option maxRecDepth 20000 in
theorem kw_705 : Cond.static yX9_exchange ∈ tG := inG 375 (by decide +kernel) (by decide +kernel)
set_option maxRecDepth 20000 in
theorem kw_706 : Cond.code yX9_exchange cX9_exchange 4 (some .int) ∈ tG := inG 376 (by decide +kernel) (by decide +kernel)
set_option maxRecDepth 20000 in
theorem kw_707 : Cond.methodLink RX9 79 Lib.Math.min.name ∈ tG := inG 381 (by decide +kernel) (by decide +kernel)
set_option maxRecDepth 20000 in
theorem kw_708 : Cond.methodLink RX9 85 Lib.Math.max.name ∈ tG := inG 382 (by decide +kernel) (by decide +kernel)
set_option maxRecDepth 20000 in
theorem kw_709 : Cond.methodLink RX9 88 yX7_directionOfFlow ∈ tG := inG 387 (by decide +kernel) (by decide +kernel)
set_option maxRecDepth 20000 in
theorem kw_710 : Cond.methodLink RX9 91 yX9_isPlaceAndSort ∈ tG := inG 404 (by decide +kernel) (by decide +kernel)
set_option maxRecDepth 20000 in
theorem kw_711 : Cond.static yX9_isPlaceAndSort ∈ tG := inG 405 (by decide +kernel) (by decide +kernel)
set_option maxRecDepth 20000 in
theorem kw_712 : Cond.code yX9_isPlaceAndSort cX9_isPlaceAndSort 2 (some .boolean) ∈ tG := inG 406 (by decide +kernel) (by decide +kernel)
set_option maxRecDepth 20000 in
theorem kw_713 : Cond.fieldLink RX9 95 "StoneRiver$Found" "cliffs" "LStoneRiver$Rows;" ∈ tG := inG 127 (by decide +kernel) (by decide +kernel)
set_option maxRecDepth 20000 in
theorem kw_714 : Cond.methodLink RX9 99 yX4_add ∈ tG := inG 407 (by decide +kernel) (by decide +kernel)
set_option maxRecDepth 20000 in
theorem kw_715 : Cond.instanceMethod yX4_add ∈ tG := inG 408 (by decide +kernel) (by decide +kernel)
set_option maxRecDepth 20000 in
theorem kw_716 : Cond.selects RX4 yX4_add yX4_add ∈ tG := inG 409 (by decide +kernel) (by decide +kernel)
set_option maxRecDepth 20000 in
theorem kw_717 : Cond.code yX4_add cX4_add 7 (some .int) ∈ tG := inG 410 (by decide +kernel) (by decide +kernel)
set_option maxRecDepth 20000 in
theorem kw_718 : Cond.fieldLink RX9 105 "StoneRiver$Found" "boulders" "LStoneRiver$Rows;" ∈ tG := inG 130 (by decide +kernel) (by decide +kernel)
set_option maxRecDepth 20000 in
theorem kw_719 : Cond.methodLink RX9 108 yX4_has ∈ tG := inG 419 (by decide +kernel) (by decide +kernel)
set_option maxRecDepth 20000 in
theorem kw_720 : Cond.methodLink RX9 111 yX7_fittingCliffs ∈ tG := inG 423 (by decide +kernel) (by decide +kernel)
set_option maxRecDepth 20000 in
theorem kw_721 : Cond.instanceMethod yX7_fittingCliffs ∈ tG := inG 424 (by decide +kernel) (by decide +kernel)
set_option maxRecDepth 20000 in
theorem kw_722 : Cond.selects RX7 yX7_fittingCliffs yX7_fittingCliffs ∈ tG := inG 425 (by decide +kernel) (by decide +kernel)
set_option maxRecDepth 20000 in
theorem kw_723 : Cond.code yX7_fittingCliffs cX7_fittingCliffs 5 (some .int) ∈ tG := inG 426 (by decide +kernel) (by decide +kernel)
set_option maxRecDepth 20000 in
theorem kw_724 : Cond.methodLink RX9 115 yX7_fewestSteps ∈ tG := inG 462 (by decide +kernel) (by decide +kernel)
set_option maxRecDepth 20000 in
theorem kw_725 : Cond.instanceMethod yX7_fewestSteps ∈ tG := inG 463 (by decide +kernel) (by decide +kernel)
set_option maxRecDepth 20000 in
theorem kw_726 : Cond.selects RX7 yX7_fewestSteps yX7_fewestSteps ∈ tG := inG 464 (by decide +kernel) (by decide +kernel)
set_option maxRecDepth 20000 in
theorem kw_727 : Cond.code yX7_fewestSteps cX7_fewestSteps 4 (some .int) ∈ tG := inG 465 (by decide +kernel) (by decide +kernel)
set_option maxRecDepth 20000 in
theorem kw_728 : Cond.methodLink RX9 119 yX7_nearestCliff ∈ tG := inG 470 (by decide +kernel) (by decide +kernel)
set_option maxRecDepth 20000 in
theorem kw_729 : Cond.instanceMethod yX7_nearestCliff ∈ tG := inG 471 (by decide +kernel) (by decide +kernel)
set_option maxRecDepth 20000 in
theorem kw_730 : Cond.selects RX7 yX7_nearestCliff yX7_nearestCliff ∈ tG := inG 472 (by decide +kernel) (by decide +kernel)
set_option maxRecDepth 20000 in
theorem kw_731 : Cond.code yX7_nearestCliff cX7_nearestCliff 7 (some .int) ∈ tG := inG 473 (by decide +kernel) (by decide +kernel)
set_option maxRecDepth 20000 in
theorem kw_732 : Cond.methodLink RX9 122 yX7_placesAbove ∈ tG := inG 478 (by decide +kernel) (by decide +kernel)
set_option maxRecDepth 20000 in
theorem kw_733 : Cond.instanceMethod yX7_placesAbove ∈ tG := inG 479 (by decide +kernel) (by decide +kernel)
set_option maxRecDepth 20000 in
theorem kw_734 : Cond.selects RX7 yX7_placesAbove yX7_placesAbove ∈ tG := inG 480 (by decide +kernel) (by decide +kernel)
set_option maxRecDepth 20000 in
theorem kw_735 : Cond.code yX7_placesAbove cX7_placesAbove 5 (some .int) ∈ tG := inG 481 (by decide +kernel) (by decide +kernel)
set_option maxRecDepth 20000 in
theorem kw_736 : Cond.fieldLink RX9 128 "StoneRiver$Found" "scratches" "LStoneRiver$Rows;" ∈ tG := inG 133 (by decide +kernel) (by decide +kernel)
set_option maxRecDepth 20000 in
theorem kw_737 : Cond.methodLink RX9 131 yX1_mayPut ∈ tG := inG 490 (by decide +kernel) (by decide +kernel)
set_option maxRecDepth 20000 in
theorem kw_738 : Cond.instanceMethod yX1_mayPut ∈ tG := inG 491 (by decide +kernel) (by decide +kernel)
set_option maxRecDepth 20000 in
theorem kw_739 : Cond.selects RX1 yX1_mayPut yX1_mayPut ∈ tG := inG 492 (by decide +kernel) (by decide +kernel)
set_option maxRecDepth 20000 in
theorem kw_740 : Cond.code yX1_mayPut cX1_mayPut 3 (some .boolean) ∈ tG := inG 493 (by decide +kernel) (by decide +kernel)
set_option maxRecDepth 20000 in
theorem kw_741 : Cond.fieldLink RX9 134 "StoneRiver$Found" "numbers" "[I" ∈ tG := inG 140 (by decide +kernel) (by decide +kernel)
set_option maxRecDepth 20000 in
theorem kw_742 : Cond.methodLink RX9 137 yX5_stagesOf ∈ tG := inG 502 (by decide +kernel) (by decide +kernel)
set_option maxRecDepth 20000 in
theorem kw_743 : Cond.methodLink RX9 144 yX5_stageInFirstRow ∈ tG := inG 532 (by decide +kernel) (by decide +kernel)
set_option maxRecDepth 20000 in
theorem kw_744 : Cond.static yX5_stageInFirstRow ∈ tG := inG 533 (by decide +kernel) (by decide +kernel)
set_option maxRecDepth 20000 in
theorem kw_745 : Cond.code yX5_stageInFirstRow cX5_stageInFirstRow 5 (some .int) ∈ tG := inG 534 (by decide +kernel) (by decide +kernel)
set_option maxRecDepth 20000 in
theorem kw_746 : Cond.methodLink RX9 140 yX5_rows ∈ tG := inG 518 (by decide +kernel) (by decide +kernel)
set_option maxRecDepth 20000 in
theorem kw_747 : Cond.fieldLink RX9 147 "StoneRiver$Found" "ridges" "I" ∈ tG := inG 155 (by decide +kernel) (by decide +kernel)
set_option maxRecDepth 20000 in
theorem kw_748 : Cond.methodLink RX9 151 yX9_isRidge ∈ tG := inG 548 (by decide +kernel) (by decide +kernel)
set_option maxRecDepth 20000 in
theorem kw_749 : Cond.instanceMethod yX9_isRidge ∈ tG := inG 550 (by decide +kernel) (by decide +kernel)
set_option maxRecDepth 20000 in
theorem kw_750 : Cond.selects RX9 yX9_isRidge yX9_isRidge ∈ tG := inG 4 (by decide +kernel) (by decide +kernel)
set_option maxRecDepth 20000 in
theorem kw_751 : Cond.code yX9_isRidge cX9_isRidge 2 (some .boolean) ∈ tG := inG 551 (by decide +kernel) (by decide +kernel)
set_option maxRecDepth 20000 in
theorem kw_752 : Cond.methodLink RX9 154 yX9_mayTell ∈ tG := inG 552 (by decide +kernel) (by decide +kernel)
set_option maxRecDepth 20000 in
theorem kw_753 : Cond.instanceMethod yX9_mayTell ∈ tG := inG 554 (by decide +kernel) (by decide +kernel)
set_option maxRecDepth 20000 in
theorem kw_754 : Cond.selects RX9 yX9_mayTell yX9_mayTell ∈ tG := inG 5 (by decide +kernel) (by decide +kernel)
set_option maxRecDepth 20000 in
theorem kw_755 : Cond.code yX9_mayTell cX9_mayTell 5 (some .boolean) ∈ tG := inG 555 (by decide +kernel) (by decide +kernel)
set_option maxRecDepth 20000 in
theorem kw_756 : Cond.fieldLink RX9 158 "StoneRiver$Found" "facts" "LStoneRiver$Rows;" ∈ tG := inG 143 (by decide +kernel) (by decide +kernel)
set_option maxRecDepth 20000 in
theorem kw_757 : Cond.methodLink RX9 161 yX0_bitsOfAll ∈ tG := inG 560 (by decide +kernel) (by decide +kernel)
set_option maxRecDepth 20000 in
theorem kw_758 : Cond.methodLink RX9 164 yX0_joinBy ∈ tG := inG 564 (by decide +kernel) (by decide +kernel)
set_option maxRecDepth 20000 in
theorem kw_759 : Cond.methodLink RX9 172 yX0_greatestOf ∈ tG := inG 594 (by decide +kernel) (by decide +kernel)
set_option maxRecDepth 20000 in
theorem kw_760 : Cond.methodLink RX9 168 yX0_leastOf ∈ tG := inG 590 (by decide +kernel) (by decide +kernel)
set_option maxRecDepth 20000 in
theorem kw_761 : Cond.methodLink RX9 175 yX0_leftOut ∈ tG := inG 602 (by decide +kernel) (by decide +kernel)
set_option maxRecDepth 20000 in
theorem kw_762 : Cond.methodLink RX9 178 yX0_joinBest ∈ tG := inG 629 (by decide +kernel) (by decide +kernel)
set_option maxRecDepth 20000 in
theorem kw_763 : Cond.instanceMethod yX0_joinBest ∈ tG := inG 630 (by decide +kernel) (by decide +kernel)
set_option maxRecDepth 20000 in
theorem kw_764 : Cond.selects RX0 yX0_joinBest yX0_joinBest ∈ tG := inG 631 (by decide +kernel) (by decide +kernel)
set_option maxRecDepth 20000 in
theorem kw_765 : Cond.code yX0_joinBest cX0_joinBest 5 (some .boolean) ∈ tG := inG 632 (by decide +kernel) (by decide +kernel)
set_option maxRecDepth 20000 in
theorem kw_766 : Cond.methodLink RX9 182 yX0_isYounger ∈ tG := inG 643 (by decide +kernel) (by decide +kernel)
set_option maxRecDepth 20000 in
theorem kw_767 : Cond.instanceMethod yX0_isYounger ∈ tG := inG 644 (by decide +kernel) (by decide +kernel)
set_option maxRecDepth 20000 in
theorem kw_768 : Cond.selects RX0 yX0_isYounger yX0_isYounger ∈ tG := inG 645 (by decide +kernel) (by decide +kernel)
set_option maxRecDepth 20000 in
theorem kw_769 : Cond.code yX0_isYounger cX0_isYounger 3 (some .boolean) ∈ tG := inG 646 (by decide +kernel) (by decide +kernel)
set_option maxRecDepth 20000 in
theorem kw_770 : Cond.methodLink RX9 185 yX0_ridgeToCore ∈ tG := inG 653 (by decide +kernel) (by decide +kernel)
set_option maxRecDepth 20000 in
theorem kw_771 : Cond.instanceMethod yX0_ridgeToCore ∈ tG := inG 654 (by decide +kernel) (by decide +kernel)
set_option maxRecDepth 20000 in
theorem kw_772 : Cond.selects RX0 yX0_ridgeToCore yX0_ridgeToCore ∈ tG := inG 655 (by decide +kernel) (by decide +kernel)
set_option maxRecDepth 20000 in
theorem kw_773 : Cond.code yX0_ridgeToCore cX0_ridgeToCore 7 (some .int) ∈ tG := inG 656 (by decide +kernel) (by decide +kernel)
set_option maxRecDepth 20000 in
theorem kw_774 : Cond.methodLink RX9 188 yX0_firstParted ∈ tG := inG 665 (by decide +kernel) (by decide +kernel)
set_option maxRecDepth 20000 in
theorem kw_775 : Cond.instanceMethod yX0_firstParted ∈ tG := inG 666 (by decide +kernel) (by decide +kernel)
set_option maxRecDepth 20000 in
theorem kw_776 : Cond.selects RX0 yX0_firstParted yX0_firstParted ∈ tG := inG 667 (by decide +kernel) (by decide +kernel)
set_option maxRecDepth 20000 in
theorem kw_777 : Cond.code yX0_firstParted cX0_firstParted 4 (some .int) ∈ tG := inG 668 (by decide +kernel) (by decide +kernel)
set_option maxRecDepth 20000 in
theorem kw_778 : Cond.fieldLink RX9 194 "StoneRiver$Found" "signs" "LStoneRiver$Rows;" ∈ tG := inG 146 (by decide +kernel) (by decide +kernel)
set_option maxRecDepth 20000 in
theorem kw_779 : Cond.methodLink RX9 191 yX2_countAt ∈ tG := inG 677 (by decide +kernel) (by decide +kernel)
set_option maxRecDepth 20000 in
theorem kw_780 : Cond.static yX2_countAt ∈ tG := inG 678 (by decide +kernel) (by decide +kernel)
set_option maxRecDepth 20000 in
theorem kw_781 : Cond.code yX2_countAt cX2_countAt 3 (some .int) ∈ tG := inG 679 (by decide +kernel) (by decide +kernel)
set_option maxRecDepth 20000 in
theorem kw_782 : Cond.methodLink RX9 197 yX2_draw ∈ tG := inG 686 (by decide +kernel) (by decide +kernel)
set_option maxRecDepth 20000 in
theorem kw_783 : Cond.instanceMethod yX2_draw ∈ tG := inG 687 (by decide +kernel) (by decide +kernel)
set_option maxRecDepth 20000 in
theorem kw_784 : Cond.selects RX2 yX2_draw yX2_draw ∈ tG := inG 688 (by decide +kernel) (by decide +kernel)
set_option maxRecDepth 20000 in
theorem kw_785 : Cond.code yX2_draw cX2_draw 3 none ∈ tG := inG 689 (by decide +kernel) (by decide +kernel)
set_option maxRecDepth 20000 in
theorem kw_786 : Cond.methodLink RX9 201 yX2_travel ∈ tG := inG 726 (by decide +kernel) (by decide +kernel)
set_option maxRecDepth 20000 in
theorem kw_787 : Cond.instanceMethod yX2_travel ∈ tG := inG 727 (by decide +kernel) (by decide +kernel)
set_option maxRecDepth 20000 in
theorem kw_788 : Cond.selects RX2 yX2_travel yX2_travel ∈ tG := inG 728 (by decide +kernel) (by decide +kernel)
set_option maxRecDepth 20000 in
theorem kw_789 : Cond.code yX2_travel cX2_travel 1 (some .int) ∈ tG := inG 729 (by decide +kernel) (by decide +kernel)
set_option maxRecDepth 20000 in
theorem kw_790 : Cond.methodLink RX9 205 yX2_frontIn ∈ tG := inG 730 (by decide +kernel) (by decide +kernel)
set_option maxRecDepth 20000 in
theorem kw_791 : Cond.instanceMethod yX2_frontIn ∈ tG := inG 731 (by decide +kernel) (by decide +kernel)
set_option maxRecDepth 20000 in
theorem kw_792 : Cond.selects RX2 yX2_frontIn yX2_frontIn ∈ tG := inG 732 (by decide +kernel) (by decide +kernel)
set_option maxRecDepth 20000 in
theorem kw_793 : Cond.code yX2_frontIn cX2_frontIn 2 (some .int) ∈ tG := inG 733 (by decide +kernel) (by decide +kernel)
set_option maxRecDepth 20000 in
theorem kw_794 : Cond.methodLink RX9 208 yX9_isLevel ∈ tG := inG 738 (by decide +kernel) (by decide +kernel)
set_option maxRecDepth 20000 in
theorem kw_795 : Cond.static yX9_isLevel ∈ tG := inG 739 (by decide +kernel) (by decide +kernel)
set_option maxRecDepth 20000 in
theorem kw_796 : Cond.code yX9_isLevel cX9_isLevel 1 (some .boolean) ∈ tG := inG 740 (by decide +kernel) (by decide +kernel)
set_option maxRecDepth 20000 in
theorem kw_797 : Cond.fieldLink RX9 211 "StoneRiver$Found" "areas" "[I" ∈ tG := inG 149 (by decide +kernel) (by decide +kernel)
set_option maxRecDepth 20000 in
theorem kw_798 : Cond.methodLink RX9 214 yX9_isHeightAndSill ∈ tG := inG 745 (by decide +kernel) (by decide +kernel)
set_option maxRecDepth 20000 in
theorem kw_799 : Cond.static yX9_isHeightAndSill ∈ tG := inG 746 (by decide +kernel) (by decide +kernel)
set_option maxRecDepth 20000 in
theorem kw_800 : Cond.code yX9_isHeightAndSill cX9_isHeightAndSill 2 (some .boolean) ∈ tG := inG 747 (by decide +kernel) (by decide +kernel)
set_option maxRecDepth 20000 in
theorem kw_801 : Cond.methodLink RX9 220 yX3_run ∈ tG := inG 752 (by decide +kernel) (by decide +kernel)
set_option maxRecDepth 20000 in
theorem kw_802 : Cond.instanceMethod yX3_run ∈ tG := inG 753 (by decide +kernel) (by decide +kernel)
set_option maxRecDepth 20000 in
theorem kw_803 : Cond.selects RX3 yX3_run yX3_run ∈ tG := inG 754 (by decide +kernel) (by decide +kernel)
set_option maxRecDepth 20000 in
theorem kw_804 : Cond.code yX3_run cX3_run 7 none ∈ tG := inG 755 (by decide +kernel) (by decide +kernel)
set_option maxRecDepth 20000 in
theorem kw_805 : Cond.methodLink RX9 227 yX3_greatest ∈ tG := inG 771 (by decide +kernel) (by decide +kernel)
set_option maxRecDepth 20000 in
theorem kw_806 : Cond.instanceMethod yX3_greatest ∈ tG := inG 772 (by decide +kernel) (by decide +kernel)
set_option maxRecDepth 20000 in
theorem kw_807 : Cond.selects RX3 yX3_greatest yX3_greatest ∈ tG := inG 773 (by decide +kernel) (by decide +kernel)
set_option maxRecDepth 20000 in
theorem kw_808 : Cond.code yX3_greatest cX3_greatest 1 (some .int) ∈ tG := inG 774 (by decide +kernel) (by decide +kernel)
set_option maxRecDepth 20000 in
theorem kw_809 : Cond.methodLink RX9 224 yX3_hours ∈ tG := inG 767 (by decide +kernel) (by decide +kernel)
set_option maxRecDepth 20000 in
theorem kw_810 : Cond.instanceMethod yX3_hours ∈ tG := inG 768 (by decide +kernel) (by decide +kernel)
set_option maxRecDepth 20000 in
theorem kw_811 : Cond.selects RX3 yX3_hours yX3_hours ∈ tG := inG 769 (by decide +kernel) (by decide +kernel)
set_option maxRecDepth 20000 in
theorem kw_812 : Cond.code yX3_hours cX3_hours 1 (some .int) ∈ tG := inG 770 (by decide +kernel) (by decide +kernel)
set_option maxRecDepth 20000 in
theorem kw_813 : Cond.methodLink RX9 217 yX3_volume ∈ tG := inG 748 (by decide +kernel) (by decide +kernel)
set_option maxRecDepth 20000 in
theorem kw_814 : Cond.methodLink RX9 230 yX9_isZone ∈ tG := inG 783 (by decide +kernel) (by decide +kernel)
set_option maxRecDepth 20000 in
theorem kw_815 : Cond.static yX9_isZone ∈ tG := inG 784 (by decide +kernel) (by decide +kernel)
set_option maxRecDepth 20000 in
theorem kw_816 : Cond.code yX9_isZone cX9_isZone 1 (some .boolean) ∈ tG := inG 785 (by decide +kernel) (by decide +kernel)
set_option maxRecDepth 20000 in
theorem kw_817 : Cond.methodLink RX9 233 yX9_isWarmth ∈ tG := inG 786 (by decide +kernel) (by decide +kernel)
set_option maxRecDepth 20000 in
theorem kw_818 : Cond.static yX9_isWarmth ∈ tG := inG 787 (by decide +kernel) (by decide +kernel)
set_option maxRecDepth 20000 in
theorem kw_819 : Cond.code yX9_isWarmth cX9_isWarmth 1 (some .boolean) ∈ tG := inG 788 (by decide +kernel) (by decide +kernel)
set_option maxRecDepth 20000 in
theorem kw_820 : Cond.fieldLink RX9 236 "StoneRiver$Found" "heights" "[I" ∈ tG := inG 152 (by decide +kernel) (by decide +kernel)
set_option maxRecDepth 20000 in
theorem kw_821 : Cond.methodLink RX9 239 yX8_standsAt ∈ tG := inG 793 (by decide +kernel) (by decide +kernel)
set_option maxRecDepth 20000 in
theorem kw_822 : Cond.methodLink RX9 247 yX8_greatestFor ∈ tG := inG 805 (by decide +kernel) (by decide +kernel)
set_option maxRecDepth 20000 in
theorem kw_823 : Cond.static yX8_greatestFor ∈ tG := inG 806 (by decide +kernel) (by decide +kernel)
set_option maxRecDepth 20000 in
theorem kw_824 : Cond.code yX8_greatestFor cX8_greatestFor 4 (some .int) ∈ tG := inG 807 (by decide +kernel) (by decide +kernel)
set_option maxRecDepth 20000 in
theorem kw_825 : Cond.methodLink RX9 244 yX8_leastFor ∈ tG := inG 801 (by decide +kernel) (by decide +kernel)
set_option maxRecDepth 20000 in
theorem kw_826 : Cond.static yX8_leastFor ∈ tG := inG 802 (by decide +kernel) (by decide +kernel)
set_option maxRecDepth 20000 in
theorem kw_827 : Cond.code yX8_leastFor cX8_leastFor 4 (some .int) ∈ tG := inG 803 (by decide +kernel) (by decide +kernel)
set_option maxRecDepth 20000 in
theorem kw_828 : Cond.methodLink RX9 250 yX6_append ∈ tG := inG 812 (by decide +kernel) (by decide +kernel)
set_option maxRecDepth 20000 in
theorem kw_829 : Cond.instanceMethod yX6_append ∈ tG := inG 813 (by decide +kernel) (by decide +kernel)
set_option maxRecDepth 20000 in
theorem kw_830 : Cond.selects RX6 yX6_append yX6_append ∈ tG := inG 814 (by decide +kernel) (by decide +kernel)
set_option maxRecDepth 20000 in
theorem kw_831 : Cond.code yX6_append cX6_append 5 (some .int) ∈ tG := inG 815 (by decide +kernel) (by decide +kernel)
set_option maxRecDepth 20000 in
theorem kw_832 : Cond.methodLink RX9 254 yX6_size ∈ tG := inG 821 (by decide +kernel) (by decide +kernel)
set_option maxRecDepth 20000 in
theorem kw_833 : Cond.instanceMethod yX6_size ∈ tG := inG 822 (by decide +kernel) (by decide +kernel)
set_option maxRecDepth 20000 in
theorem kw_834 : Cond.selects RX6 yX6_size yX6_size ∈ tG := inG 823 (by decide +kernel) (by decide +kernel)
set_option maxRecDepth 20000 in
theorem kw_835 : Cond.code yX6_size cX6_size 1 (some .int) ∈ tG := inG 824 (by decide +kernel) (by decide +kernel)
set_option maxRecDepth 20000 in
theorem kw_836 : Cond.methodLink RX9 257 yX6_empty ∈ tG := inG 825 (by decide +kernel) (by decide +kernel)
set_option maxRecDepth 20000 in
theorem kw_837 : Cond.instanceMethod yX6_empty ∈ tG := inG 826 (by decide +kernel) (by decide +kernel)
set_option maxRecDepth 20000 in
theorem kw_838 : Cond.selects RX6 yX6_empty yX6_empty ∈ tG := inG 827 (by decide +kernel) (by decide +kernel)
set_option maxRecDepth 20000 in
theorem kw_839 : Cond.code yX6_empty cX6_empty 1 none ∈ tG := inG 828 (by decide +kernel) (by decide +kernel)
set_option maxRecDepth 20000 in
theorem kw_840 : Cond.methodLink RX9 260 yX6_faultPlace ∈ tG := inG 833 (by decide +kernel) (by decide +kernel)
set_option maxRecDepth 20000 in
theorem kw_841 : Cond.instanceMethod yX6_faultPlace ∈ tG := inG 834 (by decide +kernel) (by decide +kernel)
set_option maxRecDepth 20000 in
theorem kw_842 : Cond.selects RX6 yX6_faultPlace yX6_faultPlace ∈ tG := inG 835 (by decide +kernel) (by decide +kernel)
set_option maxRecDepth 20000 in
theorem kw_843 : Cond.code yX6_faultPlace cX6_faultPlace 3 (some .int) ∈ tG := inG 836 (by decide +kernel) (by decide +kernel)
set_option maxRecDepth 20000 in
theorem kw_844 : Cond.methodLink RX9 298 yX6_word ∈ tG := inG 928 (by decide +kernel) (by decide +kernel)
set_option maxRecDepth 20000 in
theorem kw_845 : Cond.instanceMethod yX6_word ∈ tG := inG 929 (by decide +kernel) (by decide +kernel)
set_option maxRecDepth 20000 in
theorem kw_846 : Cond.selects RX6 yX6_word yX6_word ∈ tG := inG 930 (by decide +kernel) (by decide +kernel)
set_option maxRecDepth 20000 in
theorem kw_847 : Cond.code yX6_word cX6_word 1 (some .int) ∈ tG := inG 931 (by decide +kernel) (by decide +kernel)
set_option maxRecDepth 20000 in
theorem kw_848 : Cond.methodLink RX9 301 yX6_number ∈ tG := inG 932 (by decide +kernel) (by decide +kernel)
set_option maxRecDepth 20000 in
theorem kw_849 : Cond.instanceMethod yX6_number ∈ tG := inG 933 (by decide +kernel) (by decide +kernel)
set_option maxRecDepth 20000 in
theorem kw_850 : Cond.selects RX6 yX6_number yX6_number ∈ tG := inG 934 (by decide +kernel) (by decide +kernel)
set_option maxRecDepth 20000 in
theorem kw_851 : Cond.code yX6_number cX6_number 2 (some .int) ∈ tG := inG 935 (by decide +kernel) (by decide +kernel)
set_option maxRecDepth 20000 in
theorem kw_852 : Cond.methodLink RX9 311 yX9_cliff ∈ tG := inG 938 (by decide +kernel) (by decide +kernel)
set_option maxRecDepth 20000 in
theorem kw_853 : Cond.instanceMethod yX9_cliff ∈ tG := inG 401 (by decide +kernel) (by decide +kernel)
set_option maxRecDepth 20000 in
theorem kw_854 : Cond.selects RX9 yX9_cliff yX9_cliff ∈ tG := inG 402 (by decide +kernel) (by decide +kernel)
set_option maxRecDepth 20000 in
theorem kw_855 : Cond.code yX9_cliff cX9_cliff 3 (some .int) ∈ tG := inG 403 (by decide +kernel) (by decide +kernel)
set_option maxRecDepth 20000 in
theorem kw_856 : Cond.methodLink RX9 314 yX9_boulder ∈ tG := inG 939 (by decide +kernel) (by decide +kernel)
set_option maxRecDepth 20000 in
theorem kw_857 : Cond.instanceMethod yX9_boulder ∈ tG := inG 412 (by decide +kernel) (by decide +kernel)
set_option maxRecDepth 20000 in
theorem kw_858 : Cond.selects RX9 yX9_boulder yX9_boulder ∈ tG := inG 413 (by decide +kernel) (by decide +kernel)
set_option maxRecDepth 20000 in
theorem kw_859 : Cond.code yX9_boulder cX9_boulder 3 (some .int) ∈ tG := inG 414 (by decide +kernel) (by decide +kernel)
set_option maxRecDepth 20000 in
theorem kw_860 : Cond.methodLink RX9 317 yX9_scratch ∈ tG := inG 940 (by decide +kernel) (by decide +kernel)
set_option maxRecDepth 20000 in
theorem kw_861 : Cond.instanceMethod yX9_scratch ∈ tG := inG 483 (by decide +kernel) (by decide +kernel)
set_option maxRecDepth 20000 in
theorem kw_862 : Cond.selects RX9 yX9_scratch yX9_scratch ∈ tG := inG 484 (by decide +kernel) (by decide +kernel)
set_option maxRecDepth 20000 in
theorem kw_863 : Cond.code yX9_scratch cX9_scratch 3 (some .int) ∈ tG := inG 485 (by decide +kernel) (by decide +kernel)
set_option maxRecDepth 20000 in
theorem kw_864 : Cond.methodLink RX9 320 yX9_ridge ∈ tG := inG 941 (by decide +kernel) (by decide +kernel)
set_option maxRecDepth 20000 in
theorem kw_865 : Cond.instanceMethod yX9_ridge ∈ tG := inG 541 (by decide +kernel) (by decide +kernel)
set_option maxRecDepth 20000 in
theorem kw_866 : Cond.selects RX9 yX9_ridge yX9_ridge ∈ tG := inG 542 (by decide +kernel) (by decide +kernel)
set_option maxRecDepth 20000 in
theorem kw_867 : Cond.code yX9_ridge cX9_ridge 1 (some .int) ∈ tG := inG 543 (by decide +kernel) (by decide +kernel)
set_option maxRecDepth 20000 in
theorem kw_868 : Cond.methodLink RX9 308 yX9_fact ∈ tG := inG 937 (by decide +kernel) (by decide +kernel)
set_option maxRecDepth 20000 in
theorem kw_869 : Cond.instanceMethod yX9_fact ∈ tG := inG 545 (by decide +kernel) (by decide +kernel)
set_option maxRecDepth 20000 in
theorem kw_870 : Cond.selects RX9 yX9_fact yX9_fact ∈ tG := inG 546 (by decide +kernel) (by decide +kernel)
set_option maxRecDepth 20000 in
theorem kw_871 : Cond.code yX9_fact cX9_fact 6 (some .int) ∈ tG := inG 547 (by decide +kernel) (by decide +kernel)
set_option maxRecDepth 20000 in
theorem kw_872 : Cond.methodLink RX9 304 yX9_sign ∈ tG := inG 936 (by decide +kernel) (by decide +kernel)
set_option maxRecDepth 20000 in
theorem kw_873 : Cond.instanceMethod yX9_sign ∈ tG := inG 674 (by decide +kernel) (by decide +kernel)
set_option maxRecDepth 20000 in
theorem kw_874 : Cond.selects RX9 yX9_sign yX9_sign ∈ tG := inG 675 (by decide +kernel) (by decide +kernel)
set_option maxRecDepth 20000 in
theorem kw_875 : Cond.code yX9_sign cX9_sign 5 (some .int) ∈ tG := inG 676 (by decide +kernel) (by decide +kernel)
set_option maxRecDepth 20000 in
theorem kw_876 : Cond.methodLink RX9 263 yX1_copyFrom ∈ tG := inG 916 (by decide +kernel) (by decide +kernel)
set_option maxRecDepth 20000 in
theorem kw_877 : Cond.instanceMethod yX1_copyFrom ∈ tG := inG 917 (by decide +kernel) (by decide +kernel)
set_option maxRecDepth 20000 in
theorem kw_878 : Cond.selects RX1 yX1_copyFrom yX1_copyFrom ∈ tG := inG 918 (by decide +kernel) (by decide +kernel)
set_option maxRecDepth 20000 in
theorem kw_879 : Cond.code yX1_copyFrom cX1_copyFrom 2 none ∈ tG := inG 919 (by decide +kernel) (by decide +kernel)
set_option maxRecDepth 20000 in
theorem kw_880 : Cond.methodLink RX9 266 yX6_goToStart ∈ tG := inG 922 (by decide +kernel) (by decide +kernel)
set_option maxRecDepth 20000 in
theorem kw_881 : Cond.methodLink RX9 269 yX6_takeItem ∈ tG := inG 923 (by decide +kernel) (by decide +kernel)
set_option maxRecDepth 20000 in
theorem kw_882 : Cond.methodLink RX9 272 yX9_noteItem ∈ tG := inG 924 (by decide +kernel) (by decide +kernel)
set_option maxRecDepth 20000 in
theorem kw_883 : Cond.instanceMethod yX9_noteItem ∈ tG := inG 926 (by decide +kernel) (by decide +kernel)
set_option maxRecDepth 20000 in
theorem kw_884 : Cond.selects RX9 yX9_noteItem yX9_noteItem ∈ tG := inG 26 (by decide +kernel) (by decide +kernel)
set_option maxRecDepth 20000 in
theorem kw_885 : Cond.code yX9_noteItem cX9_noteItem 5 (some .int) ∈ tG := inG 927 (by decide +kernel) (by decide +kernel)
set_option maxRecDepth 20000 in
theorem kw_886 : Cond.methodLink RX9 275 yX9_imageOf ∈ tG := inG 946 (by decide +kernel) (by decide +kernel)
set_option maxRecDepth 20000 in
theorem kw_887 : Cond.instanceMethod yX9_imageOf ∈ tG := inG 948 (by decide +kernel) (by decide +kernel)
set_option maxRecDepth 20000 in
theorem kw_888 : Cond.selects RX9 yX9_imageOf yX9_imageOf ∈ tG := inG 27 (by decide +kernel) (by decide +kernel)
set_option maxRecDepth 20000 in
theorem kw_889 : Cond.code yX9_imageOf cX9_imageOf 2 (some (.object "StoneRiver$Found")) ∈ tG := inG 949 (by decide +kernel) (by decide +kernel)
set_option maxRecDepth 20000 in
theorem kw_890 : Cond.fieldLink RX9 279 "StoneRiver" "firstKept" "Z" ∈ tG := inG 336 (by decide +kernel) (by decide +kernel)
set_option maxRecDepth 20000 in
theorem kw_891 : Cond.fieldLink RX9 283 "StoneRiver" "secondKept" "Z" ∈ tG := inG 337 (by decide +kernel) (by decide +kernel)
set_option maxRecDepth 20000 in
theorem kw_892 : Cond.methodLink RX9 286 yX4_size ∈ tG := inG 958 (by decide +kernel) (by decide +kernel)
set_option maxRecDepth 20000 in
theorem kw_893 : Cond.constantLong RX9 287 (521) ∈ tG := inG 963 (by decide +kernel) (by decide +kernel)
set_option maxRecDepth 20000 in
theorem kw_894 : Cond.constantLong RX9 289 (31) ∈ tG := inG 964 (by decide +kernel) (by decide +kernel)
set_option maxRecDepth 20000 in
theorem kw_895 : Cond.methodLink RX9 291 yX9_count ∈ tG := inG 965 (by decide +kernel) (by decide +kernel)
set_option maxRecDepth 20000 in
theorem kw_896 : Cond.instanceMethod yX9_count ∈ tG := inG 955 (by decide +kernel) (by decide +kernel)
set_option maxRecDepth 20000 in
theorem kw_897 : Cond.selects RX9 yX9_count yX9_count ∈ tG := inG 956 (by decide +kernel) (by decide +kernel)
set_option maxRecDepth 20000 in
theorem kw_898 : Cond.code yX9_count cX9_count 2 (some .int) ∈ tG := inG 957 (by decide +kernel) (by decide +kernel)
set_option maxRecDepth 20000 in
theorem kw_899 : Cond.methodLink RX9 294 yX1_digestOn ∈ tG := inG 966 (by decide +kernel) (by decide +kernel)
set_option maxRecDepth 20000 in
theorem kw_900 : Cond.instanceMethod yX1_digestOn ∈ tG := inG 967 (by decide +kernel) (by decide +kernel)
set_option maxRecDepth 20000 in
theorem kw_901 : Cond.selects RX1 yX1_digestOn yX1_digestOn ∈ tG := inG 968 (by decide +kernel) (by decide +kernel)
set_option maxRecDepth 20000 in
theorem kw_902 : Cond.code yX1_digestOn cX1_digestOn 5 (some .long) ∈ tG := inG 969 (by decide +kernel) (by decide +kernel)
set_option maxRecDepth 20000 in
theorem kw_903 : Cond.methodLink RL 13 yX9_surface ∈ tG := inG 361 (by decide +kernel) (by decide +kernel)
set_option maxRecDepth 20000 in
theorem kw_904 : Cond.instanceMethod yX9_surface ∈ tG := inG 362 (by decide +kernel) (by decide +kernel)
set_option maxRecDepth 20000 in
theorem kw_905 : Cond.selects RX9 yX9_surface yX9_surface ∈ tG := inG 363 (by decide +kernel) (by decide +kernel)
set_option maxRecDepth 20000 in
theorem kw_906 : Cond.code yX9_surface cX9_surface 4 (some .int) ∈ tG := inG 364 (by decide +kernel) (by decide +kernel)
set_option maxRecDepth 20000 in
theorem kw_907 : Cond.methodLink RL 17 yX10_surface ∈ tG := inG 1083 (by decide +kernel) (by decide +kernel)
set_option maxRecDepth 20000 in
theorem kw_908 : Cond.instanceMethod yX10_surface ∈ tG := inG 1084 (by decide +kernel) (by decide +kernel)
set_option maxRecDepth 20000 in
theorem kw_909 : Cond.selects RX10 yX10_surface yX10_surface ∈ tG := inG 1085 (by decide +kernel) (by decide +kernel)
set_option maxRecDepth 20000 in
theorem kw_910 : Cond.code yX10_surface cX10_surface 4 (some .int) ∈ tG := inG 1086 (by decide +kernel) (by decide +kernel)
set_option maxRecDepth 20000 in
theorem kw_911 : Cond.methodLink RL 18 yX9_slope ∈ tG := inG 377 (by decide +kernel) (by decide +kernel)
set_option maxRecDepth 20000 in
theorem kw_912 : Cond.instanceMethod yX9_slope ∈ tG := inG 378 (by decide +kernel) (by decide +kernel)
set_option maxRecDepth 20000 in
theorem kw_913 : Cond.selects RX9 yX9_slope yX9_slope ∈ tG := inG 379 (by decide +kernel) (by decide +kernel)
set_option maxRecDepth 20000 in
theorem kw_914 : Cond.code yX9_slope cX9_slope 7 (some .int) ∈ tG := inG 380 (by decide +kernel) (by decide +kernel)
set_option maxRecDepth 20000 in
theorem kw_915 : Cond.methodLink RL 22 yX10_slope ∈ tG := inG 1103 (by decide +kernel) (by decide +kernel)
set_option maxRecDepth 20000 in
theorem kw_916 : Cond.instanceMethod yX10_slope ∈ tG := inG 1104 (by decide +kernel) (by decide +kernel)
set_option maxRecDepth 20000 in
theorem kw_917 : Cond.selects RX10 yX10_slope yX10_slope ∈ tG := inG 1105 (by decide +kernel) (by decide +kernel)
set_option maxRecDepth 20000 in
theorem kw_918 : Cond.code yX10_slope cX10_slope 7 (some .int) ∈ tG := inG 1106 (by decide +kernel) (by decide +kernel)
set_option maxRecDepth 20000 in
theorem kw_919 : Cond.methodLink RL 23 yX9_flow ∈ tG := inG 383 (by decide +kernel) (by decide +kernel)
set_option maxRecDepth 20000 in
theorem kw_920 : Cond.instanceMethod yX9_flow ∈ tG := inG 384 (by decide +kernel) (by decide +kernel)
set_option maxRecDepth 20000 in
theorem kw_921 : Cond.selects RX9 yX9_flow yX9_flow ∈ tG := inG 385 (by decide +kernel) (by decide +kernel)
set_option maxRecDepth 20000 in
theorem kw_922 : Cond.code yX9_flow cX9_flow 3 (some .int) ∈ tG := inG 386 (by decide +kernel) (by decide +kernel)
set_option maxRecDepth 20000 in
theorem kw_923 : Cond.methodLink RL 27 yX10_flow ∈ tG := inG 1110 (by decide +kernel) (by decide +kernel)
set_option maxRecDepth 20000 in
theorem kw_924 : Cond.instanceMethod yX10_flow ∈ tG := inG 1111 (by decide +kernel) (by decide +kernel)
set_option maxRecDepth 20000 in
theorem kw_925 : Cond.selects RX10 yX10_flow yX10_flow ∈ tG := inG 1112 (by decide +kernel) (by decide +kernel)
set_option maxRecDepth 20000 in
theorem kw_926 : Cond.code yX10_flow cX10_flow 3 (some .int) ∈ tG := inG 1113 (by decide +kernel) (by decide +kernel)
set_option maxRecDepth 20000 in
theorem kw_927 : Cond.methodLink RL 28 yX9_cliff ∈ tG := inG 400 (by decide +kernel) (by decide +kernel)
set_option maxRecDepth 20000 in
theorem kw_928 : Cond.methodLink RL 31 yX10_cliff ∈ tG := inG 1125 (by decide +kernel) (by decide +kernel)
set_option maxRecDepth 20000 in
theorem kw_929 : Cond.methodLink RL 32 yX9_boulder ∈ tG := inG 411 (by decide +kernel) (by decide +kernel)
set_option maxRecDepth 20000 in
theorem kw_930 : Cond.methodLink RL 35 yX10_boulder ∈ tG := inG 1134 (by decide +kernel) (by decide +kernel)
set_option maxRecDepth 20000 in
theorem kw_931 : Cond.methodLink RL 36 yX9_fits ∈ tG := inG 415 (by decide +kernel) (by decide +kernel)
set_option maxRecDepth 20000 in
theorem kw_932 : Cond.instanceMethod yX9_fits ∈ tG := inG 416 (by decide +kernel) (by decide +kernel)
set_option maxRecDepth 20000 in
theorem kw_933 : Cond.selects RX9 yX9_fits yX9_fits ∈ tG := inG 417 (by decide +kernel) (by decide +kernel)
set_option maxRecDepth 20000 in
theorem kw_934 : Cond.code yX9_fits cX9_fits 2 (some .int) ∈ tG := inG 418 (by decide +kernel) (by decide +kernel)
set_option maxRecDepth 20000 in
theorem kw_935 : Cond.methodLink RL 40 yX10_fits ∈ tG := inG 1138 (by decide +kernel) (by decide +kernel)
set_option maxRecDepth 20000 in
theorem kw_936 : Cond.instanceMethod yX10_fits ∈ tG := inG 1139 (by decide +kernel) (by decide +kernel)
set_option maxRecDepth 20000 in
theorem kw_937 : Cond.selects RX10 yX10_fits yX10_fits ∈ tG := inG 1140 (by decide +kernel) (by decide +kernel)
set_option maxRecDepth 20000 in
theorem kw_938 : Cond.code yX10_fits cX10_fits 4 (some .int) ∈ tG := inG 1141 (by decide +kernel) (by decide +kernel)
set_option maxRecDepth 20000 in
theorem kw_939 : Cond.methodLink RL 41 yX9_steps ∈ tG := inG 458 (by decide +kernel) (by decide +kernel)
set_option maxRecDepth 20000 in
theorem kw_940 : Cond.instanceMethod yX9_steps ∈ tG := inG 459 (by decide +kernel) (by decide +kernel)
set_option maxRecDepth 20000 in
theorem kw_941 : Cond.selects RX9 yX9_steps yX9_steps ∈ tG := inG 460 (by decide +kernel) (by decide +kernel)
set_option maxRecDepth 20000 in
theorem kw_942 : Cond.code yX9_steps cX9_steps 3 (some .int) ∈ tG := inG 461 (by decide +kernel) (by decide +kernel)
set_option maxRecDepth 20000 in
theorem kw_943 : Cond.methodLink RL 44 yX10_steps ∈ tG := inG 1163 (by decide +kernel) (by decide +kernel)
set_option maxRecDepth 20000 in
theorem kw_944 : Cond.instanceMethod yX10_steps ∈ tG := inG 1164 (by decide +kernel) (by decide +kernel)
set_option maxRecDepth 20000 in
theorem kw_945 : Cond.selects RX10 yX10_steps yX10_steps ∈ tG := inG 1165 (by decide +kernel) (by decide +kernel)
set_option maxRecDepth 20000 in
theorem kw_946 : Cond.code yX10_steps cX10_steps 3 (some .int) ∈ tG := inG 1166 (by decide +kernel) (by decide +kernel)
set_option maxRecDepth 20000 in
theorem kw_947 : Cond.methodLink RL 45 yX9_home ∈ tG := inG 466 (by decide +kernel) (by decide +kernel)
set_option maxRecDepth 20000 in
theorem kw_948 : Cond.instanceMethod yX9_home ∈ tG := inG 467 (by decide +kernel) (by decide +kernel)
set_option maxRecDepth 20000 in
theorem kw_949 : Cond.selects RX9 yX9_home yX9_home ∈ tG := inG 468 (by decide +kernel) (by decide +kernel)
set_option maxRecDepth 20000 in
theorem kw_950 : Cond.code yX9_home cX9_home 2 (some .int) ∈ tG := inG 469 (by decide +kernel) (by decide +kernel)
set_option maxRecDepth 20000 in
theorem kw_951 : Cond.methodLink RL 48 yX10_home ∈ tG := inG 1167 (by decide +kernel) (by decide +kernel)
set_option maxRecDepth 20000 in
theorem kw_952 : Cond.instanceMethod yX10_home ∈ tG := inG 1168 (by decide +kernel) (by decide +kernel)
set_option maxRecDepth 20000 in
theorem kw_953 : Cond.selects RX10 yX10_home yX10_home ∈ tG := inG 1169 (by decide +kernel) (by decide +kernel)
set_option maxRecDepth 20000 in
theorem kw_954 : Cond.code yX10_home cX10_home 6 (some .int) ∈ tG := inG 1170 (by decide +kernel) (by decide +kernel)
set_option maxRecDepth 20000 in
theorem kw_955 : Cond.methodLink RL 49 yX9_upstream ∈ tG := inG 474 (by decide +kernel) (by decide +kernel)
set_option maxRecDepth 20000 in
theorem kw_956 : Cond.instanceMethod yX9_upstream ∈ tG := inG 475 (by decide +kernel) (by decide +kernel)
set_option maxRecDepth 20000 in
theorem kw_957 : Cond.selects RX9 yX9_upstream yX9_upstream ∈ tG := inG 476 (by decide +kernel) (by decide +kernel)
set_option maxRecDepth 20000 in
theorem kw_958 : Cond.code yX9_upstream cX9_upstream 2 (some .int) ∈ tG := inG 477 (by decide +kernel) (by decide +kernel)
set_option maxRecDepth 20000 in
theorem kw_959 : Cond.methodLink RL 52 yX10_upstream ∈ tG := inG 1171 (by decide +kernel) (by decide +kernel)
set_option maxRecDepth 20000 in
theorem kw_960 : Cond.instanceMethod yX10_upstream ∈ tG := inG 1172 (by decide +kernel) (by decide +kernel)
set_option maxRecDepth 20000 in
theorem kw_961 : Cond.selects RX10 yX10_upstream yX10_upstream ∈ tG := inG 1173 (by decide +kernel) (by decide +kernel)
set_option maxRecDepth 20000 in
theorem kw_962 : Cond.code yX10_upstream cX10_upstream 4 (some .int) ∈ tG := inG 1174 (by decide +kernel) (by decide +kernel)
set_option maxRecDepth 20000 in
theorem kw_963 : Cond.methodLink RL 53 yX9_scratch ∈ tG := inG 482 (by decide +kernel) (by decide +kernel)
set_option maxRecDepth 20000 in
theorem kw_964 : Cond.methodLink RL 56 yX10_scratch ∈ tG := inG 1175 (by decide +kernel) (by decide +kernel)
set_option maxRecDepth 20000 in
theorem kw_965 : Cond.methodLink RL 57 yX9_put ∈ tG := inG 486 (by decide +kernel) (by decide +kernel)
set_option maxRecDepth 20000 in
theorem kw_966 : Cond.instanceMethod yX9_put ∈ tG := inG 487 (by decide +kernel) (by decide +kernel)
set_option maxRecDepth 20000 in
theorem kw_967 : Cond.selects RX9 yX9_put yX9_put ∈ tG := inG 488 (by decide +kernel) (by decide +kernel)
set_option maxRecDepth 20000 in
theorem kw_968 : Cond.code yX9_put cX9_put 3 (some .int) ∈ tG := inG 489 (by decide +kernel) (by decide +kernel)
set_option maxRecDepth 20000 in
theorem kw_969 : Cond.methodLink RL 60 yX10_put ∈ tG := inG 1180 (by decide +kernel) (by decide +kernel)
set_option maxRecDepth 20000 in
theorem kw_970 : Cond.instanceMethod yX10_put ∈ tG := inG 1181 (by decide +kernel) (by decide +kernel)
set_option maxRecDepth 20000 in
theorem kw_971 : Cond.selects RX10 yX10_put yX10_put ∈ tG := inG 1182 (by decide +kernel) (by decide +kernel)
set_option maxRecDepth 20000 in
theorem kw_972 : Cond.code yX10_put cX10_put 4 (some .int) ∈ tG := inG 1183 (by decide +kernel) (by decide +kernel)
set_option maxRecDepth 20000 in
theorem kw_973 : Cond.methodLink RL 61 yX9_may ∈ tG := inG 498 (by decide +kernel) (by decide +kernel)
set_option maxRecDepth 20000 in
theorem kw_974 : Cond.instanceMethod yX9_may ∈ tG := inG 499 (by decide +kernel) (by decide +kernel)
set_option maxRecDepth 20000 in
theorem kw_975 : Cond.selects RX9 yX9_may yX9_may ∈ tG := inG 500 (by decide +kernel) (by decide +kernel)
set_option maxRecDepth 20000 in
theorem kw_976 : Cond.code yX9_may cX9_may 2 (some .int) ∈ tG := inG 501 (by decide +kernel) (by decide +kernel)
set_option maxRecDepth 20000 in
theorem kw_977 : Cond.methodLink RL 64 yX10_may ∈ tG := inG 1187 (by decide +kernel) (by decide +kernel)
set_option maxRecDepth 20000 in
theorem kw_978 : Cond.instanceMethod yX10_may ∈ tG := inG 1188 (by decide +kernel) (by decide +kernel)
set_option maxRecDepth 20000 in
theorem kw_979 : Cond.selects RX10 yX10_may yX10_may ∈ tG := inG 1189 (by decide +kernel) (by decide +kernel)
set_option maxRecDepth 20000 in
theorem kw_980 : Cond.code yX10_may cX10_may 2 (some .int) ∈ tG := inG 1190 (by decide +kernel) (by decide +kernel)
set_option maxRecDepth 20000 in
theorem kw_981 : Cond.methodLink RL 65 yX9_laid ∈ tG := inG 514 (by decide +kernel) (by decide +kernel)
set_option maxRecDepth 20000 in
theorem kw_982 : Cond.instanceMethod yX9_laid ∈ tG := inG 515 (by decide +kernel) (by decide +kernel)
set_option maxRecDepth 20000 in
theorem kw_983 : Cond.selects RX9 yX9_laid yX9_laid ∈ tG := inG 516 (by decide +kernel) (by decide +kernel)
set_option maxRecDepth 20000 in
theorem kw_984 : Cond.code yX9_laid cX9_laid 2 (some .int) ∈ tG := inG 517 (by decide +kernel) (by decide +kernel)
set_option maxRecDepth 20000 in
theorem kw_985 : Cond.methodLink RL 68 yX10_laid ∈ tG := inG 1195 (by decide +kernel) (by decide +kernel)
set_option maxRecDepth 20000 in
theorem kw_986 : Cond.instanceMethod yX10_laid ∈ tG := inG 1196 (by decide +kernel) (by decide +kernel)
set_option maxRecDepth 20000 in
theorem kw_987 : Cond.selects RX10 yX10_laid yX10_laid ∈ tG := inG 1197 (by decide +kernel) (by decide +kernel)
set_option maxRecDepth 20000 in
theorem kw_988 : Cond.code yX10_laid cX10_laid 3 (some .int) ∈ tG := inG 1198 (by decide +kernel) (by decide +kernel)
set_option maxRecDepth 20000 in
theorem kw_989 : Cond.methodLink RL 69 yX9_ridge ∈ tG := inG 540 (by decide +kernel) (by decide +kernel)
set_option maxRecDepth 20000 in
theorem kw_990 : Cond.methodLink RL 73 yX10_ridge ∈ tG := inG 1207 (by decide +kernel) (by decide +kernel)
set_option maxRecDepth 20000 in
theorem kw_991 : Cond.methodLink RL 74 yX9_fact ∈ tG := inG 544 (by decide +kernel) (by decide +kernel)
set_option maxRecDepth 20000 in
theorem kw_992 : Cond.methodLink RL 78 yX10_fact ∈ tG := inG 1211 (by decide +kernel) (by decide +kernel)
set_option maxRecDepth 20000 in
theorem kw_993 : Cond.methodLink RL 79 yX9_age ∈ tG := inG 556 (by decide +kernel) (by decide +kernel)
set_option maxRecDepth 20000 in
theorem kw_994 : Cond.instanceMethod yX9_age ∈ tG := inG 557 (by decide +kernel) (by decide +kernel)
set_option maxRecDepth 20000 in
theorem kw_995 : Cond.selects RX9 yX9_age yX9_age ∈ tG := inG 558 (by decide +kernel) (by decide +kernel)
set_option maxRecDepth 20000 in
theorem kw_996 : Cond.code yX9_age cX9_age 4 (some .int) ∈ tG := inG 559 (by decide +kernel) (by decide +kernel)
set_option maxRecDepth 20000 in
theorem kw_997 : Cond.methodLink RL 82 yX10_age ∈ tG := inG 1220 (by decide +kernel) (by decide +kernel)
set_option maxRecDepth 20000 in
theorem kw_998 : Cond.instanceMethod yX10_age ∈ tG := inG 1221 (by decide +kernel) (by decide +kernel)
set_option maxRecDepth 20000 in
theorem kw_999 : Cond.selects RX10 yX10_age yX10_age ∈ tG := inG 1222 (by decide +kernel) (by decide +kernel)
set_option maxRecDepth 20000 in
theorem kw_1000 : Cond.code yX10_age cX10_age 4 (some .int) ∈ tG := inG 1223 (by decide +kernel) (by decide +kernel)
set_option maxRecDepth 20000 in
theorem kw_1001 : Cond.methodLink RL 83 yX9_fewest ∈ tG := inG 598 (by decide +kernel) (by decide +kernel)
set_option maxRecDepth 20000 in
theorem kw_1002 : Cond.instanceMethod yX9_fewest ∈ tG := inG 599 (by decide +kernel) (by decide +kernel)
set_option maxRecDepth 20000 in
theorem kw_1003 : Cond.selects RX9 yX9_fewest yX9_fewest ∈ tG := inG 600 (by decide +kernel) (by decide +kernel)
set_option maxRecDepth 20000 in
theorem kw_1004 : Cond.code yX9_fewest cX9_fewest 1 (some .int) ∈ tG := inG 601 (by decide +kernel) (by decide +kernel)
set_option maxRecDepth 20000 in
theorem kw_1005 : Cond.methodLink RL 86 yX10_fewest ∈ tG := inG 1248 (by decide +kernel) (by decide +kernel)
set_option maxRecDepth 20000 in
theorem kw_1006 : Cond.instanceMethod yX10_fewest ∈ tG := inG 1249 (by decide +kernel) (by decide +kernel)
set_option maxRecDepth 20000 in
theorem kw_1007 : Cond.selects RX10 yX10_fewest yX10_fewest ∈ tG := inG 1250 (by decide +kernel) (by decide +kernel)
set_option maxRecDepth 20000 in
theorem kw_1008 : Cond.code yX10_fewest cX10_fewest 1 (some .int) ∈ tG := inG 1251 (by decide +kernel) (by decide +kernel)
set_option maxRecDepth 20000 in
theorem kw_1009 : Cond.methodLink RL 87 yX9_sure ∈ tG := inG 625 (by decide +kernel) (by decide +kernel)
set_option maxRecDepth 20000 in
theorem kw_1010 : Cond.instanceMethod yX9_sure ∈ tG := inG 626 (by decide +kernel) (by decide +kernel)
set_option maxRecDepth 20000 in
theorem kw_1011 : Cond.selects RX9 yX9_sure yX9_sure ∈ tG := inG 627 (by decide +kernel) (by decide +kernel)
set_option maxRecDepth 20000 in
theorem kw_1012 : Cond.code yX9_sure cX9_sure 3 (some .int) ∈ tG := inG 628 (by decide +kernel) (by decide +kernel)
set_option maxRecDepth 20000 in
theorem kw_1013 : Cond.methodLink RL 90 yX10_sure ∈ tG := inG 1263 (by decide +kernel) (by decide +kernel)
set_option maxRecDepth 20000 in
theorem kw_1014 : Cond.instanceMethod yX10_sure ∈ tG := inG 1264 (by decide +kernel) (by decide +kernel)
set_option maxRecDepth 20000 in
theorem kw_1015 : Cond.selects RX10 yX10_sure yX10_sure ∈ tG := inG 1265 (by decide +kernel) (by decide +kernel)
set_option maxRecDepth 20000 in
theorem kw_1016 : Cond.code yX10_sure cX10_sure 4 (some .int) ∈ tG := inG 1266 (by decide +kernel) (by decide +kernel)
set_option maxRecDepth 20000 in
theorem kw_1017 : Cond.methodLink RL 91 yX9_core ∈ tG := inG 649 (by decide +kernel) (by decide +kernel)
set_option maxRecDepth 20000 in
theorem kw_1018 : Cond.instanceMethod yX9_core ∈ tG := inG 650 (by decide +kernel) (by decide +kernel)
set_option maxRecDepth 20000 in
theorem kw_1019 : Cond.selects RX9 yX9_core yX9_core ∈ tG := inG 651 (by decide +kernel) (by decide +kernel)
set_option maxRecDepth 20000 in
theorem kw_1020 : Cond.code yX9_core cX9_core 1 (some .int) ∈ tG := inG 652 (by decide +kernel) (by decide +kernel)
set_option maxRecDepth 20000 in
theorem kw_1021 : Cond.methodLink RL 94 yX10_core ∈ tG := inG 1267 (by decide +kernel) (by decide +kernel)
set_option maxRecDepth 20000 in
theorem kw_1022 : Cond.instanceMethod yX10_core ∈ tG := inG 1268 (by decide +kernel) (by decide +kernel)
set_option maxRecDepth 20000 in
theorem kw_1023 : Cond.selects RX10 yX10_core yX10_core ∈ tG := inG 1269 (by decide +kernel) (by decide +kernel)
set_option maxRecDepth 20000 in
theorem kw_1024 : Cond.code yX10_core cX10_core 12 (some .int) ∈ tG := inG 1270 (by decide +kernel) (by decide +kernel)
set_option maxRecDepth 20000 in
theorem kw_1025 : Cond.methodLink RL 95 yX9_parted ∈ tG := inG 661 (by decide +kernel) (by decide +kernel)
set_option maxRecDepth 20000 in
theorem kw_1026 : Cond.instanceMethod yX9_parted ∈ tG := inG 662 (by decide +kernel) (by decide +kernel)
set_option maxRecDepth 20000 in
theorem kw_1027 : Cond.selects RX9 yX9_parted yX9_parted ∈ tG := inG 663 (by decide +kernel) (by decide +kernel)
set_option maxRecDepth 20000 in
theorem kw_1028 : Cond.code yX9_parted cX9_parted 1 (some .int) ∈ tG := inG 664 (by decide +kernel) (by decide +kernel)
set_option maxRecDepth 20000 in
theorem kw_1029 : Cond.methodLink RL 98 yX10_parted ∈ tG := inG 1271 (by decide +kernel) (by decide +kernel)
set_option maxRecDepth 20000 in
theorem kw_1030 : Cond.instanceMethod yX10_parted ∈ tG := inG 1272 (by decide +kernel) (by decide +kernel)
set_option maxRecDepth 20000 in
theorem kw_1031 : Cond.selects RX10 yX10_parted yX10_parted ∈ tG := inG 1273 (by decide +kernel) (by decide +kernel)
set_option maxRecDepth 20000 in
theorem kw_1032 : Cond.code yX10_parted cX10_parted 3 (some .int) ∈ tG := inG 1274 (by decide +kernel) (by decide +kernel)
set_option maxRecDepth 20000 in
theorem kw_1033 : Cond.methodLink RL 99 yX9_sign ∈ tG := inG 673 (by decide +kernel) (by decide +kernel)
set_option maxRecDepth 20000 in
theorem kw_1034 : Cond.methodLink RL 102 yX10_sign ∈ tG := inG 1279 (by decide +kernel) (by decide +kernel)
set_option maxRecDepth 20000 in
theorem kw_1035 : Cond.methodLink RL 103 yX9_stand ∈ tG := inG 682 (by decide +kernel) (by decide +kernel)
set_option maxRecDepth 20000 in
theorem kw_1036 : Cond.instanceMethod yX9_stand ∈ tG := inG 683 (by decide +kernel) (by decide +kernel)
set_option maxRecDepth 20000 in
theorem kw_1037 : Cond.selects RX9 yX9_stand yX9_stand ∈ tG := inG 684 (by decide +kernel) (by decide +kernel)
set_option maxRecDepth 20000 in
theorem kw_1038 : Cond.code yX9_stand cX9_stand 2 (some .int) ∈ tG := inG 685 (by decide +kernel) (by decide +kernel)
set_option maxRecDepth 20000 in
theorem kw_1039 : Cond.methodLink RL 106 yX10_stand ∈ tG := inG 1288 (by decide +kernel) (by decide +kernel)
set_option maxRecDepth 20000 in
theorem kw_1040 : Cond.instanceMethod yX10_stand ∈ tG := inG 1289 (by decide +kernel) (by decide +kernel)
set_option maxRecDepth 20000 in
theorem kw_1041 : Cond.selects RX10 yX10_stand yX10_stand ∈ tG := inG 1290 (by decide +kernel) (by decide +kernel)
set_option maxRecDepth 20000 in
theorem kw_1042 : Cond.code yX10_stand cX10_stand 11 (some .int) ∈ tG := inG 1291 (by decide +kernel) (by decide +kernel)
set_option maxRecDepth 20000 in
theorem kw_1043 : Cond.methodLink RL 107 yX9_area ∈ tG := inG 734 (by decide +kernel) (by decide +kernel)
set_option maxRecDepth 20000 in
theorem kw_1044 : Cond.instanceMethod yX9_area ∈ tG := inG 735 (by decide +kernel) (by decide +kernel)
set_option maxRecDepth 20000 in
theorem kw_1045 : Cond.selects RX9 yX9_area yX9_area ∈ tG := inG 736 (by decide +kernel) (by decide +kernel)
set_option maxRecDepth 20000 in
theorem kw_1046 : Cond.code yX9_area cX9_area 3 (some .int) ∈ tG := inG 737 (by decide +kernel) (by decide +kernel)
set_option maxRecDepth 20000 in
theorem kw_1047 : Cond.methodLink RL 110 yX10_area ∈ tG := inG 1308 (by decide +kernel) (by decide +kernel)
set_option maxRecDepth 20000 in
theorem kw_1048 : Cond.instanceMethod yX10_area ∈ tG := inG 1309 (by decide +kernel) (by decide +kernel)
set_option maxRecDepth 20000 in
theorem kw_1049 : Cond.selects RX10 yX10_area yX10_area ∈ tG := inG 1310 (by decide +kernel) (by decide +kernel)
set_option maxRecDepth 20000 in
theorem kw_1050 : Cond.code yX10_area cX10_area 3 (some .int) ∈ tG := inG 1311 (by decide +kernel) (by decide +kernel)
set_option maxRecDepth 20000 in
theorem kw_1051 : Cond.methodLink RL 111 yX9_lake ∈ tG := inG 741 (by decide +kernel) (by decide +kernel)
set_option maxRecDepth 20000 in
theorem kw_1052 : Cond.instanceMethod yX9_lake ∈ tG := inG 742 (by decide +kernel) (by decide +kernel)
set_option maxRecDepth 20000 in
theorem kw_1053 : Cond.selects RX9 yX9_lake yX9_lake ∈ tG := inG 743 (by decide +kernel) (by decide +kernel)
set_option maxRecDepth 20000 in
theorem kw_1054 : Cond.code yX9_lake cX9_lake 4 (some .int) ∈ tG := inG 744 (by decide +kernel) (by decide +kernel)
set_option maxRecDepth 20000 in
theorem kw_1055 : Cond.methodLink RL 114 yX10_lake ∈ tG := inG 1313 (by decide +kernel) (by decide +kernel)
set_option maxRecDepth 20000 in
theorem kw_1056 : Cond.instanceMethod yX10_lake ∈ tG := inG 1314 (by decide +kernel) (by decide +kernel)
set_option maxRecDepth 20000 in
theorem kw_1057 : Cond.selects RX10 yX10_lake yX10_lake ∈ tG := inG 1315 (by decide +kernel) (by decide +kernel)
set_option maxRecDepth 20000 in
theorem kw_1058 : Cond.code yX10_lake cX10_lake 4 (some .int) ∈ tG := inG 1316 (by decide +kernel) (by decide +kernel)
set_option maxRecDepth 20000 in
theorem kw_1059 : Cond.methodLink RL 115 yX9_shore ∈ tG := inG 775 (by decide +kernel) (by decide +kernel)
set_option maxRecDepth 20000 in
theorem kw_1060 : Cond.instanceMethod yX9_shore ∈ tG := inG 776 (by decide +kernel) (by decide +kernel)
set_option maxRecDepth 20000 in
theorem kw_1061 : Cond.selects RX9 yX9_shore yX9_shore ∈ tG := inG 777 (by decide +kernel) (by decide +kernel)
set_option maxRecDepth 20000 in
theorem kw_1062 : Cond.code yX9_shore cX9_shore 6 (some .int) ∈ tG := inG 778 (by decide +kernel) (by decide +kernel)
set_option maxRecDepth 20000 in
theorem kw_1063 : Cond.methodLink RL 118 yX10_shore ∈ tG := inG 1328 (by decide +kernel) (by decide +kernel)
set_option maxRecDepth 20000 in
theorem kw_1064 : Cond.instanceMethod yX10_shore ∈ tG := inG 1329 (by decide +kernel) (by decide +kernel)
set_option maxRecDepth 20000 in
theorem kw_1065 : Cond.selects RX10 yX10_shore yX10_shore ∈ tG := inG 1330 (by decide +kernel) (by decide +kernel)
set_option maxRecDepth 20000 in
theorem kw_1066 : Cond.code yX10_shore cX10_shore 7 (some .int) ∈ tG := inG 1331 (by decide +kernel) (by decide +kernel)
set_option maxRecDepth 20000 in
theorem kw_1067 : Cond.methodLink RL 119 yX9_zone ∈ tG := inG 779 (by decide +kernel) (by decide +kernel)
set_option maxRecDepth 20000 in
theorem kw_1068 : Cond.instanceMethod yX9_zone ∈ tG := inG 780 (by decide +kernel) (by decide +kernel)
set_option maxRecDepth 20000 in
theorem kw_1069 : Cond.selects RX9 yX9_zone yX9_zone ∈ tG := inG 781 (by decide +kernel) (by decide +kernel)
set_option maxRecDepth 20000 in
theorem kw_1070 : Cond.code yX9_zone cX9_zone 3 (some .int) ∈ tG := inG 782 (by decide +kernel) (by decide +kernel)
set_option maxRecDepth 20000 in
theorem kw_1071 : Cond.methodLink RL 122 yX10_zone ∈ tG := inG 1332 (by decide +kernel) (by decide +kernel)
set_option maxRecDepth 20000 in
theorem kw_1072 : Cond.instanceMethod yX10_zone ∈ tG := inG 1333 (by decide +kernel) (by decide +kernel)
set_option maxRecDepth 20000 in
theorem kw_1073 : Cond.selects RX10 yX10_zone yX10_zone ∈ tG := inG 1334 (by decide +kernel) (by decide +kernel)
set_option maxRecDepth 20000 in
theorem kw_1074 : Cond.code yX10_zone cX10_zone 3 (some .int) ∈ tG := inG 1335 (by decide +kernel) (by decide +kernel)
set_option maxRecDepth 20000 in
theorem kw_1075 : Cond.methodLink RL 123 yX9_ice ∈ tG := inG 789 (by decide +kernel) (by decide +kernel)
set_option maxRecDepth 20000 in
theorem kw_1076 : Cond.instanceMethod yX9_ice ∈ tG := inG 790 (by decide +kernel) (by decide +kernel)
set_option maxRecDepth 20000 in
theorem kw_1077 : Cond.selects RX9 yX9_ice yX9_ice ∈ tG := inG 791 (by decide +kernel) (by decide +kernel)
set_option maxRecDepth 20000 in
theorem kw_1078 : Cond.code yX9_ice cX9_ice 3 (some .int) ∈ tG := inG 792 (by decide +kernel) (by decide +kernel)
set_option maxRecDepth 20000 in
theorem kw_1079 : Cond.methodLink RL 126 yX10_ice ∈ tG := inG 1337 (by decide +kernel) (by decide +kernel)
set_option maxRecDepth 20000 in
theorem kw_1080 : Cond.instanceMethod yX10_ice ∈ tG := inG 1338 (by decide +kernel) (by decide +kernel)
set_option maxRecDepth 20000 in
theorem kw_1081 : Cond.selects RX10 yX10_ice yX10_ice ∈ tG := inG 1339 (by decide +kernel) (by decide +kernel)
set_option maxRecDepth 20000 in
theorem kw_1082 : Cond.code yX10_ice cX10_ice 3 (some .int) ∈ tG := inG 1340 (by decide +kernel) (by decide +kernel)
set_option maxRecDepth 20000 in
theorem kw_1083 : Cond.methodLink RL 127 yX9_warm ∈ tG := inG 797 (by decide +kernel) (by decide +kernel)
set_option maxRecDepth 20000 in
theorem kw_1084 : Cond.instanceMethod yX9_warm ∈ tG := inG 798 (by decide +kernel) (by decide +kernel)
set_option maxRecDepth 20000 in
theorem kw_1085 : Cond.selects RX9 yX9_warm yX9_warm ∈ tG := inG 799 (by decide +kernel) (by decide +kernel)
set_option maxRecDepth 20000 in
theorem kw_1086 : Cond.code yX9_warm cX9_warm 4 (some .int) ∈ tG := inG 800 (by decide +kernel) (by decide +kernel)
set_option maxRecDepth 20000 in
theorem kw_1087 : Cond.methodLink RL 130 yX10_warm ∈ tG := inG 1348 (by decide +kernel) (by decide +kernel)
set_option maxRecDepth 20000 in
theorem kw_1088 : Cond.instanceMethod yX10_warm ∈ tG := inG 1349 (by decide +kernel) (by decide +kernel)
set_option maxRecDepth 20000 in
theorem kw_1089 : Cond.selects RX10 yX10_warm yX10_warm ∈ tG := inG 1350 (by decide +kernel) (by decide +kernel)
set_option maxRecDepth 20000 in
theorem kw_1090 : Cond.code yX10_warm cX10_warm 6 (some .int) ∈ tG := inG 1351 (by decide +kernel) (by decide +kernel)
set_option maxRecDepth 20000 in
theorem kw_1091 : Cond.constantLong RL 131 (4294967295) ∈ tG := inG 1439 (by decide +kernel) (by decide +kernel)
set_option maxRecDepth 20000 in
theorem kw_1092 : Cond.methodLink RL 133 yX9_type ∈ tG := inG 808 (by decide +kernel) (by decide +kernel)
set_option maxRecDepth 20000 in
theorem kw_1093 : Cond.instanceMethod yX9_type ∈ tG := inG 809 (by decide +kernel) (by decide +kernel)
set_option maxRecDepth 20000 in
theorem kw_1094 : Cond.selects RX9 yX9_type yX9_type ∈ tG := inG 810 (by decide +kernel) (by decide +kernel)
set_option maxRecDepth 20000 in
theorem kw_1095 : Cond.code yX9_type cX9_type 4 (some .int) ∈ tG := inG 811 (by decide +kernel) (by decide +kernel)
set_option maxRecDepth 20000 in
theorem kw_1096 : Cond.methodLink RL 137 yX10_type ∈ tG := inG 1352 (by decide +kernel) (by decide +kernel)
set_option maxRecDepth 20000 in
theorem kw_1097 : Cond.instanceMethod yX10_type ∈ tG := inG 1353 (by decide +kernel) (by decide +kernel)
set_option maxRecDepth 20000 in
theorem kw_1098 : Cond.selects RX10 yX10_type yX10_type ∈ tG := inG 1354 (by decide +kernel) (by decide +kernel)
set_option maxRecDepth 20000 in
theorem kw_1099 : Cond.code yX10_type cX10_type 5 (some .int) ∈ tG := inG 1355 (by decide +kernel) (by decide +kernel)
set_option maxRecDepth 20000 in
theorem kw_1100 : Cond.methodLink RL 138 yX9_clear ∈ tG := inG 817 (by decide +kernel) (by decide +kernel)
set_option maxRecDepth 20000 in
theorem kw_1101 : Cond.instanceMethod yX9_clear ∈ tG := inG 818 (by decide +kernel) (by decide +kernel)
set_option maxRecDepth 20000 in
theorem kw_1102 : Cond.selects RX9 yX9_clear yX9_clear ∈ tG := inG 819 (by decide +kernel) (by decide +kernel)
set_option maxRecDepth 20000 in
theorem kw_1103 : Cond.code yX9_clear cX9_clear 2 (some .int) ∈ tG := inG 820 (by decide +kernel) (by decide +kernel)
set_option maxRecDepth 20000 in
theorem kw_1104 : Cond.methodLink RL 141 yX10_clear ∈ tG := inG 1358 (by decide +kernel) (by decide +kernel)
set_option maxRecDepth 20000 in
theorem kw_1105 : Cond.instanceMethod yX10_clear ∈ tG := inG 1359 (by decide +kernel) (by decide +kernel)
set_option maxRecDepth 20000 in
theorem kw_1106 : Cond.selects RX10 yX10_clear yX10_clear ∈ tG := inG 1360 (by decide +kernel) (by decide +kernel)
set_option maxRecDepth 20000 in
theorem kw_1107 : Cond.code yX10_clear cX10_clear 2 (some .int) ∈ tG := inG 1361 (by decide +kernel) (by decide +kernel)
set_option maxRecDepth 20000 in
theorem kw_1108 : Cond.methodLink RL 142 yX9_fault ∈ tG := inG 829 (by decide +kernel) (by decide +kernel)
set_option maxRecDepth 20000 in
theorem kw_1109 : Cond.instanceMethod yX9_fault ∈ tG := inG 830 (by decide +kernel) (by decide +kernel)
set_option maxRecDepth 20000 in
theorem kw_1110 : Cond.selects RX9 yX9_fault yX9_fault ∈ tG := inG 831 (by decide +kernel) (by decide +kernel)
set_option maxRecDepth 20000 in
theorem kw_1111 : Cond.code yX9_fault cX9_fault 1 (some .int) ∈ tG := inG 832 (by decide +kernel) (by decide +kernel)
set_option maxRecDepth 20000 in
theorem kw_1112 : Cond.methodLink RL 145 yX10_fault ∈ tG := inG 1362 (by decide +kernel) (by decide +kernel)
set_option maxRecDepth 20000 in
theorem kw_1113 : Cond.instanceMethod yX10_fault ∈ tG := inG 1363 (by decide +kernel) (by decide +kernel)
set_option maxRecDepth 20000 in
theorem kw_1114 : Cond.selects RX10 yX10_fault yX10_fault ∈ tG := inG 1364 (by decide +kernel) (by decide +kernel)
set_option maxRecDepth 20000 in
theorem kw_1115 : Cond.code yX10_fault cX10_fault 1 (some .int) ∈ tG := inG 1365 (by decide +kernel) (by decide +kernel)
set_option maxRecDepth 20000 in
theorem kw_1116 : Cond.methodLink RL 146 yX9_read ∈ tG := inG 912 (by decide +kernel) (by decide +kernel)
set_option maxRecDepth 20000 in
theorem kw_1117 : Cond.instanceMethod yX9_read ∈ tG := inG 913 (by decide +kernel) (by decide +kernel)
set_option maxRecDepth 20000 in
theorem kw_1118 : Cond.selects RX9 yX9_read yX9_read ∈ tG := inG 914 (by decide +kernel) (by decide +kernel)
set_option maxRecDepth 20000 in
theorem kw_1119 : Cond.code yX9_read cX9_read 3 (some .int) ∈ tG := inG 915 (by decide +kernel) (by decide +kernel)
set_option maxRecDepth 20000 in
theorem kw_1120 : Cond.methodLink RL 149 yX10_read ∈ tG := inG 1398 (by decide +kernel) (by decide +kernel)
set_option maxRecDepth 20000 in
theorem kw_1121 : Cond.instanceMethod yX10_read ∈ tG := inG 1399 (by decide +kernel) (by decide +kernel)
set_option maxRecDepth 20000 in
theorem kw_1122 : Cond.selects RX10 yX10_read yX10_read ∈ tG := inG 1400 (by decide +kernel) (by decide +kernel)
set_option maxRecDepth 20000 in
theorem kw_1123 : Cond.code yX10_read cX10_read 3 (some .int) ∈ tG := inG 1401 (by decide +kernel) (by decide +kernel)
set_option maxRecDepth 20000 in
theorem kw_1124 : Cond.methodLink RL 150 yX9_image ∈ tG := inG 942 (by decide +kernel) (by decide +kernel)
set_option maxRecDepth 20000 in
theorem kw_1125 : Cond.instanceMethod yX9_image ∈ tG := inG 943 (by decide +kernel) (by decide +kernel)
set_option maxRecDepth 20000 in
theorem kw_1126 : Cond.selects RX9 yX9_image yX9_image ∈ tG := inG 944 (by decide +kernel) (by decide +kernel)
set_option maxRecDepth 20000 in
theorem kw_1127 : Cond.code yX9_image cX9_image 2 (some .int) ∈ tG := inG 945 (by decide +kernel) (by decide +kernel)
set_option maxRecDepth 20000 in
theorem kw_1128 : Cond.methodLink RL 153 yX10_image ∈ tG := inG 1412 (by decide +kernel) (by decide +kernel)
set_option maxRecDepth 20000 in
theorem kw_1129 : Cond.instanceMethod yX10_image ∈ tG := inG 1413 (by decide +kernel) (by decide +kernel)
set_option maxRecDepth 20000 in
theorem kw_1130 : Cond.selects RX10 yX10_image yX10_image ∈ tG := inG 1414 (by decide +kernel) (by decide +kernel)
set_option maxRecDepth 20000 in
theorem kw_1131 : Cond.code yX10_image cX10_image 3 (some .int) ∈ tG := inG 1415 (by decide +kernel) (by decide +kernel)
set_option maxRecDepth 20000 in
theorem kw_1132 : Cond.methodLink RL 154 yX9_from ∈ tG := inG 950 (by decide +kernel) (by decide +kernel)
set_option maxRecDepth 20000 in
theorem kw_1133 : Cond.instanceMethod yX9_from ∈ tG := inG 951 (by decide +kernel) (by decide +kernel)
set_option maxRecDepth 20000 in
theorem kw_1134 : Cond.selects RX9 yX9_from yX9_from ∈ tG := inG 952 (by decide +kernel) (by decide +kernel)
set_option maxRecDepth 20000 in
theorem kw_1135 : Cond.code yX9_from cX9_from 2 (some .int) ∈ tG := inG 953 (by decide +kernel) (by decide +kernel)
set_option maxRecDepth 20000 in
theorem kw_1136 : Cond.methodLink RL 157 yX10_from ∈ tG := inG 1416 (by decide +kernel) (by decide +kernel)
set_option maxRecDepth 20000 in
theorem kw_1137 : Cond.instanceMethod yX10_from ∈ tG := inG 1417 (by decide +kernel) (by decide +kernel)
set_option maxRecDepth 20000 in
theorem kw_1138 : Cond.selects RX10 yX10_from yX10_from ∈ tG := inG 1418 (by decide +kernel) (by decide +kernel)
set_option maxRecDepth 20000 in
theorem kw_1139 : Cond.code yX10_from cX10_from 3 (some .int) ∈ tG := inG 1419 (by decide +kernel) (by decide +kernel)
set_option maxRecDepth 20000 in
theorem kw_1140 : Cond.methodLink RL 158 yX9_count ∈ tG := inG 954 (by decide +kernel) (by decide +kernel)
set_option maxRecDepth 20000 in
theorem kw_1141 : Cond.methodLink RL 161 yX10_count ∈ tG := inG 1420 (by decide +kernel) (by decide +kernel)
set_option maxRecDepth 20000 in
theorem kw_1142 : Cond.instanceMethod yX10_count ∈ tG := inG 1421 (by decide +kernel) (by decide +kernel)
set_option maxRecDepth 20000 in
theorem kw_1143 : Cond.selects RX10 yX10_count yX10_count ∈ tG := inG 1422 (by decide +kernel) (by decide +kernel)
set_option maxRecDepth 20000 in
theorem kw_1144 : Cond.code yX10_count cX10_count 2 (some .int) ∈ tG := inG 1423 (by decide +kernel) (by decide +kernel)
set_option maxRecDepth 20000 in
theorem kw_1145 : Cond.methodLink RL 162 yX9_digest ∈ tG := inG 959 (by decide +kernel) (by decide +kernel)
set_option maxRecDepth 20000 in
theorem kw_1146 : Cond.instanceMethod yX9_digest ∈ tG := inG 960 (by decide +kernel) (by decide +kernel)
set_option maxRecDepth 20000 in
theorem kw_1147 : Cond.selects RX9 yX9_digest yX9_digest ∈ tG := inG 961 (by decide +kernel) (by decide +kernel)
set_option maxRecDepth 20000 in
theorem kw_1148 : Cond.code yX9_digest cX9_digest 4 (some .long) ∈ tG := inG 962 (by decide +kernel) (by decide +kernel)
set_option maxRecDepth 20000 in
theorem kw_1149 : Cond.methodLink RL 166 yX10_digest ∈ tG := inG 1429 (by decide +kernel) (by decide +kernel)
set_option maxRecDepth 20000 in
theorem kw_1150 : Cond.instanceMethod yX10_digest ∈ tG := inG 1430 (by decide +kernel) (by decide +kernel)
set_option maxRecDepth 20000 in
theorem kw_1151 : Cond.selects RX10 yX10_digest yX10_digest ∈ tG := inG 1431 (by decide +kernel) (by decide +kernel)
set_option maxRecDepth 20000 in
theorem kw_1152 : Cond.code yX10_digest cX10_digest 4 (some .long) ∈ tG := inG 1432 (by decide +kernel) (by decide +kernel)
set_option maxRecDepth 20000 in
theorem kw_1153 : Cond.classLink RL 7 RX9 ∈ tG := inG 84 (by decide +kernel) (by decide +kernel)
set_option maxRecDepth 20000 in
theorem kw_1154 : Cond.code yX9_init cX9_init 1 none ∈ tG := inG 88 (by decide +kernel) (by decide +kernel)
set_option maxRecDepth 20000 in
theorem kw_1155 : Cond.methodLink RL 9 yX9_init ∈ tG := inG 86 (by decide +kernel) (by decide +kernel)
set_option maxRecDepth 20000 in
theorem kw_1156 : Cond.instanceMethod yX9_init ∈ tG := inG 87 (by decide +kernel) (by decide +kernel)
set_option maxRecDepth 20000 in
theorem kw_1157 : Cond.classLink RL 10 RX10 ∈ tG := inG 979 (by decide +kernel) (by decide +kernel)
set_option maxRecDepth 20000 in
theorem kw_1158 : Cond.code yX10_init cX10_init 1 none ∈ tG := inG 983 (by decide +kernel) (by decide +kernel)
set_option maxRecDepth 20000 in
theorem kw_1159 : Cond.methodLink RL 12 yX10_init ∈ tG := inG 981 (by decide +kernel) (by decide +kernel)
set_option maxRecDepth 20000 in
theorem kw_1160 : Cond.instanceMethod yX10_init ∈ tG := inG 982 (by decide +kernel) (by decide +kernel)
