set_option maxHeartbeats 8000000 in
set_option maxRecDepth 100000 in
theorem lc_surface {INV : (Nat → Int32) → (Nat → Nat → Int32) → (Nat → Int32) → (Nat → Nat → Int32) → Prop} {p : Program} {l : Launch} {e : Env} {s : State} {m : MethodId} {below : List Frame} {meth : Method} {c : Code} {dC : Nat → ClassId} {dI : Nat → Nat → Nat} {cI cZ : ClassId} {te : Nat → Nat} {hx hm : Nat} {aX aM : Nat → Nat} {b L : Nat} {xs : Nat → Int32} {cells slots : Nat} {Q : State → Prop} (hL : L ≤ 3072) (C0 : lw_At p s m meth c b L xs) (hE : kS te (fun q : Nat => s.heap.size ≤ q) s s.heap) (hK : va_K (dC, dI) vwCl (kT cI cZ) s) (h : PP_surface INV) {i : Nat} (hi : i + 6 ≤ L) (hcs : cells ≤ room_1.cells ∧ slots ≤ room_1.slots) {xi : Nat → Int32} {xa : Nat → Nat → Int32} {mi : Nat → Int32} {ma : Nat → Nat → Int32} (hI : INV xi xa mi ma)
    (kk : ∀ (xj : Nat → Int32) (xb : Nat → Nat → Int32) (mj : Nat → Int32) (mb : Nat → Nat → Int32), INV xj xb mj mb → ∀ (H : Heap) (locs : List Loc), va_P (dC, dI) vwCl (wW cI cZ hx hm aX aM xj xb mj mb) H → va_D (fun q : Nat => s.heap.size ≤ q) (wW cI cZ hx hm aX aM xj xb mj mb) → va_S (fun q : Nat => s.heap.size ≤ q) s.heap H locs → ∀ ls : Array Slot, lv_has ls 4 [(0, .ref b), (1, .ref hx), (2, .ref hm), (3, .int (nI i))] → W p l e room_1 s m #[Value.ref b] below meth c H locs cells slots Q (F0 m 1291 ls [])) :
    ∀ (H : Heap) (locs : List Loc), va_P (dC, dI) vwCl (wW cI cZ hx hm aX aM xi xa mi ma) H → va_D (fun q : Nat => s.heap.size ≤ q) (wW cI cZ hx hm aX aM xi xa mi ma) → va_S (fun q : Nat => s.heap.size ≤ q) s.heap H locs → ∀ ls : Array Slot, lv_has ls 4 [(0, .ref b), (1, .ref hx), (2, .ref hm), (3, .int (nI i))] → W p l e room_1 s m #[Value.ref b] below meth c H locs cells slots Q (F0 m 192 ls []) := by
  obtain ⟨hx0, hb, hr, hml, hown, hts, hX, hbl, hlocks, hgv⟩ := C0
  have hts : ∀ w ∈ tG, w.before #[Value.ref b] s = true := fun w h => hts w (List.mem_filter.mp h).1
  have hown : s.vm.findClass RL = some m.cls := hown
  have hA : ∀ q : Nat, s.heap.size ≤ q → (fun q : Nat => s.heap.size ≤ q) q := fun _ h => h
  have hbA : ¬ (fun q : Nat => s.heap.size ≤ q) b := Nat.not_le.mpr hbl
  intro H locs hP hD hS ls hl
  refine lv_aload_n hx0 hb dL_law_192 rfl (lv_at hl 1 rfl) ?_
  refine lv_aload_n hx0 hb dL_law_193 rfl (lv_at hl 0 rfl) ?_
  refine lv_iload_n hx0 hb dL_law_194 rfl (lv_at hl 3 rfl) ?_
  refine lv_iconst (v := (1 : Int32)) hx0 hb dL_law_195 (by decide) ?_
  refine lv_iadd hx0 hb dL_law_196 ?_
  refine va_sld hx0 hb hX hbl hbA hS (vin (k := 1) (by omega) hL) dL_law_197 ?_
  refine lv_aload_n hx0 hb dL_law_198 rfl (lv_at hl 0 rfl) ?_
  refine lv_iload_n hx0 hb dL_law_199 rfl (lv_at hl 3 rfl) ?_
  refine lv_iconst (v := (2 : Int32)) hx0 hb dL_law_200 (by decide) ?_
  refine lv_iadd hx0 hb dL_law_201 ?_
  refine va_sld hx0 hb hX hbl hbA hS (vin (k := 2) (by omega) hL) dL_law_202 ?_
  refine lv_aload_n hx0 hb dL_law_203 rfl (lv_at hl 0 rfl) ?_
  refine lv_iload_n hx0 hb dL_law_204 rfl (lv_at hl 3 rfl) ?_
  refine lv_iconst (v := (3 : Int32)) hx0 hb dL_law_205 (by decide) ?_
  refine lv_iadd hx0 hb dL_law_206 ?_
  refine va_sld hx0 hb hX hbl hbA hS (vin (k := 3) (by omega) hL) dL_law_207 ?_
  obtain ⟨r, xj, xb, mj, mb, hcX, hcM, hI2⟩ := O_surface l dC dI cI cZ te hx hm aX aM h (xs ((nI i) + (1 : Int32)).toNatClampNeg) (xs ((nI i) + (2 : Int32)).toNatClampNeg) (xs ((nI i) + (3 : Int32)).toNatClampNeg) xi xa mi ma hI
  refine CM_callW (C := RX9) (As := [.int (xs ((nI i) + (1 : Int32)).toNatClampNeg), .int (xs ((nI i) + (2 : Int32)).toNatClampNeg), .int (xs ((nI i) + (3 : Int32)).toNatClampNeg)]) (rest := []) (v := some (.int r)) ⟨hx0, hb, hml, hown, hts⟩ hcX (cwV 3 hts (gV0 kw_903 kw_904 kw_905 kw_695 kw_906) rfl rfl rfl (by decide +kernel) ⟨Nat.le_of_ble_eq_true rfl, Nat.le_of_ble_eq_true rfl⟩) (kS_env te) hK hP hD hS hA hE 0 7 rfl rfl rfl rfl hl.1 rfl (Nat.le_of_ble_eq_true rfl) dL_law_208 hcs (fun H locs hP hD hS => ?_)
  show W p l e room_1 s m #[Value.ref b] below meth c H locs cells slots Q (F0 m 211 ls [.int r])
  refine lv_aload_n hx0 hb dL_law_211 rfl (lv_at hl 2 rfl) ?_
  refine lv_aload_n hx0 hb dL_law_212 rfl (lv_at hl 0 rfl) ?_
  refine lv_iload_n hx0 hb dL_law_213 rfl (lv_at hl 3 rfl) ?_
  refine lv_iconst (v := (1 : Int32)) hx0 hb dL_law_214 (by decide) ?_
  refine lv_iadd hx0 hb dL_law_215 ?_
  refine va_sld hx0 hb hX hbl hbA hS (vin (k := 1) (by omega) hL) dL_law_216 ?_
  refine lv_aload_n hx0 hb dL_law_217 rfl (lv_at hl 0 rfl) ?_
  refine lv_iload_n hx0 hb dL_law_218 rfl (lv_at hl 3 rfl) ?_
  refine lv_iconst (v := (2 : Int32)) hx0 hb dL_law_219 (by decide) ?_
  refine lv_iadd hx0 hb dL_law_220 ?_
  refine va_sld hx0 hb hX hbl hbA hS (vin (k := 2) (by omega) hL) dL_law_221 ?_
  refine lv_aload_n hx0 hb dL_law_222 rfl (lv_at hl 0 rfl) ?_
  refine lv_iload_n hx0 hb dL_law_223 rfl (lv_at hl 3 rfl) ?_
  refine lv_iconst (v := (3 : Int32)) hx0 hb dL_law_224 (by decide) ?_
  refine lv_iadd hx0 hb dL_law_225 ?_
  refine va_sld hx0 hb hX hbl hbA hS (vin (k := 3) (by omega) hL) dL_law_226 ?_
  refine CM_callW (C := RX10) (As := [.int (xs ((nI i) + (1 : Int32)).toNatClampNeg), .int (xs ((nI i) + (2 : Int32)).toNatClampNeg), .int (xs ((nI i) + (3 : Int32)).toNatClampNeg)]) (rest := [.int r]) (v := some (.int r)) ⟨hx0, hb, hml, hown, hts⟩ hcM (cwV 3 hts (gV0 kw_907 kw_908 kw_909 kw_159 kw_910) rfl rfl rfl (by decide +kernel) ⟨Nat.le_of_ble_eq_true rfl, Nat.le_of_ble_eq_true rfl⟩) (kS_env te) hK hP hD hS hA hE 90 8 rfl rfl rfl rfl hl.1 rfl (Nat.le_of_ble_eq_true rfl) dL_law_227 hcs (fun H locs hP hD hS => ?_)
  show W p l e room_1 s m #[Value.ref b] below meth c H locs cells slots Q (F0 m 230 ls [.int r, .int r])
  refine lv_icmp_eq (tgt := 1291) hx0 hb dL_law_230 (by decide) (fun _ => ?_) (fun hne => absurd rfl hne)
  exact kk _ _ _ _ hI2 _ _ hP hD hS _ hl
set_option maxHeartbeats 8000000 in
set_option maxRecDepth 100000 in
theorem lc_slope {INV : (Nat → Int32) → (Nat → Nat → Int32) → (Nat → Int32) → (Nat → Nat → Int32) → Prop} {p : Program} {l : Launch} {e : Env} {s : State} {m : MethodId} {below : List Frame} {meth : Method} {c : Code} {dC : Nat → ClassId} {dI : Nat → Nat → Nat} {cI cZ : ClassId} {te : Nat → Nat} {hx hm : Nat} {aX aM : Nat → Nat} {b L : Nat} {xs : Nat → Int32} {cells slots : Nat} {Q : State → Prop} (hL : L ≤ 3072) (C0 : lw_At p s m meth c b L xs) (hE : kS te (fun q : Nat => s.heap.size ≤ q) s s.heap) (hK : va_K (dC, dI) vwCl (kT cI cZ) s) (h : PP_slope INV) {i : Nat} (hi : i + 6 ≤ L) (hcs : cells ≤ room_1.cells ∧ slots ≤ room_1.slots) {xi : Nat → Int32} {xa : Nat → Nat → Int32} {mi : Nat → Int32} {ma : Nat → Nat → Int32} (hI : INV xi xa mi ma)
    (kk : ∀ (xj : Nat → Int32) (xb : Nat → Nat → Int32) (mj : Nat → Int32) (mb : Nat → Nat → Int32), INV xj xb mj mb → ∀ (H : Heap) (locs : List Loc), va_P (dC, dI) vwCl (wW cI cZ hx hm aX aM xj xb mj mb) H → va_D (fun q : Nat => s.heap.size ≤ q) (wW cI cZ hx hm aX aM xj xb mj mb) → va_S (fun q : Nat => s.heap.size ≤ q) s.heap H locs → ∀ ls : Array Slot, lv_has ls 4 [(0, .ref b), (1, .ref hx), (2, .ref hm), (3, .int (nI i))] → W p l e room_1 s m #[Value.ref b] below meth c H locs cells slots Q (F0 m 1291 ls [])) :
    ∀ (H : Heap) (locs : List Loc), va_P (dC, dI) vwCl (wW cI cZ hx hm aX aM xi xa mi ma) H → va_D (fun q : Nat => s.heap.size ≤ q) (wW cI cZ hx hm aX aM xi xa mi ma) → va_S (fun q : Nat => s.heap.size ≤ q) s.heap H locs → ∀ ls : Array Slot, lv_has ls 4 [(0, .ref b), (1, .ref hx), (2, .ref hm), (3, .int (nI i))] → W p l e room_1 s m #[Value.ref b] below meth c H locs cells slots Q (F0 m 235 ls []) := by
  obtain ⟨hx0, hb, hr, hml, hown, hts, hX, hbl, hlocks, hgv⟩ := C0
  have hts : ∀ w ∈ tG, w.before #[Value.ref b] s = true := fun w h => hts w (List.mem_filter.mp h).1
  have hown : s.vm.findClass RL = some m.cls := hown
  have hA : ∀ q : Nat, s.heap.size ≤ q → (fun q : Nat => s.heap.size ≤ q) q := fun _ h => h
  have hbA : ¬ (fun q : Nat => s.heap.size ≤ q) b := Nat.not_le.mpr hbl
  intro H locs hP hD hS ls hl
  refine lv_aload_n hx0 hb dL_law_235 rfl (lv_at hl 1 rfl) ?_
  refine lv_aload_n hx0 hb dL_law_236 rfl (lv_at hl 0 rfl) ?_
  refine lv_iload_n hx0 hb dL_law_237 rfl (lv_at hl 3 rfl) ?_
  refine lv_iconst (v := (1 : Int32)) hx0 hb dL_law_238 (by decide) ?_
  refine lv_iadd hx0 hb dL_law_239 ?_
  refine va_sld hx0 hb hX hbl hbA hS (vin (k := 1) (by omega) hL) dL_law_240 ?_
  refine lv_aload_n hx0 hb dL_law_241 rfl (lv_at hl 0 rfl) ?_
  refine lv_iload_n hx0 hb dL_law_242 rfl (lv_at hl 3 rfl) ?_
  refine lv_iconst (v := (2 : Int32)) hx0 hb dL_law_243 (by decide) ?_
  refine lv_iadd hx0 hb dL_law_244 ?_
  refine va_sld hx0 hb hX hbl hbA hS (vin (k := 2) (by omega) hL) dL_law_245 ?_
  refine lv_aload_n hx0 hb dL_law_246 rfl (lv_at hl 0 rfl) ?_
  refine lv_iload_n hx0 hb dL_law_247 rfl (lv_at hl 3 rfl) ?_
  refine lv_iconst (v := (3 : Int32)) hx0 hb dL_law_248 (by decide) ?_
  refine lv_iadd hx0 hb dL_law_249 ?_
  refine va_sld hx0 hb hX hbl hbA hS (vin (k := 3) (by omega) hL) dL_law_250 ?_
  refine lv_aload_n hx0 hb dL_law_251 rfl (lv_at hl 0 rfl) ?_
  refine lv_iload_n hx0 hb dL_law_252 rfl (lv_at hl 3 rfl) ?_
  refine lv_iconst (v := (4 : Int32)) hx0 hb dL_law_253 (by decide) ?_
  refine lv_iadd hx0 hb dL_law_254 ?_
  refine va_sld hx0 hb hX hbl hbA hS (vin (k := 4) (by omega) hL) dL_law_255 ?_
  obtain ⟨r, xj, xb, mj, mb, hcX, hcM, hI2⟩ := O_slope l dC dI cI cZ te hx hm aX aM h (xs ((nI i) + (1 : Int32)).toNatClampNeg) (xs ((nI i) + (2 : Int32)).toNatClampNeg) (xs ((nI i) + (3 : Int32)).toNatClampNeg) (xs ((nI i) + (4 : Int32)).toNatClampNeg) xi xa mi ma hI
  refine CM_callW (C := RX9) (As := [.int (xs ((nI i) + (1 : Int32)).toNatClampNeg), .int (xs ((nI i) + (2 : Int32)).toNatClampNeg), .int (xs ((nI i) + (3 : Int32)).toNatClampNeg), .int (xs ((nI i) + (4 : Int32)).toNatClampNeg)]) (rest := []) (v := some (.int r)) ⟨hx0, hb, hml, hown, hts⟩ hcX (cwV 4 hts (gV0 kw_911 kw_912 kw_913 kw_695 kw_914) rfl rfl rfl (by decide +kernel) ⟨Nat.le_of_ble_eq_true rfl, Nat.le_of_ble_eq_true rfl⟩) (kS_env te) hK hP hD hS hA hE 0 7 rfl rfl rfl rfl hl.1 rfl (Nat.le_of_ble_eq_true rfl) dL_law_256 hcs (fun H locs hP hD hS => ?_)
  show W p l e room_1 s m #[Value.ref b] below meth c H locs cells slots Q (F0 m 259 ls [.int r])
  refine lv_aload_n hx0 hb dL_law_259 rfl (lv_at hl 2 rfl) ?_
  refine lv_aload_n hx0 hb dL_law_260 rfl (lv_at hl 0 rfl) ?_
  refine lv_iload_n hx0 hb dL_law_261 rfl (lv_at hl 3 rfl) ?_
  refine lv_iconst (v := (1 : Int32)) hx0 hb dL_law_262 (by decide) ?_
  refine lv_iadd hx0 hb dL_law_263 ?_
  refine va_sld hx0 hb hX hbl hbA hS (vin (k := 1) (by omega) hL) dL_law_264 ?_
  refine lv_aload_n hx0 hb dL_law_265 rfl (lv_at hl 0 rfl) ?_
  refine lv_iload_n hx0 hb dL_law_266 rfl (lv_at hl 3 rfl) ?_
  refine lv_iconst (v := (2 : Int32)) hx0 hb dL_law_267 (by decide) ?_
  refine lv_iadd hx0 hb dL_law_268 ?_
  refine va_sld hx0 hb hX hbl hbA hS (vin (k := 2) (by omega) hL) dL_law_269 ?_
  refine lv_aload_n hx0 hb dL_law_270 rfl (lv_at hl 0 rfl) ?_
  refine lv_iload_n hx0 hb dL_law_271 rfl (lv_at hl 3 rfl) ?_
  refine lv_iconst (v := (3 : Int32)) hx0 hb dL_law_272 (by decide) ?_
  refine lv_iadd hx0 hb dL_law_273 ?_
  refine va_sld hx0 hb hX hbl hbA hS (vin (k := 3) (by omega) hL) dL_law_274 ?_
  refine lv_aload_n hx0 hb dL_law_275 rfl (lv_at hl 0 rfl) ?_
  refine lv_iload_n hx0 hb dL_law_276 rfl (lv_at hl 3 rfl) ?_
  refine lv_iconst (v := (4 : Int32)) hx0 hb dL_law_277 (by decide) ?_
  refine lv_iadd hx0 hb dL_law_278 ?_
  refine va_sld hx0 hb hX hbl hbA hS (vin (k := 4) (by omega) hL) dL_law_279 ?_
  refine CM_callW (C := RX10) (As := [.int (xs ((nI i) + (1 : Int32)).toNatClampNeg), .int (xs ((nI i) + (2 : Int32)).toNatClampNeg), .int (xs ((nI i) + (3 : Int32)).toNatClampNeg), .int (xs ((nI i) + (4 : Int32)).toNatClampNeg)]) (rest := [.int r]) (v := some (.int r)) ⟨hx0, hb, hml, hown, hts⟩ hcM (cwV 4 hts (gV0 kw_915 kw_916 kw_917 kw_159 kw_918) rfl rfl rfl (by decide +kernel) ⟨Nat.le_of_ble_eq_true rfl, Nat.le_of_ble_eq_true rfl⟩) (kS_env te) hK hP hD hS hA hE 90 8 rfl rfl rfl rfl hl.1 rfl (Nat.le_of_ble_eq_true rfl) dL_law_280 hcs (fun H locs hP hD hS => ?_)
  show W p l e room_1 s m #[Value.ref b] below meth c H locs cells slots Q (F0 m 283 ls [.int r, .int r])
  refine lv_icmp_eq (tgt := 1291) hx0 hb dL_law_283 (by decide) (fun _ => ?_) (fun hne => absurd rfl hne)
  exact kk _ _ _ _ hI2 _ _ hP hD hS _ hl
set_option maxHeartbeats 8000000 in
set_option maxRecDepth 100000 in
theorem lc_flow {INV : (Nat → Int32) → (Nat → Nat → Int32) → (Nat → Int32) → (Nat → Nat → Int32) → Prop} {p : Program} {l : Launch} {e : Env} {s : State} {m : MethodId} {below : List Frame} {meth : Method} {c : Code} {dC : Nat → ClassId} {dI : Nat → Nat → Nat} {cI cZ : ClassId} {te : Nat → Nat} {hx hm : Nat} {aX aM : Nat → Nat} {b L : Nat} {xs : Nat → Int32} {cells slots : Nat} {Q : State → Prop} (hL : L ≤ 3072) (C0 : lw_At p s m meth c b L xs) (hE : kS te (fun q : Nat => s.heap.size ≤ q) s s.heap) (hK : va_K (dC, dI) vwCl (kT cI cZ) s) (h : PP_flow INV) {i : Nat} (hi : i + 6 ≤ L) (hcs : cells ≤ room_1.cells ∧ slots ≤ room_1.slots) {xi : Nat → Int32} {xa : Nat → Nat → Int32} {mi : Nat → Int32} {ma : Nat → Nat → Int32} (hI : INV xi xa mi ma)
    (kk : ∀ (xj : Nat → Int32) (xb : Nat → Nat → Int32) (mj : Nat → Int32) (mb : Nat → Nat → Int32), INV xj xb mj mb → ∀ (H : Heap) (locs : List Loc), va_P (dC, dI) vwCl (wW cI cZ hx hm aX aM xj xb mj mb) H → va_D (fun q : Nat => s.heap.size ≤ q) (wW cI cZ hx hm aX aM xj xb mj mb) → va_S (fun q : Nat => s.heap.size ≤ q) s.heap H locs → ∀ ls : Array Slot, lv_has ls 4 [(0, .ref b), (1, .ref hx), (2, .ref hm), (3, .int (nI i))] → W p l e room_1 s m #[Value.ref b] below meth c H locs cells slots Q (F0 m 1291 ls [])) :
    ∀ (H : Heap) (locs : List Loc), va_P (dC, dI) vwCl (wW cI cZ hx hm aX aM xi xa mi ma) H → va_D (fun q : Nat => s.heap.size ≤ q) (wW cI cZ hx hm aX aM xi xa mi ma) → va_S (fun q : Nat => s.heap.size ≤ q) s.heap H locs → ∀ ls : Array Slot, lv_has ls 4 [(0, .ref b), (1, .ref hx), (2, .ref hm), (3, .int (nI i))] → W p l e room_1 s m #[Value.ref b] below meth c H locs cells slots Q (F0 m 288 ls []) := by
  obtain ⟨hx0, hb, hr, hml, hown, hts, hX, hbl, hlocks, hgv⟩ := C0
  have hts : ∀ w ∈ tG, w.before #[Value.ref b] s = true := fun w h => hts w (List.mem_filter.mp h).1
  have hown : s.vm.findClass RL = some m.cls := hown
  have hA : ∀ q : Nat, s.heap.size ≤ q → (fun q : Nat => s.heap.size ≤ q) q := fun _ h => h
  have hbA : ¬ (fun q : Nat => s.heap.size ≤ q) b := Nat.not_le.mpr hbl
  intro H locs hP hD hS ls hl
  refine lv_aload_n hx0 hb dL_law_288 rfl (lv_at hl 1 rfl) ?_
  refine lv_aload_n hx0 hb dL_law_289 rfl (lv_at hl 0 rfl) ?_
  refine lv_iload_n hx0 hb dL_law_290 rfl (lv_at hl 3 rfl) ?_
  refine lv_iconst (v := (1 : Int32)) hx0 hb dL_law_291 (by decide) ?_
  refine lv_iadd hx0 hb dL_law_292 ?_
  refine va_sld hx0 hb hX hbl hbA hS (vin (k := 1) (by omega) hL) dL_law_293 ?_
  refine lv_aload_n hx0 hb dL_law_294 rfl (lv_at hl 0 rfl) ?_
  refine lv_iload_n hx0 hb dL_law_295 rfl (lv_at hl 3 rfl) ?_
  refine lv_iconst (v := (2 : Int32)) hx0 hb dL_law_296 (by decide) ?_
  refine lv_iadd hx0 hb dL_law_297 ?_
  refine va_sld hx0 hb hX hbl hbA hS (vin (k := 2) (by omega) hL) dL_law_298 ?_
  obtain ⟨r, xj, xb, mj, mb, hcX, hcM, hI2⟩ := O_flow l dC dI cI cZ te hx hm aX aM h (xs ((nI i) + (1 : Int32)).toNatClampNeg) (xs ((nI i) + (2 : Int32)).toNatClampNeg) xi xa mi ma hI
  refine CM_callW (C := RX9) (As := [.int (xs ((nI i) + (1 : Int32)).toNatClampNeg), .int (xs ((nI i) + (2 : Int32)).toNatClampNeg)]) (rest := []) (v := some (.int r)) ⟨hx0, hb, hml, hown, hts⟩ hcX (cwV 2 hts (gV0 kw_919 kw_920 kw_921 kw_695 kw_922) rfl rfl rfl (by decide +kernel) ⟨Nat.le_of_ble_eq_true rfl, Nat.le_of_ble_eq_true rfl⟩) (kS_env te) hK hP hD hS hA hE 0 7 rfl rfl rfl rfl hl.1 rfl (Nat.le_of_ble_eq_true rfl) dL_law_299 hcs (fun H locs hP hD hS => ?_)
  show W p l e room_1 s m #[Value.ref b] below meth c H locs cells slots Q (F0 m 302 ls [.int r])
  refine lv_aload_n hx0 hb dL_law_302 rfl (lv_at hl 2 rfl) ?_
  refine lv_aload_n hx0 hb dL_law_303 rfl (lv_at hl 0 rfl) ?_
  refine lv_iload_n hx0 hb dL_law_304 rfl (lv_at hl 3 rfl) ?_
  refine lv_iconst (v := (1 : Int32)) hx0 hb dL_law_305 (by decide) ?_
  refine lv_iadd hx0 hb dL_law_306 ?_
  refine va_sld hx0 hb hX hbl hbA hS (vin (k := 1) (by omega) hL) dL_law_307 ?_
  refine lv_aload_n hx0 hb dL_law_308 rfl (lv_at hl 0 rfl) ?_
  refine lv_iload_n hx0 hb dL_law_309 rfl (lv_at hl 3 rfl) ?_
  refine lv_iconst (v := (2 : Int32)) hx0 hb dL_law_310 (by decide) ?_
  refine lv_iadd hx0 hb dL_law_311 ?_
  refine va_sld hx0 hb hX hbl hbA hS (vin (k := 2) (by omega) hL) dL_law_312 ?_
  refine CM_callW (C := RX10) (As := [.int (xs ((nI i) + (1 : Int32)).toNatClampNeg), .int (xs ((nI i) + (2 : Int32)).toNatClampNeg)]) (rest := [.int r]) (v := some (.int r)) ⟨hx0, hb, hml, hown, hts⟩ hcM (cwV 2 hts (gV0 kw_923 kw_924 kw_925 kw_159 kw_926) rfl rfl rfl (by decide +kernel) ⟨Nat.le_of_ble_eq_true rfl, Nat.le_of_ble_eq_true rfl⟩) (kS_env te) hK hP hD hS hA hE 90 8 rfl rfl rfl rfl hl.1 rfl (Nat.le_of_ble_eq_true rfl) dL_law_313 hcs (fun H locs hP hD hS => ?_)
  show W p l e room_1 s m #[Value.ref b] below meth c H locs cells slots Q (F0 m 316 ls [.int r, .int r])
  refine lv_icmp_eq (tgt := 1291) hx0 hb dL_law_316 (by decide) (fun _ => ?_) (fun hne => absurd rfl hne)
  exact kk _ _ _ _ hI2 _ _ hP hD hS _ hl
set_option maxHeartbeats 8000000 in
set_option maxRecDepth 100000 in
theorem lc_cliff {INV : (Nat → Int32) → (Nat → Nat → Int32) → (Nat → Int32) → (Nat → Nat → Int32) → Prop} {p : Program} {l : Launch} {e : Env} {s : State} {m : MethodId} {below : List Frame} {meth : Method} {c : Code} {dC : Nat → ClassId} {dI : Nat → Nat → Nat} {cI cZ : ClassId} {te : Nat → Nat} {hx hm : Nat} {aX aM : Nat → Nat} {b L : Nat} {xs : Nat → Int32} {cells slots : Nat} {Q : State → Prop} (hL : L ≤ 3072) (C0 : lw_At p s m meth c b L xs) (hE : kS te (fun q : Nat => s.heap.size ≤ q) s s.heap) (hK : va_K (dC, dI) vwCl (kT cI cZ) s) (h : PP_cliff INV) {i : Nat} (hi : i + 6 ≤ L) (hcs : cells ≤ room_1.cells ∧ slots ≤ room_1.slots) {xi : Nat → Int32} {xa : Nat → Nat → Int32} {mi : Nat → Int32} {ma : Nat → Nat → Int32} (hI : INV xi xa mi ma)
    (kk : ∀ (xj : Nat → Int32) (xb : Nat → Nat → Int32) (mj : Nat → Int32) (mb : Nat → Nat → Int32), INV xj xb mj mb → ∀ (H : Heap) (locs : List Loc), va_P (dC, dI) vwCl (wW cI cZ hx hm aX aM xj xb mj mb) H → va_D (fun q : Nat => s.heap.size ≤ q) (wW cI cZ hx hm aX aM xj xb mj mb) → va_S (fun q : Nat => s.heap.size ≤ q) s.heap H locs → ∀ ls : Array Slot, lv_has ls 4 [(0, .ref b), (1, .ref hx), (2, .ref hm), (3, .int (nI i))] → W p l e room_1 s m #[Value.ref b] below meth c H locs cells slots Q (F0 m 1291 ls [])) :
    ∀ (H : Heap) (locs : List Loc), va_P (dC, dI) vwCl (wW cI cZ hx hm aX aM xi xa mi ma) H → va_D (fun q : Nat => s.heap.size ≤ q) (wW cI cZ hx hm aX aM xi xa mi ma) → va_S (fun q : Nat => s.heap.size ≤ q) s.heap H locs → ∀ ls : Array Slot, lv_has ls 4 [(0, .ref b), (1, .ref hx), (2, .ref hm), (3, .int (nI i))] → W p l e room_1 s m #[Value.ref b] below meth c H locs cells slots Q (F0 m 321 ls []) := by
  obtain ⟨hx0, hb, hr, hml, hown, hts, hX, hbl, hlocks, hgv⟩ := C0
  have hts : ∀ w ∈ tG, w.before #[Value.ref b] s = true := fun w h => hts w (List.mem_filter.mp h).1
  have hown : s.vm.findClass RL = some m.cls := hown
  have hA : ∀ q : Nat, s.heap.size ≤ q → (fun q : Nat => s.heap.size ≤ q) q := fun _ h => h
  have hbA : ¬ (fun q : Nat => s.heap.size ≤ q) b := Nat.not_le.mpr hbl
  intro H locs hP hD hS ls hl
  refine lv_aload_n hx0 hb dL_law_321 rfl (lv_at hl 1 rfl) ?_
  refine lv_aload_n hx0 hb dL_law_322 rfl (lv_at hl 0 rfl) ?_
  refine lv_iload_n hx0 hb dL_law_323 rfl (lv_at hl 3 rfl) ?_
  refine lv_iconst (v := (1 : Int32)) hx0 hb dL_law_324 (by decide) ?_
  refine lv_iadd hx0 hb dL_law_325 ?_
  refine va_sld hx0 hb hX hbl hbA hS (vin (k := 1) (by omega) hL) dL_law_326 ?_
  refine lv_aload_n hx0 hb dL_law_327 rfl (lv_at hl 0 rfl) ?_
  refine lv_iload_n hx0 hb dL_law_328 rfl (lv_at hl 3 rfl) ?_
  refine lv_iconst (v := (2 : Int32)) hx0 hb dL_law_329 (by decide) ?_
  refine lv_iadd hx0 hb dL_law_330 ?_
  refine va_sld hx0 hb hX hbl hbA hS (vin (k := 2) (by omega) hL) dL_law_331 ?_
  obtain ⟨r, xj, xb, mj, mb, hcX, hcM, hI2⟩ := O_cliff l dC dI cI cZ te hx hm aX aM h (xs ((nI i) + (1 : Int32)).toNatClampNeg) (xs ((nI i) + (2 : Int32)).toNatClampNeg) xi xa mi ma hI
  refine CM_callW (C := RX9) (As := [.int (xs ((nI i) + (1 : Int32)).toNatClampNeg), .int (xs ((nI i) + (2 : Int32)).toNatClampNeg)]) (rest := []) (v := some (.int r)) ⟨hx0, hb, hml, hown, hts⟩ hcX (cwV 2 hts (gV0 kw_927 kw_853 kw_854 kw_695 kw_855) rfl rfl rfl (by decide +kernel) ⟨Nat.le_of_ble_eq_true rfl, Nat.le_of_ble_eq_true rfl⟩) (kS_env te) hK hP hD hS hA hE 0 7 rfl rfl rfl rfl hl.1 rfl (Nat.le_of_ble_eq_true rfl) dL_law_332 hcs (fun H locs hP hD hS => ?_)
  show W p l e room_1 s m #[Value.ref b] below meth c H locs cells slots Q (F0 m 335 ls [.int r])
  refine lv_aload_n hx0 hb dL_law_335 rfl (lv_at hl 2 rfl) ?_
  refine lv_aload_n hx0 hb dL_law_336 rfl (lv_at hl 0 rfl) ?_
  refine lv_iload_n hx0 hb dL_law_337 rfl (lv_at hl 3 rfl) ?_
  refine lv_iconst (v := (1 : Int32)) hx0 hb dL_law_338 (by decide) ?_
  refine lv_iadd hx0 hb dL_law_339 ?_
  refine va_sld hx0 hb hX hbl hbA hS (vin (k := 1) (by omega) hL) dL_law_340 ?_
  refine lv_aload_n hx0 hb dL_law_341 rfl (lv_at hl 0 rfl) ?_
  refine lv_iload_n hx0 hb dL_law_342 rfl (lv_at hl 3 rfl) ?_
  refine lv_iconst (v := (2 : Int32)) hx0 hb dL_law_343 (by decide) ?_
  refine lv_iadd hx0 hb dL_law_344 ?_
  refine va_sld hx0 hb hX hbl hbA hS (vin (k := 2) (by omega) hL) dL_law_345 ?_
  refine CM_callW (C := RX10) (As := [.int (xs ((nI i) + (1 : Int32)).toNatClampNeg), .int (xs ((nI i) + (2 : Int32)).toNatClampNeg)]) (rest := [.int r]) (v := some (.int r)) ⟨hx0, hb, hml, hown, hts⟩ hcM (cwV 2 hts (gV0 kw_928 kw_363 kw_364 kw_159 kw_365) rfl rfl rfl (by decide +kernel) ⟨Nat.le_of_ble_eq_true rfl, Nat.le_of_ble_eq_true rfl⟩) (kS_env te) hK hP hD hS hA hE 90 8 rfl rfl rfl rfl hl.1 rfl (Nat.le_of_ble_eq_true rfl) dL_law_346 hcs (fun H locs hP hD hS => ?_)
  show W p l e room_1 s m #[Value.ref b] below meth c H locs cells slots Q (F0 m 349 ls [.int r, .int r])
  refine lv_icmp_eq (tgt := 1291) hx0 hb dL_law_349 (by decide) (fun _ => ?_) (fun hne => absurd rfl hne)
  exact kk _ _ _ _ hI2 _ _ hP hD hS _ hl
set_option maxHeartbeats 8000000 in
set_option maxRecDepth 100000 in
theorem lc_boulder {INV : (Nat → Int32) → (Nat → Nat → Int32) → (Nat → Int32) → (Nat → Nat → Int32) → Prop} {p : Program} {l : Launch} {e : Env} {s : State} {m : MethodId} {below : List Frame} {meth : Method} {c : Code} {dC : Nat → ClassId} {dI : Nat → Nat → Nat} {cI cZ : ClassId} {te : Nat → Nat} {hx hm : Nat} {aX aM : Nat → Nat} {b L : Nat} {xs : Nat → Int32} {cells slots : Nat} {Q : State → Prop} (hL : L ≤ 3072) (C0 : lw_At p s m meth c b L xs) (hE : kS te (fun q : Nat => s.heap.size ≤ q) s s.heap) (hK : va_K (dC, dI) vwCl (kT cI cZ) s) (h : PP_boulder INV) {i : Nat} (hi : i + 6 ≤ L) (hcs : cells ≤ room_1.cells ∧ slots ≤ room_1.slots) {xi : Nat → Int32} {xa : Nat → Nat → Int32} {mi : Nat → Int32} {ma : Nat → Nat → Int32} (hI : INV xi xa mi ma)
    (kk : ∀ (xj : Nat → Int32) (xb : Nat → Nat → Int32) (mj : Nat → Int32) (mb : Nat → Nat → Int32), INV xj xb mj mb → ∀ (H : Heap) (locs : List Loc), va_P (dC, dI) vwCl (wW cI cZ hx hm aX aM xj xb mj mb) H → va_D (fun q : Nat => s.heap.size ≤ q) (wW cI cZ hx hm aX aM xj xb mj mb) → va_S (fun q : Nat => s.heap.size ≤ q) s.heap H locs → ∀ ls : Array Slot, lv_has ls 4 [(0, .ref b), (1, .ref hx), (2, .ref hm), (3, .int (nI i))] → W p l e room_1 s m #[Value.ref b] below meth c H locs cells slots Q (F0 m 1291 ls [])) :
    ∀ (H : Heap) (locs : List Loc), va_P (dC, dI) vwCl (wW cI cZ hx hm aX aM xi xa mi ma) H → va_D (fun q : Nat => s.heap.size ≤ q) (wW cI cZ hx hm aX aM xi xa mi ma) → va_S (fun q : Nat => s.heap.size ≤ q) s.heap H locs → ∀ ls : Array Slot, lv_has ls 4 [(0, .ref b), (1, .ref hx), (2, .ref hm), (3, .int (nI i))] → W p l e room_1 s m #[Value.ref b] below meth c H locs cells slots Q (F0 m 354 ls []) := by
  obtain ⟨hx0, hb, hr, hml, hown, hts, hX, hbl, hlocks, hgv⟩ := C0
  have hts : ∀ w ∈ tG, w.before #[Value.ref b] s = true := fun w h => hts w (List.mem_filter.mp h).1
  have hown : s.vm.findClass RL = some m.cls := hown
  have hA : ∀ q : Nat, s.heap.size ≤ q → (fun q : Nat => s.heap.size ≤ q) q := fun _ h => h
  have hbA : ¬ (fun q : Nat => s.heap.size ≤ q) b := Nat.not_le.mpr hbl
  intro H locs hP hD hS ls hl
  refine lv_aload_n hx0 hb dL_law_354 rfl (lv_at hl 1 rfl) ?_
  refine lv_aload_n hx0 hb dL_law_355 rfl (lv_at hl 0 rfl) ?_
  refine lv_iload_n hx0 hb dL_law_356 rfl (lv_at hl 3 rfl) ?_
  refine lv_iconst (v := (1 : Int32)) hx0 hb dL_law_357 (by decide) ?_
  refine lv_iadd hx0 hb dL_law_358 ?_
  refine va_sld hx0 hb hX hbl hbA hS (vin (k := 1) (by omega) hL) dL_law_359 ?_
  refine lv_aload_n hx0 hb dL_law_360 rfl (lv_at hl 0 rfl) ?_
  refine lv_iload_n hx0 hb dL_law_361 rfl (lv_at hl 3 rfl) ?_
  refine lv_iconst (v := (2 : Int32)) hx0 hb dL_law_362 (by decide) ?_
  refine lv_iadd hx0 hb dL_law_363 ?_
  refine va_sld hx0 hb hX hbl hbA hS (vin (k := 2) (by omega) hL) dL_law_364 ?_
  obtain ⟨r, xj, xb, mj, mb, hcX, hcM, hI2⟩ := O_boulder l dC dI cI cZ te hx hm aX aM h (xs ((nI i) + (1 : Int32)).toNatClampNeg) (xs ((nI i) + (2 : Int32)).toNatClampNeg) xi xa mi ma hI
  refine CM_callW (C := RX9) (As := [.int (xs ((nI i) + (1 : Int32)).toNatClampNeg), .int (xs ((nI i) + (2 : Int32)).toNatClampNeg)]) (rest := []) (v := some (.int r)) ⟨hx0, hb, hml, hown, hts⟩ hcX (cwV 2 hts (gV0 kw_929 kw_857 kw_858 kw_695 kw_859) rfl rfl rfl (by decide +kernel) ⟨Nat.le_of_ble_eq_true rfl, Nat.le_of_ble_eq_true rfl⟩) (kS_env te) hK hP hD hS hA hE 0 7 rfl rfl rfl rfl hl.1 rfl (Nat.le_of_ble_eq_true rfl) dL_law_365 hcs (fun H locs hP hD hS => ?_)
  show W p l e room_1 s m #[Value.ref b] below meth c H locs cells slots Q (F0 m 368 ls [.int r])
  refine lv_aload_n hx0 hb dL_law_368 rfl (lv_at hl 2 rfl) ?_
  refine lv_aload_n hx0 hb dL_law_369 rfl (lv_at hl 0 rfl) ?_
  refine lv_iload_n hx0 hb dL_law_370 rfl (lv_at hl 3 rfl) ?_
  refine lv_iconst (v := (1 : Int32)) hx0 hb dL_law_371 (by decide) ?_
  refine lv_iadd hx0 hb dL_law_372 ?_
  refine va_sld hx0 hb hX hbl hbA hS (vin (k := 1) (by omega) hL) dL_law_373 ?_
  refine lv_aload_n hx0 hb dL_law_374 rfl (lv_at hl 0 rfl) ?_
  refine lv_iload_n hx0 hb dL_law_375 rfl (lv_at hl 3 rfl) ?_
  refine lv_iconst (v := (2 : Int32)) hx0 hb dL_law_376 (by decide) ?_
  refine lv_iadd hx0 hb dL_law_377 ?_
  refine va_sld hx0 hb hX hbl hbA hS (vin (k := 2) (by omega) hL) dL_law_378 ?_
  refine CM_callW (C := RX10) (As := [.int (xs ((nI i) + (1 : Int32)).toNatClampNeg), .int (xs ((nI i) + (2 : Int32)).toNatClampNeg)]) (rest := [.int r]) (v := some (.int r)) ⟨hx0, hb, hml, hown, hts⟩ hcM (cwV 2 hts (gV0 kw_930 kw_367 kw_368 kw_159 kw_369) rfl rfl rfl (by decide +kernel) ⟨Nat.le_of_ble_eq_true rfl, Nat.le_of_ble_eq_true rfl⟩) (kS_env te) hK hP hD hS hA hE 90 8 rfl rfl rfl rfl hl.1 rfl (Nat.le_of_ble_eq_true rfl) dL_law_379 hcs (fun H locs hP hD hS => ?_)
  show W p l e room_1 s m #[Value.ref b] below meth c H locs cells slots Q (F0 m 382 ls [.int r, .int r])
  refine lv_icmp_eq (tgt := 1291) hx0 hb dL_law_382 (by decide) (fun _ => ?_) (fun hne => absurd rfl hne)
  exact kk _ _ _ _ hI2 _ _ hP hD hS _ hl
set_option maxHeartbeats 8000000 in
set_option maxRecDepth 100000 in
theorem lc_fits {INV : (Nat → Int32) → (Nat → Nat → Int32) → (Nat → Int32) → (Nat → Nat → Int32) → Prop} {p : Program} {l : Launch} {e : Env} {s : State} {m : MethodId} {below : List Frame} {meth : Method} {c : Code} {dC : Nat → ClassId} {dI : Nat → Nat → Nat} {cI cZ : ClassId} {te : Nat → Nat} {hx hm : Nat} {aX aM : Nat → Nat} {b L : Nat} {xs : Nat → Int32} {cells slots : Nat} {Q : State → Prop} (hL : L ≤ 3072) (C0 : lw_At p s m meth c b L xs) (hE : kS te (fun q : Nat => s.heap.size ≤ q) s s.heap) (hK : va_K (dC, dI) vwCl (kT cI cZ) s) (h : PP_fits INV) {i : Nat} (hi : i + 6 ≤ L) (hcs : cells ≤ room_1.cells ∧ slots ≤ room_1.slots) {xi : Nat → Int32} {xa : Nat → Nat → Int32} {mi : Nat → Int32} {ma : Nat → Nat → Int32} (hI : INV xi xa mi ma)
    (kk : ∀ (xj : Nat → Int32) (xb : Nat → Nat → Int32) (mj : Nat → Int32) (mb : Nat → Nat → Int32), INV xj xb mj mb → ∀ (H : Heap) (locs : List Loc), va_P (dC, dI) vwCl (wW cI cZ hx hm aX aM xj xb mj mb) H → va_D (fun q : Nat => s.heap.size ≤ q) (wW cI cZ hx hm aX aM xj xb mj mb) → va_S (fun q : Nat => s.heap.size ≤ q) s.heap H locs → ∀ ls : Array Slot, lv_has ls 4 [(0, .ref b), (1, .ref hx), (2, .ref hm), (3, .int (nI i))] → W p l e room_1 s m #[Value.ref b] below meth c H locs cells slots Q (F0 m 1291 ls [])) :
    ∀ (H : Heap) (locs : List Loc), va_P (dC, dI) vwCl (wW cI cZ hx hm aX aM xi xa mi ma) H → va_D (fun q : Nat => s.heap.size ≤ q) (wW cI cZ hx hm aX aM xi xa mi ma) → va_S (fun q : Nat => s.heap.size ≤ q) s.heap H locs → ∀ ls : Array Slot, lv_has ls 4 [(0, .ref b), (1, .ref hx), (2, .ref hm), (3, .int (nI i))] → W p l e room_1 s m #[Value.ref b] below meth c H locs cells slots Q (F0 m 387 ls []) := by
  obtain ⟨hx0, hb, hr, hml, hown, hts, hX, hbl, hlocks, hgv⟩ := C0
  have hts : ∀ w ∈ tG, w.before #[Value.ref b] s = true := fun w h => hts w (List.mem_filter.mp h).1
  have hown : s.vm.findClass RL = some m.cls := hown
  have hA : ∀ q : Nat, s.heap.size ≤ q → (fun q : Nat => s.heap.size ≤ q) q := fun _ h => h
  have hbA : ¬ (fun q : Nat => s.heap.size ≤ q) b := Nat.not_le.mpr hbl
  intro H locs hP hD hS ls hl
  refine lv_aload_n hx0 hb dL_law_387 rfl (lv_at hl 1 rfl) ?_
  refine lv_aload_n hx0 hb dL_law_388 rfl (lv_at hl 0 rfl) ?_
  refine lv_iload_n hx0 hb dL_law_389 rfl (lv_at hl 3 rfl) ?_
  refine lv_iconst (v := (1 : Int32)) hx0 hb dL_law_390 (by decide) ?_
  refine lv_iadd hx0 hb dL_law_391 ?_
  refine va_sld hx0 hb hX hbl hbA hS (vin (k := 1) (by omega) hL) dL_law_392 ?_
  obtain ⟨r, xj, xb, mj, mb, hcX, hcM, hI2⟩ := O_fits l dC dI cI cZ te hx hm aX aM h (xs ((nI i) + (1 : Int32)).toNatClampNeg) xi xa mi ma hI
  refine CM_callW (C := RX9) (As := [.int (xs ((nI i) + (1 : Int32)).toNatClampNeg)]) (rest := []) (v := some (.int r)) ⟨hx0, hb, hml, hown, hts⟩ hcX (cwV 1 hts (gV0 kw_931 kw_932 kw_933 kw_695 kw_934) rfl rfl rfl (by decide +kernel) ⟨Nat.le_of_ble_eq_true rfl, Nat.le_of_ble_eq_true rfl⟩) (kS_env te) hK hP hD hS hA hE 0 7 rfl rfl rfl rfl hl.1 rfl (Nat.le_of_ble_eq_true rfl) dL_law_393 hcs (fun H locs hP hD hS => ?_)
  show W p l e room_1 s m #[Value.ref b] below meth c H locs cells slots Q (F0 m 396 ls [.int r])
  refine lv_aload_n hx0 hb dL_law_396 rfl (lv_at hl 2 rfl) ?_
  refine lv_aload_n hx0 hb dL_law_397 rfl (lv_at hl 0 rfl) ?_
  refine lv_iload_n hx0 hb dL_law_398 rfl (lv_at hl 3 rfl) ?_
  refine lv_iconst (v := (1 : Int32)) hx0 hb dL_law_399 (by decide) ?_
  refine lv_iadd hx0 hb dL_law_400 ?_
  refine va_sld hx0 hb hX hbl hbA hS (vin (k := 1) (by omega) hL) dL_law_401 ?_
  refine CM_callW (C := RX10) (As := [.int (xs ((nI i) + (1 : Int32)).toNatClampNeg)]) (rest := [.int r]) (v := some (.int r)) ⟨hx0, hb, hml, hown, hts⟩ hcM (cwV 1 hts (gV0 kw_935 kw_936 kw_937 kw_159 kw_938) rfl rfl rfl (by decide +kernel) ⟨Nat.le_of_ble_eq_true rfl, Nat.le_of_ble_eq_true rfl⟩) (kS_env te) hK hP hD hS hA hE 90 8 rfl rfl rfl rfl hl.1 rfl (Nat.le_of_ble_eq_true rfl) dL_law_402 hcs (fun H locs hP hD hS => ?_)
  show W p l e room_1 s m #[Value.ref b] below meth c H locs cells slots Q (F0 m 405 ls [.int r, .int r])
  refine lv_icmp_eq (tgt := 1291) hx0 hb dL_law_405 (by decide) (fun _ => ?_) (fun hne => absurd rfl hne)
  exact kk _ _ _ _ hI2 _ _ hP hD hS _ hl
set_option maxHeartbeats 8000000 in
set_option maxRecDepth 100000 in
theorem lc_steps {INV : (Nat → Int32) → (Nat → Nat → Int32) → (Nat → Int32) → (Nat → Nat → Int32) → Prop} {p : Program} {l : Launch} {e : Env} {s : State} {m : MethodId} {below : List Frame} {meth : Method} {c : Code} {dC : Nat → ClassId} {dI : Nat → Nat → Nat} {cI cZ : ClassId} {te : Nat → Nat} {hx hm : Nat} {aX aM : Nat → Nat} {b L : Nat} {xs : Nat → Int32} {cells slots : Nat} {Q : State → Prop} (hL : L ≤ 3072) (C0 : lw_At p s m meth c b L xs) (hE : kS te (fun q : Nat => s.heap.size ≤ q) s s.heap) (hK : va_K (dC, dI) vwCl (kT cI cZ) s) (h : PP_steps INV) {i : Nat} (hi : i + 6 ≤ L) (hcs : cells ≤ room_1.cells ∧ slots ≤ room_1.slots) {xi : Nat → Int32} {xa : Nat → Nat → Int32} {mi : Nat → Int32} {ma : Nat → Nat → Int32} (hI : INV xi xa mi ma)
    (kk : ∀ (xj : Nat → Int32) (xb : Nat → Nat → Int32) (mj : Nat → Int32) (mb : Nat → Nat → Int32), INV xj xb mj mb → ∀ (H : Heap) (locs : List Loc), va_P (dC, dI) vwCl (wW cI cZ hx hm aX aM xj xb mj mb) H → va_D (fun q : Nat => s.heap.size ≤ q) (wW cI cZ hx hm aX aM xj xb mj mb) → va_S (fun q : Nat => s.heap.size ≤ q) s.heap H locs → ∀ ls : Array Slot, lv_has ls 4 [(0, .ref b), (1, .ref hx), (2, .ref hm), (3, .int (nI i))] → W p l e room_1 s m #[Value.ref b] below meth c H locs cells slots Q (F0 m 1291 ls [])) :
    ∀ (H : Heap) (locs : List Loc), va_P (dC, dI) vwCl (wW cI cZ hx hm aX aM xi xa mi ma) H → va_D (fun q : Nat => s.heap.size ≤ q) (wW cI cZ hx hm aX aM xi xa mi ma) → va_S (fun q : Nat => s.heap.size ≤ q) s.heap H locs → ∀ ls : Array Slot, lv_has ls 4 [(0, .ref b), (1, .ref hx), (2, .ref hm), (3, .int (nI i))] → W p l e room_1 s m #[Value.ref b] below meth c H locs cells slots Q (F0 m 410 ls []) := by
  obtain ⟨hx0, hb, hr, hml, hown, hts, hX, hbl, hlocks, hgv⟩ := C0
  have hts : ∀ w ∈ tG, w.before #[Value.ref b] s = true := fun w h => hts w (List.mem_filter.mp h).1
  have hown : s.vm.findClass RL = some m.cls := hown
  have hA : ∀ q : Nat, s.heap.size ≤ q → (fun q : Nat => s.heap.size ≤ q) q := fun _ h => h
  have hbA : ¬ (fun q : Nat => s.heap.size ≤ q) b := Nat.not_le.mpr hbl
  intro H locs hP hD hS ls hl
  refine lv_aload_n hx0 hb dL_law_410 rfl (lv_at hl 1 rfl) ?_
  refine lv_aload_n hx0 hb dL_law_411 rfl (lv_at hl 0 rfl) ?_
  refine lv_iload_n hx0 hb dL_law_412 rfl (lv_at hl 3 rfl) ?_
  refine lv_iconst (v := (1 : Int32)) hx0 hb dL_law_413 (by decide) ?_
  refine lv_iadd hx0 hb dL_law_414 ?_
  refine va_sld hx0 hb hX hbl hbA hS (vin (k := 1) (by omega) hL) dL_law_415 ?_
  refine lv_aload_n hx0 hb dL_law_416 rfl (lv_at hl 0 rfl) ?_
  refine lv_iload_n hx0 hb dL_law_417 rfl (lv_at hl 3 rfl) ?_
  refine lv_iconst (v := (2 : Int32)) hx0 hb dL_law_418 (by decide) ?_
  refine lv_iadd hx0 hb dL_law_419 ?_
  refine va_sld hx0 hb hX hbl hbA hS (vin (k := 2) (by omega) hL) dL_law_420 ?_
  obtain ⟨r, xj, xb, mj, mb, hcX, hcM, hI2⟩ := O_steps l dC dI cI cZ te hx hm aX aM h (xs ((nI i) + (1 : Int32)).toNatClampNeg) (xs ((nI i) + (2 : Int32)).toNatClampNeg) xi xa mi ma hI
  refine CM_callW (C := RX9) (As := [.int (xs ((nI i) + (1 : Int32)).toNatClampNeg), .int (xs ((nI i) + (2 : Int32)).toNatClampNeg)]) (rest := []) (v := some (.int r)) ⟨hx0, hb, hml, hown, hts⟩ hcX (cwV 2 hts (gV0 kw_939 kw_940 kw_941 kw_695 kw_942) rfl rfl rfl (by decide +kernel) ⟨Nat.le_of_ble_eq_true rfl, Nat.le_of_ble_eq_true rfl⟩) (kS_env te) hK hP hD hS hA hE 0 7 rfl rfl rfl rfl hl.1 rfl (Nat.le_of_ble_eq_true rfl) dL_law_421 hcs (fun H locs hP hD hS => ?_)
  show W p l e room_1 s m #[Value.ref b] below meth c H locs cells slots Q (F0 m 424 ls [.int r])
  refine lv_aload_n hx0 hb dL_law_424 rfl (lv_at hl 2 rfl) ?_
  refine lv_aload_n hx0 hb dL_law_425 rfl (lv_at hl 0 rfl) ?_
  refine lv_iload_n hx0 hb dL_law_426 rfl (lv_at hl 3 rfl) ?_
  refine lv_iconst (v := (1 : Int32)) hx0 hb dL_law_427 (by decide) ?_
  refine lv_iadd hx0 hb dL_law_428 ?_
  refine va_sld hx0 hb hX hbl hbA hS (vin (k := 1) (by omega) hL) dL_law_429 ?_
  refine lv_aload_n hx0 hb dL_law_430 rfl (lv_at hl 0 rfl) ?_
  refine lv_iload_n hx0 hb dL_law_431 rfl (lv_at hl 3 rfl) ?_
  refine lv_iconst (v := (2 : Int32)) hx0 hb dL_law_432 (by decide) ?_
  refine lv_iadd hx0 hb dL_law_433 ?_
  refine va_sld hx0 hb hX hbl hbA hS (vin (k := 2) (by omega) hL) dL_law_434 ?_
  refine CM_callW (C := RX10) (As := [.int (xs ((nI i) + (1 : Int32)).toNatClampNeg), .int (xs ((nI i) + (2 : Int32)).toNatClampNeg)]) (rest := [.int r]) (v := some (.int r)) ⟨hx0, hb, hml, hown, hts⟩ hcM (cwV 2 hts (gV0 kw_943 kw_944 kw_945 kw_159 kw_946) rfl rfl rfl (by decide +kernel) ⟨Nat.le_of_ble_eq_true rfl, Nat.le_of_ble_eq_true rfl⟩) (kS_env te) hK hP hD hS hA hE 90 8 rfl rfl rfl rfl hl.1 rfl (Nat.le_of_ble_eq_true rfl) dL_law_435 hcs (fun H locs hP hD hS => ?_)
  show W p l e room_1 s m #[Value.ref b] below meth c H locs cells slots Q (F0 m 438 ls [.int r, .int r])
  refine lv_icmp_eq (tgt := 1291) hx0 hb dL_law_438 (by decide) (fun _ => ?_) (fun hne => absurd rfl hne)
  exact kk _ _ _ _ hI2 _ _ hP hD hS _ hl
set_option maxHeartbeats 8000000 in
set_option maxRecDepth 100000 in
theorem lc_home {INV : (Nat → Int32) → (Nat → Nat → Int32) → (Nat → Int32) → (Nat → Nat → Int32) → Prop} {p : Program} {l : Launch} {e : Env} {s : State} {m : MethodId} {below : List Frame} {meth : Method} {c : Code} {dC : Nat → ClassId} {dI : Nat → Nat → Nat} {cI cZ : ClassId} {te : Nat → Nat} {hx hm : Nat} {aX aM : Nat → Nat} {b L : Nat} {xs : Nat → Int32} {cells slots : Nat} {Q : State → Prop} (hL : L ≤ 3072) (C0 : lw_At p s m meth c b L xs) (hE : kS te (fun q : Nat => s.heap.size ≤ q) s s.heap) (hK : va_K (dC, dI) vwCl (kT cI cZ) s) (h : PP_home INV) {i : Nat} (hi : i + 6 ≤ L) (hcs : cells ≤ room_1.cells ∧ slots ≤ room_1.slots) {xi : Nat → Int32} {xa : Nat → Nat → Int32} {mi : Nat → Int32} {ma : Nat → Nat → Int32} (hI : INV xi xa mi ma)
    (kk : ∀ (xj : Nat → Int32) (xb : Nat → Nat → Int32) (mj : Nat → Int32) (mb : Nat → Nat → Int32), INV xj xb mj mb → ∀ (H : Heap) (locs : List Loc), va_P (dC, dI) vwCl (wW cI cZ hx hm aX aM xj xb mj mb) H → va_D (fun q : Nat => s.heap.size ≤ q) (wW cI cZ hx hm aX aM xj xb mj mb) → va_S (fun q : Nat => s.heap.size ≤ q) s.heap H locs → ∀ ls : Array Slot, lv_has ls 4 [(0, .ref b), (1, .ref hx), (2, .ref hm), (3, .int (nI i))] → W p l e room_1 s m #[Value.ref b] below meth c H locs cells slots Q (F0 m 1291 ls [])) :
    ∀ (H : Heap) (locs : List Loc), va_P (dC, dI) vwCl (wW cI cZ hx hm aX aM xi xa mi ma) H → va_D (fun q : Nat => s.heap.size ≤ q) (wW cI cZ hx hm aX aM xi xa mi ma) → va_S (fun q : Nat => s.heap.size ≤ q) s.heap H locs → ∀ ls : Array Slot, lv_has ls 4 [(0, .ref b), (1, .ref hx), (2, .ref hm), (3, .int (nI i))] → W p l e room_1 s m #[Value.ref b] below meth c H locs cells slots Q (F0 m 443 ls []) := by
  obtain ⟨hx0, hb, hr, hml, hown, hts, hX, hbl, hlocks, hgv⟩ := C0
  have hts : ∀ w ∈ tG, w.before #[Value.ref b] s = true := fun w h => hts w (List.mem_filter.mp h).1
  have hown : s.vm.findClass RL = some m.cls := hown
  have hA : ∀ q : Nat, s.heap.size ≤ q → (fun q : Nat => s.heap.size ≤ q) q := fun _ h => h
  have hbA : ¬ (fun q : Nat => s.heap.size ≤ q) b := Nat.not_le.mpr hbl
  intro H locs hP hD hS ls hl
  refine lv_aload_n hx0 hb dL_law_443 rfl (lv_at hl 1 rfl) ?_
  refine lv_aload_n hx0 hb dL_law_444 rfl (lv_at hl 0 rfl) ?_
  refine lv_iload_n hx0 hb dL_law_445 rfl (lv_at hl 3 rfl) ?_
  refine lv_iconst (v := (1 : Int32)) hx0 hb dL_law_446 (by decide) ?_
  refine lv_iadd hx0 hb dL_law_447 ?_
  refine va_sld hx0 hb hX hbl hbA hS (vin (k := 1) (by omega) hL) dL_law_448 ?_
  obtain ⟨r, xj, xb, mj, mb, hcX, hcM, hI2⟩ := O_home l dC dI cI cZ te hx hm aX aM h (xs ((nI i) + (1 : Int32)).toNatClampNeg) xi xa mi ma hI
  refine CM_callW (C := RX9) (As := [.int (xs ((nI i) + (1 : Int32)).toNatClampNeg)]) (rest := []) (v := some (.int r)) ⟨hx0, hb, hml, hown, hts⟩ hcX (cwV 1 hts (gV0 kw_947 kw_948 kw_949 kw_695 kw_950) rfl rfl rfl (by decide +kernel) ⟨Nat.le_of_ble_eq_true rfl, Nat.le_of_ble_eq_true rfl⟩) (kS_env te) hK hP hD hS hA hE 0 7 rfl rfl rfl rfl hl.1 rfl (Nat.le_of_ble_eq_true rfl) dL_law_449 hcs (fun H locs hP hD hS => ?_)
  show W p l e room_1 s m #[Value.ref b] below meth c H locs cells slots Q (F0 m 452 ls [.int r])
  refine lv_aload_n hx0 hb dL_law_452 rfl (lv_at hl 2 rfl) ?_
  refine lv_aload_n hx0 hb dL_law_453 rfl (lv_at hl 0 rfl) ?_
  refine lv_iload_n hx0 hb dL_law_454 rfl (lv_at hl 3 rfl) ?_
  refine lv_iconst (v := (1 : Int32)) hx0 hb dL_law_455 (by decide) ?_
  refine lv_iadd hx0 hb dL_law_456 ?_
  refine va_sld hx0 hb hX hbl hbA hS (vin (k := 1) (by omega) hL) dL_law_457 ?_
  refine CM_callW (C := RX10) (As := [.int (xs ((nI i) + (1 : Int32)).toNatClampNeg)]) (rest := [.int r]) (v := some (.int r)) ⟨hx0, hb, hml, hown, hts⟩ hcM (cwV 1 hts (gV0 kw_951 kw_952 kw_953 kw_159 kw_954) rfl rfl rfl (by decide +kernel) ⟨Nat.le_of_ble_eq_true rfl, Nat.le_of_ble_eq_true rfl⟩) (kS_env te) hK hP hD hS hA hE 90 8 rfl rfl rfl rfl hl.1 rfl (Nat.le_of_ble_eq_true rfl) dL_law_458 hcs (fun H locs hP hD hS => ?_)
  show W p l e room_1 s m #[Value.ref b] below meth c H locs cells slots Q (F0 m 461 ls [.int r, .int r])
  refine lv_icmp_eq (tgt := 1291) hx0 hb dL_law_461 (by decide) (fun _ => ?_) (fun hne => absurd rfl hne)
  exact kk _ _ _ _ hI2 _ _ hP hD hS _ hl
set_option maxHeartbeats 8000000 in
set_option maxRecDepth 100000 in
theorem lc_upstream {INV : (Nat → Int32) → (Nat → Nat → Int32) → (Nat → Int32) → (Nat → Nat → Int32) → Prop} {p : Program} {l : Launch} {e : Env} {s : State} {m : MethodId} {below : List Frame} {meth : Method} {c : Code} {dC : Nat → ClassId} {dI : Nat → Nat → Nat} {cI cZ : ClassId} {te : Nat → Nat} {hx hm : Nat} {aX aM : Nat → Nat} {b L : Nat} {xs : Nat → Int32} {cells slots : Nat} {Q : State → Prop} (hL : L ≤ 3072) (C0 : lw_At p s m meth c b L xs) (hE : kS te (fun q : Nat => s.heap.size ≤ q) s s.heap) (hK : va_K (dC, dI) vwCl (kT cI cZ) s) (h : PP_upstream INV) {i : Nat} (hi : i + 6 ≤ L) (hcs : cells ≤ room_1.cells ∧ slots ≤ room_1.slots) {xi : Nat → Int32} {xa : Nat → Nat → Int32} {mi : Nat → Int32} {ma : Nat → Nat → Int32} (hI : INV xi xa mi ma)
    (kk : ∀ (xj : Nat → Int32) (xb : Nat → Nat → Int32) (mj : Nat → Int32) (mb : Nat → Nat → Int32), INV xj xb mj mb → ∀ (H : Heap) (locs : List Loc), va_P (dC, dI) vwCl (wW cI cZ hx hm aX aM xj xb mj mb) H → va_D (fun q : Nat => s.heap.size ≤ q) (wW cI cZ hx hm aX aM xj xb mj mb) → va_S (fun q : Nat => s.heap.size ≤ q) s.heap H locs → ∀ ls : Array Slot, lv_has ls 4 [(0, .ref b), (1, .ref hx), (2, .ref hm), (3, .int (nI i))] → W p l e room_1 s m #[Value.ref b] below meth c H locs cells slots Q (F0 m 1291 ls [])) :
    ∀ (H : Heap) (locs : List Loc), va_P (dC, dI) vwCl (wW cI cZ hx hm aX aM xi xa mi ma) H → va_D (fun q : Nat => s.heap.size ≤ q) (wW cI cZ hx hm aX aM xi xa mi ma) → va_S (fun q : Nat => s.heap.size ≤ q) s.heap H locs → ∀ ls : Array Slot, lv_has ls 4 [(0, .ref b), (1, .ref hx), (2, .ref hm), (3, .int (nI i))] → W p l e room_1 s m #[Value.ref b] below meth c H locs cells slots Q (F0 m 466 ls []) := by
  obtain ⟨hx0, hb, hr, hml, hown, hts, hX, hbl, hlocks, hgv⟩ := C0
  have hts : ∀ w ∈ tG, w.before #[Value.ref b] s = true := fun w h => hts w (List.mem_filter.mp h).1
  have hown : s.vm.findClass RL = some m.cls := hown
  have hA : ∀ q : Nat, s.heap.size ≤ q → (fun q : Nat => s.heap.size ≤ q) q := fun _ h => h
  have hbA : ¬ (fun q : Nat => s.heap.size ≤ q) b := Nat.not_le.mpr hbl
  intro H locs hP hD hS ls hl
  refine lv_aload_n hx0 hb dL_law_466 rfl (lv_at hl 1 rfl) ?_
  refine lv_aload_n hx0 hb dL_law_467 rfl (lv_at hl 0 rfl) ?_
  refine lv_iload_n hx0 hb dL_law_468 rfl (lv_at hl 3 rfl) ?_
  refine lv_iconst (v := (1 : Int32)) hx0 hb dL_law_469 (by decide) ?_
  refine lv_iadd hx0 hb dL_law_470 ?_
  refine va_sld hx0 hb hX hbl hbA hS (vin (k := 1) (by omega) hL) dL_law_471 ?_
  obtain ⟨r, xj, xb, mj, mb, hcX, hcM, hI2⟩ := O_upstream l dC dI cI cZ te hx hm aX aM h (xs ((nI i) + (1 : Int32)).toNatClampNeg) xi xa mi ma hI
  refine CM_callW (C := RX9) (As := [.int (xs ((nI i) + (1 : Int32)).toNatClampNeg)]) (rest := []) (v := some (.int r)) ⟨hx0, hb, hml, hown, hts⟩ hcX (cwV 1 hts (gV0 kw_955 kw_956 kw_957 kw_695 kw_958) rfl rfl rfl (by decide +kernel) ⟨Nat.le_of_ble_eq_true rfl, Nat.le_of_ble_eq_true rfl⟩) (kS_env te) hK hP hD hS hA hE 0 7 rfl rfl rfl rfl hl.1 rfl (Nat.le_of_ble_eq_true rfl) dL_law_472 hcs (fun H locs hP hD hS => ?_)
  show W p l e room_1 s m #[Value.ref b] below meth c H locs cells slots Q (F0 m 475 ls [.int r])
  refine lv_aload_n hx0 hb dL_law_475 rfl (lv_at hl 2 rfl) ?_
  refine lv_aload_n hx0 hb dL_law_476 rfl (lv_at hl 0 rfl) ?_
  refine lv_iload_n hx0 hb dL_law_477 rfl (lv_at hl 3 rfl) ?_
  refine lv_iconst (v := (1 : Int32)) hx0 hb dL_law_478 (by decide) ?_
  refine lv_iadd hx0 hb dL_law_479 ?_
  refine va_sld hx0 hb hX hbl hbA hS (vin (k := 1) (by omega) hL) dL_law_480 ?_
  refine CM_callW (C := RX10) (As := [.int (xs ((nI i) + (1 : Int32)).toNatClampNeg)]) (rest := [.int r]) (v := some (.int r)) ⟨hx0, hb, hml, hown, hts⟩ hcM (cwV 1 hts (gV0 kw_959 kw_960 kw_961 kw_159 kw_962) rfl rfl rfl (by decide +kernel) ⟨Nat.le_of_ble_eq_true rfl, Nat.le_of_ble_eq_true rfl⟩) (kS_env te) hK hP hD hS hA hE 90 8 rfl rfl rfl rfl hl.1 rfl (Nat.le_of_ble_eq_true rfl) dL_law_481 hcs (fun H locs hP hD hS => ?_)
  show W p l e room_1 s m #[Value.ref b] below meth c H locs cells slots Q (F0 m 484 ls [.int r, .int r])
  refine lv_icmp_eq (tgt := 1291) hx0 hb dL_law_484 (by decide) (fun _ => ?_) (fun hne => absurd rfl hne)
  exact kk _ _ _ _ hI2 _ _ hP hD hS _ hl
set_option maxHeartbeats 8000000 in
set_option maxRecDepth 100000 in
theorem lc_scratch {INV : (Nat → Int32) → (Nat → Nat → Int32) → (Nat → Int32) → (Nat → Nat → Int32) → Prop} {p : Program} {l : Launch} {e : Env} {s : State} {m : MethodId} {below : List Frame} {meth : Method} {c : Code} {dC : Nat → ClassId} {dI : Nat → Nat → Nat} {cI cZ : ClassId} {te : Nat → Nat} {hx hm : Nat} {aX aM : Nat → Nat} {b L : Nat} {xs : Nat → Int32} {cells slots : Nat} {Q : State → Prop} (hL : L ≤ 3072) (C0 : lw_At p s m meth c b L xs) (hE : kS te (fun q : Nat => s.heap.size ≤ q) s s.heap) (hK : va_K (dC, dI) vwCl (kT cI cZ) s) (h : PP_scratch INV) {i : Nat} (hi : i + 6 ≤ L) (hcs : cells ≤ room_1.cells ∧ slots ≤ room_1.slots) {xi : Nat → Int32} {xa : Nat → Nat → Int32} {mi : Nat → Int32} {ma : Nat → Nat → Int32} (hI : INV xi xa mi ma)
    (kk : ∀ (xj : Nat → Int32) (xb : Nat → Nat → Int32) (mj : Nat → Int32) (mb : Nat → Nat → Int32), INV xj xb mj mb → ∀ (H : Heap) (locs : List Loc), va_P (dC, dI) vwCl (wW cI cZ hx hm aX aM xj xb mj mb) H → va_D (fun q : Nat => s.heap.size ≤ q) (wW cI cZ hx hm aX aM xj xb mj mb) → va_S (fun q : Nat => s.heap.size ≤ q) s.heap H locs → ∀ ls : Array Slot, lv_has ls 4 [(0, .ref b), (1, .ref hx), (2, .ref hm), (3, .int (nI i))] → W p l e room_1 s m #[Value.ref b] below meth c H locs cells slots Q (F0 m 1291 ls [])) :
    ∀ (H : Heap) (locs : List Loc), va_P (dC, dI) vwCl (wW cI cZ hx hm aX aM xi xa mi ma) H → va_D (fun q : Nat => s.heap.size ≤ q) (wW cI cZ hx hm aX aM xi xa mi ma) → va_S (fun q : Nat => s.heap.size ≤ q) s.heap H locs → ∀ ls : Array Slot, lv_has ls 4 [(0, .ref b), (1, .ref hx), (2, .ref hm), (3, .int (nI i))] → W p l e room_1 s m #[Value.ref b] below meth c H locs cells slots Q (F0 m 489 ls []) := by
  obtain ⟨hx0, hb, hr, hml, hown, hts, hX, hbl, hlocks, hgv⟩ := C0
  have hts : ∀ w ∈ tG, w.before #[Value.ref b] s = true := fun w h => hts w (List.mem_filter.mp h).1
  have hown : s.vm.findClass RL = some m.cls := hown
  have hA : ∀ q : Nat, s.heap.size ≤ q → (fun q : Nat => s.heap.size ≤ q) q := fun _ h => h
  have hbA : ¬ (fun q : Nat => s.heap.size ≤ q) b := Nat.not_le.mpr hbl
  intro H locs hP hD hS ls hl
  refine lv_aload_n hx0 hb dL_law_489 rfl (lv_at hl 1 rfl) ?_
  refine lv_aload_n hx0 hb dL_law_490 rfl (lv_at hl 0 rfl) ?_
  refine lv_iload_n hx0 hb dL_law_491 rfl (lv_at hl 3 rfl) ?_
  refine lv_iconst (v := (1 : Int32)) hx0 hb dL_law_492 (by decide) ?_
  refine lv_iadd hx0 hb dL_law_493 ?_
  refine va_sld hx0 hb hX hbl hbA hS (vin (k := 1) (by omega) hL) dL_law_494 ?_
  refine lv_aload_n hx0 hb dL_law_495 rfl (lv_at hl 0 rfl) ?_
  refine lv_iload_n hx0 hb dL_law_496 rfl (lv_at hl 3 rfl) ?_
  refine lv_iconst (v := (2 : Int32)) hx0 hb dL_law_497 (by decide) ?_
  refine lv_iadd hx0 hb dL_law_498 ?_
  refine va_sld hx0 hb hX hbl hbA hS (vin (k := 2) (by omega) hL) dL_law_499 ?_
  obtain ⟨r, xj, xb, mj, mb, hcX, hcM, hI2⟩ := O_scratch l dC dI cI cZ te hx hm aX aM h (xs ((nI i) + (1 : Int32)).toNatClampNeg) (xs ((nI i) + (2 : Int32)).toNatClampNeg) xi xa mi ma hI
  refine CM_callW (C := RX9) (As := [.int (xs ((nI i) + (1 : Int32)).toNatClampNeg), .int (xs ((nI i) + (2 : Int32)).toNatClampNeg)]) (rest := []) (v := some (.int r)) ⟨hx0, hb, hml, hown, hts⟩ hcX (cwV 2 hts (gV0 kw_963 kw_861 kw_862 kw_695 kw_863) rfl rfl rfl (by decide +kernel) ⟨Nat.le_of_ble_eq_true rfl, Nat.le_of_ble_eq_true rfl⟩) (kS_env te) hK hP hD hS hA hE 0 7 rfl rfl rfl rfl hl.1 rfl (Nat.le_of_ble_eq_true rfl) dL_law_500 hcs (fun H locs hP hD hS => ?_)
  show W p l e room_1 s m #[Value.ref b] below meth c H locs cells slots Q (F0 m 503 ls [.int r])
  refine lv_aload_n hx0 hb dL_law_503 rfl (lv_at hl 2 rfl) ?_
  refine lv_aload_n hx0 hb dL_law_504 rfl (lv_at hl 0 rfl) ?_
  refine lv_iload_n hx0 hb dL_law_505 rfl (lv_at hl 3 rfl) ?_
  refine lv_iconst (v := (1 : Int32)) hx0 hb dL_law_506 (by decide) ?_
  refine lv_iadd hx0 hb dL_law_507 ?_
  refine va_sld hx0 hb hX hbl hbA hS (vin (k := 1) (by omega) hL) dL_law_508 ?_
  refine lv_aload_n hx0 hb dL_law_509 rfl (lv_at hl 0 rfl) ?_
  refine lv_iload_n hx0 hb dL_law_510 rfl (lv_at hl 3 rfl) ?_
  refine lv_iconst (v := (2 : Int32)) hx0 hb dL_law_511 (by decide) ?_
  refine lv_iadd hx0 hb dL_law_512 ?_
  refine va_sld hx0 hb hX hbl hbA hS (vin (k := 2) (by omega) hL) dL_law_513 ?_
  refine CM_callW (C := RX10) (As := [.int (xs ((nI i) + (1 : Int32)).toNatClampNeg), .int (xs ((nI i) + (2 : Int32)).toNatClampNeg)]) (rest := [.int r]) (v := some (.int r)) ⟨hx0, hb, hml, hown, hts⟩ hcM (cwV 2 hts (gV0 kw_964 kw_371 kw_372 kw_159 kw_373) rfl rfl rfl (by decide +kernel) ⟨Nat.le_of_ble_eq_true rfl, Nat.le_of_ble_eq_true rfl⟩) (kS_env te) hK hP hD hS hA hE 90 8 rfl rfl rfl rfl hl.1 rfl (Nat.le_of_ble_eq_true rfl) dL_law_514 hcs (fun H locs hP hD hS => ?_)
  show W p l e room_1 s m #[Value.ref b] below meth c H locs cells slots Q (F0 m 517 ls [.int r, .int r])
  refine lv_icmp_eq (tgt := 1291) hx0 hb dL_law_517 (by decide) (fun _ => ?_) (fun hne => absurd rfl hne)
  exact kk _ _ _ _ hI2 _ _ hP hD hS _ hl
set_option maxHeartbeats 8000000 in
set_option maxRecDepth 100000 in
theorem lc_put {INV : (Nat → Int32) → (Nat → Nat → Int32) → (Nat → Int32) → (Nat → Nat → Int32) → Prop} {p : Program} {l : Launch} {e : Env} {s : State} {m : MethodId} {below : List Frame} {meth : Method} {c : Code} {dC : Nat → ClassId} {dI : Nat → Nat → Nat} {cI cZ : ClassId} {te : Nat → Nat} {hx hm : Nat} {aX aM : Nat → Nat} {b L : Nat} {xs : Nat → Int32} {cells slots : Nat} {Q : State → Prop} (hL : L ≤ 3072) (C0 : lw_At p s m meth c b L xs) (hE : kS te (fun q : Nat => s.heap.size ≤ q) s s.heap) (hK : va_K (dC, dI) vwCl (kT cI cZ) s) (h : PP_put INV) {i : Nat} (hi : i + 6 ≤ L) (hcs : cells ≤ room_1.cells ∧ slots ≤ room_1.slots) {xi : Nat → Int32} {xa : Nat → Nat → Int32} {mi : Nat → Int32} {ma : Nat → Nat → Int32} (hI : INV xi xa mi ma)
    (kk : ∀ (xj : Nat → Int32) (xb : Nat → Nat → Int32) (mj : Nat → Int32) (mb : Nat → Nat → Int32), INV xj xb mj mb → ∀ (H : Heap) (locs : List Loc), va_P (dC, dI) vwCl (wW cI cZ hx hm aX aM xj xb mj mb) H → va_D (fun q : Nat => s.heap.size ≤ q) (wW cI cZ hx hm aX aM xj xb mj mb) → va_S (fun q : Nat => s.heap.size ≤ q) s.heap H locs → ∀ ls : Array Slot, lv_has ls 4 [(0, .ref b), (1, .ref hx), (2, .ref hm), (3, .int (nI i))] → W p l e room_1 s m #[Value.ref b] below meth c H locs cells slots Q (F0 m 1291 ls [])) :
    ∀ (H : Heap) (locs : List Loc), va_P (dC, dI) vwCl (wW cI cZ hx hm aX aM xi xa mi ma) H → va_D (fun q : Nat => s.heap.size ≤ q) (wW cI cZ hx hm aX aM xi xa mi ma) → va_S (fun q : Nat => s.heap.size ≤ q) s.heap H locs → ∀ ls : Array Slot, lv_has ls 4 [(0, .ref b), (1, .ref hx), (2, .ref hm), (3, .int (nI i))] → W p l e room_1 s m #[Value.ref b] below meth c H locs cells slots Q (F0 m 522 ls []) := by
  obtain ⟨hx0, hb, hr, hml, hown, hts, hX, hbl, hlocks, hgv⟩ := C0
  have hts : ∀ w ∈ tG, w.before #[Value.ref b] s = true := fun w h => hts w (List.mem_filter.mp h).1
  have hown : s.vm.findClass RL = some m.cls := hown
  have hA : ∀ q : Nat, s.heap.size ≤ q → (fun q : Nat => s.heap.size ≤ q) q := fun _ h => h
  have hbA : ¬ (fun q : Nat => s.heap.size ≤ q) b := Nat.not_le.mpr hbl
  intro H locs hP hD hS ls hl
  refine lv_aload_n hx0 hb dL_law_522 rfl (lv_at hl 1 rfl) ?_
  refine lv_aload_n hx0 hb dL_law_523 rfl (lv_at hl 0 rfl) ?_
  refine lv_iload_n hx0 hb dL_law_524 rfl (lv_at hl 3 rfl) ?_
  refine lv_iconst (v := (1 : Int32)) hx0 hb dL_law_525 (by decide) ?_
  refine lv_iadd hx0 hb dL_law_526 ?_
  refine va_sld hx0 hb hX hbl hbA hS (vin (k := 1) (by omega) hL) dL_law_527 ?_
  refine lv_aload_n hx0 hb dL_law_528 rfl (lv_at hl 0 rfl) ?_
  refine lv_iload_n hx0 hb dL_law_529 rfl (lv_at hl 3 rfl) ?_
  refine lv_iconst (v := (2 : Int32)) hx0 hb dL_law_530 (by decide) ?_
  refine lv_iadd hx0 hb dL_law_531 ?_
  refine va_sld hx0 hb hX hbl hbA hS (vin (k := 2) (by omega) hL) dL_law_532 ?_
  obtain ⟨r, xj, xb, mj, mb, hcX, hcM, hI2⟩ := O_put l dC dI cI cZ te hx hm aX aM h (xs ((nI i) + (1 : Int32)).toNatClampNeg) (xs ((nI i) + (2 : Int32)).toNatClampNeg) xi xa mi ma hI
  refine CM_callW (C := RX9) (As := [.int (xs ((nI i) + (1 : Int32)).toNatClampNeg), .int (xs ((nI i) + (2 : Int32)).toNatClampNeg)]) (rest := []) (v := some (.int r)) ⟨hx0, hb, hml, hown, hts⟩ hcX (cwV 2 hts (gV0 kw_965 kw_966 kw_967 kw_695 kw_968) rfl rfl rfl (by decide +kernel) ⟨Nat.le_of_ble_eq_true rfl, Nat.le_of_ble_eq_true rfl⟩) (kS_env te) hK hP hD hS hA hE 0 7 rfl rfl rfl rfl hl.1 rfl (Nat.le_of_ble_eq_true rfl) dL_law_533 hcs (fun H locs hP hD hS => ?_)
  show W p l e room_1 s m #[Value.ref b] below meth c H locs cells slots Q (F0 m 536 ls [.int r])
  refine lv_aload_n hx0 hb dL_law_536 rfl (lv_at hl 2 rfl) ?_
  refine lv_aload_n hx0 hb dL_law_537 rfl (lv_at hl 0 rfl) ?_
  refine lv_iload_n hx0 hb dL_law_538 rfl (lv_at hl 3 rfl) ?_
  refine lv_iconst (v := (1 : Int32)) hx0 hb dL_law_539 (by decide) ?_
  refine lv_iadd hx0 hb dL_law_540 ?_
  refine va_sld hx0 hb hX hbl hbA hS (vin (k := 1) (by omega) hL) dL_law_541 ?_
  refine lv_aload_n hx0 hb dL_law_542 rfl (lv_at hl 0 rfl) ?_
  refine lv_iload_n hx0 hb dL_law_543 rfl (lv_at hl 3 rfl) ?_
  refine lv_iconst (v := (2 : Int32)) hx0 hb dL_law_544 (by decide) ?_
  refine lv_iadd hx0 hb dL_law_545 ?_
  refine va_sld hx0 hb hX hbl hbA hS (vin (k := 2) (by omega) hL) dL_law_546 ?_
  refine CM_callW (C := RX10) (As := [.int (xs ((nI i) + (1 : Int32)).toNatClampNeg), .int (xs ((nI i) + (2 : Int32)).toNatClampNeg)]) (rest := [.int r]) (v := some (.int r)) ⟨hx0, hb, hml, hown, hts⟩ hcM (cwV 2 hts (gV0 kw_969 kw_970 kw_971 kw_159 kw_972) rfl rfl rfl (by decide +kernel) ⟨Nat.le_of_ble_eq_true rfl, Nat.le_of_ble_eq_true rfl⟩) (kS_env te) hK hP hD hS hA hE 90 8 rfl rfl rfl rfl hl.1 rfl (Nat.le_of_ble_eq_true rfl) dL_law_547 hcs (fun H locs hP hD hS => ?_)
  show W p l e room_1 s m #[Value.ref b] below meth c H locs cells slots Q (F0 m 550 ls [.int r, .int r])
  refine lv_icmp_eq (tgt := 1291) hx0 hb dL_law_550 (by decide) (fun _ => ?_) (fun hne => absurd rfl hne)
  exact kk _ _ _ _ hI2 _ _ hP hD hS _ hl
set_option maxHeartbeats 8000000 in
set_option maxRecDepth 100000 in
theorem lc_may {INV : (Nat → Int32) → (Nat → Nat → Int32) → (Nat → Int32) → (Nat → Nat → Int32) → Prop} {p : Program} {l : Launch} {e : Env} {s : State} {m : MethodId} {below : List Frame} {meth : Method} {c : Code} {dC : Nat → ClassId} {dI : Nat → Nat → Nat} {cI cZ : ClassId} {te : Nat → Nat} {hx hm : Nat} {aX aM : Nat → Nat} {b L : Nat} {xs : Nat → Int32} {cells slots : Nat} {Q : State → Prop} (hL : L ≤ 3072) (C0 : lw_At p s m meth c b L xs) (hE : kS te (fun q : Nat => s.heap.size ≤ q) s s.heap) (hK : va_K (dC, dI) vwCl (kT cI cZ) s) (h : PP_may INV) {i : Nat} (hi : i + 6 ≤ L) (hcs : cells ≤ room_1.cells ∧ slots ≤ room_1.slots) {xi : Nat → Int32} {xa : Nat → Nat → Int32} {mi : Nat → Int32} {ma : Nat → Nat → Int32} (hI : INV xi xa mi ma)
    (kk : ∀ (xj : Nat → Int32) (xb : Nat → Nat → Int32) (mj : Nat → Int32) (mb : Nat → Nat → Int32), INV xj xb mj mb → ∀ (H : Heap) (locs : List Loc), va_P (dC, dI) vwCl (wW cI cZ hx hm aX aM xj xb mj mb) H → va_D (fun q : Nat => s.heap.size ≤ q) (wW cI cZ hx hm aX aM xj xb mj mb) → va_S (fun q : Nat => s.heap.size ≤ q) s.heap H locs → ∀ ls : Array Slot, lv_has ls 4 [(0, .ref b), (1, .ref hx), (2, .ref hm), (3, .int (nI i))] → W p l e room_1 s m #[Value.ref b] below meth c H locs cells slots Q (F0 m 1291 ls [])) :
    ∀ (H : Heap) (locs : List Loc), va_P (dC, dI) vwCl (wW cI cZ hx hm aX aM xi xa mi ma) H → va_D (fun q : Nat => s.heap.size ≤ q) (wW cI cZ hx hm aX aM xi xa mi ma) → va_S (fun q : Nat => s.heap.size ≤ q) s.heap H locs → ∀ ls : Array Slot, lv_has ls 4 [(0, .ref b), (1, .ref hx), (2, .ref hm), (3, .int (nI i))] → W p l e room_1 s m #[Value.ref b] below meth c H locs cells slots Q (F0 m 555 ls []) := by
  obtain ⟨hx0, hb, hr, hml, hown, hts, hX, hbl, hlocks, hgv⟩ := C0
  have hts : ∀ w ∈ tG, w.before #[Value.ref b] s = true := fun w h => hts w (List.mem_filter.mp h).1
  have hown : s.vm.findClass RL = some m.cls := hown
  have hA : ∀ q : Nat, s.heap.size ≤ q → (fun q : Nat => s.heap.size ≤ q) q := fun _ h => h
  have hbA : ¬ (fun q : Nat => s.heap.size ≤ q) b := Nat.not_le.mpr hbl
  intro H locs hP hD hS ls hl
  refine lv_aload_n hx0 hb dL_law_555 rfl (lv_at hl 1 rfl) ?_
  refine lv_aload_n hx0 hb dL_law_556 rfl (lv_at hl 0 rfl) ?_
  refine lv_iload_n hx0 hb dL_law_557 rfl (lv_at hl 3 rfl) ?_
  refine lv_iconst (v := (1 : Int32)) hx0 hb dL_law_558 (by decide) ?_
  refine lv_iadd hx0 hb dL_law_559 ?_
  refine va_sld hx0 hb hX hbl hbA hS (vin (k := 1) (by omega) hL) dL_law_560 ?_
  obtain ⟨r, xj, xb, mj, mb, hcX, hcM, hI2⟩ := O_may l dC dI cI cZ te hx hm aX aM h (xs ((nI i) + (1 : Int32)).toNatClampNeg) xi xa mi ma hI
  refine CM_callW (C := RX9) (As := [.int (xs ((nI i) + (1 : Int32)).toNatClampNeg)]) (rest := []) (v := some (.int r)) ⟨hx0, hb, hml, hown, hts⟩ hcX (cwV 1 hts (gV0 kw_973 kw_974 kw_975 kw_695 kw_976) rfl rfl rfl (by decide +kernel) ⟨Nat.le_of_ble_eq_true rfl, Nat.le_of_ble_eq_true rfl⟩) (kS_env te) hK hP hD hS hA hE 0 7 rfl rfl rfl rfl hl.1 rfl (Nat.le_of_ble_eq_true rfl) dL_law_561 hcs (fun H locs hP hD hS => ?_)
  show W p l e room_1 s m #[Value.ref b] below meth c H locs cells slots Q (F0 m 564 ls [.int r])
  refine lv_aload_n hx0 hb dL_law_564 rfl (lv_at hl 2 rfl) ?_
  refine lv_aload_n hx0 hb dL_law_565 rfl (lv_at hl 0 rfl) ?_
  refine lv_iload_n hx0 hb dL_law_566 rfl (lv_at hl 3 rfl) ?_
  refine lv_iconst (v := (1 : Int32)) hx0 hb dL_law_567 (by decide) ?_
  refine lv_iadd hx0 hb dL_law_568 ?_
  refine va_sld hx0 hb hX hbl hbA hS (vin (k := 1) (by omega) hL) dL_law_569 ?_
  refine CM_callW (C := RX10) (As := [.int (xs ((nI i) + (1 : Int32)).toNatClampNeg)]) (rest := [.int r]) (v := some (.int r)) ⟨hx0, hb, hml, hown, hts⟩ hcM (cwV 1 hts (gV0 kw_977 kw_978 kw_979 kw_159 kw_980) rfl rfl rfl (by decide +kernel) ⟨Nat.le_of_ble_eq_true rfl, Nat.le_of_ble_eq_true rfl⟩) (kS_env te) hK hP hD hS hA hE 90 8 rfl rfl rfl rfl hl.1 rfl (Nat.le_of_ble_eq_true rfl) dL_law_570 hcs (fun H locs hP hD hS => ?_)
  show W p l e room_1 s m #[Value.ref b] below meth c H locs cells slots Q (F0 m 573 ls [.int r, .int r])
  refine lv_icmp_eq (tgt := 1291) hx0 hb dL_law_573 (by decide) (fun _ => ?_) (fun hne => absurd rfl hne)
  exact kk _ _ _ _ hI2 _ _ hP hD hS _ hl
set_option maxHeartbeats 8000000 in
set_option maxRecDepth 100000 in
theorem lc_laid {INV : (Nat → Int32) → (Nat → Nat → Int32) → (Nat → Int32) → (Nat → Nat → Int32) → Prop} {p : Program} {l : Launch} {e : Env} {s : State} {m : MethodId} {below : List Frame} {meth : Method} {c : Code} {dC : Nat → ClassId} {dI : Nat → Nat → Nat} {cI cZ : ClassId} {te : Nat → Nat} {hx hm : Nat} {aX aM : Nat → Nat} {b L : Nat} {xs : Nat → Int32} {cells slots : Nat} {Q : State → Prop} (hL : L ≤ 3072) (C0 : lw_At p s m meth c b L xs) (hE : kS te (fun q : Nat => s.heap.size ≤ q) s s.heap) (hK : va_K (dC, dI) vwCl (kT cI cZ) s) (h : PP_laid INV) {i : Nat} (hi : i + 6 ≤ L) (hcs : cells ≤ room_1.cells ∧ slots ≤ room_1.slots) {xi : Nat → Int32} {xa : Nat → Nat → Int32} {mi : Nat → Int32} {ma : Nat → Nat → Int32} (hI : INV xi xa mi ma)
    (kk : ∀ (xj : Nat → Int32) (xb : Nat → Nat → Int32) (mj : Nat → Int32) (mb : Nat → Nat → Int32), INV xj xb mj mb → ∀ (H : Heap) (locs : List Loc), va_P (dC, dI) vwCl (wW cI cZ hx hm aX aM xj xb mj mb) H → va_D (fun q : Nat => s.heap.size ≤ q) (wW cI cZ hx hm aX aM xj xb mj mb) → va_S (fun q : Nat => s.heap.size ≤ q) s.heap H locs → ∀ ls : Array Slot, lv_has ls 4 [(0, .ref b), (1, .ref hx), (2, .ref hm), (3, .int (nI i))] → W p l e room_1 s m #[Value.ref b] below meth c H locs cells slots Q (F0 m 1291 ls [])) :
    ∀ (H : Heap) (locs : List Loc), va_P (dC, dI) vwCl (wW cI cZ hx hm aX aM xi xa mi ma) H → va_D (fun q : Nat => s.heap.size ≤ q) (wW cI cZ hx hm aX aM xi xa mi ma) → va_S (fun q : Nat => s.heap.size ≤ q) s.heap H locs → ∀ ls : Array Slot, lv_has ls 4 [(0, .ref b), (1, .ref hx), (2, .ref hm), (3, .int (nI i))] → W p l e room_1 s m #[Value.ref b] below meth c H locs cells slots Q (F0 m 578 ls []) := by
  obtain ⟨hx0, hb, hr, hml, hown, hts, hX, hbl, hlocks, hgv⟩ := C0
  have hts : ∀ w ∈ tG, w.before #[Value.ref b] s = true := fun w h => hts w (List.mem_filter.mp h).1
  have hown : s.vm.findClass RL = some m.cls := hown
  have hA : ∀ q : Nat, s.heap.size ≤ q → (fun q : Nat => s.heap.size ≤ q) q := fun _ h => h
  have hbA : ¬ (fun q : Nat => s.heap.size ≤ q) b := Nat.not_le.mpr hbl
  intro H locs hP hD hS ls hl
  refine lv_aload_n hx0 hb dL_law_578 rfl (lv_at hl 1 rfl) ?_
  refine lv_aload_n hx0 hb dL_law_579 rfl (lv_at hl 0 rfl) ?_
  refine lv_iload_n hx0 hb dL_law_580 rfl (lv_at hl 3 rfl) ?_
  refine lv_iconst (v := (1 : Int32)) hx0 hb dL_law_581 (by decide) ?_
  refine lv_iadd hx0 hb dL_law_582 ?_
  refine va_sld hx0 hb hX hbl hbA hS (vin (k := 1) (by omega) hL) dL_law_583 ?_
  obtain ⟨r, xj, xb, mj, mb, hcX, hcM, hI2⟩ := O_laid l dC dI cI cZ te hx hm aX aM h (xs ((nI i) + (1 : Int32)).toNatClampNeg) xi xa mi ma hI
  refine CM_callW (C := RX9) (As := [.int (xs ((nI i) + (1 : Int32)).toNatClampNeg)]) (rest := []) (v := some (.int r)) ⟨hx0, hb, hml, hown, hts⟩ hcX (cwV 1 hts (gV0 kw_981 kw_982 kw_983 kw_695 kw_984) rfl rfl rfl (by decide +kernel) ⟨Nat.le_of_ble_eq_true rfl, Nat.le_of_ble_eq_true rfl⟩) (kS_env te) hK hP hD hS hA hE 0 7 rfl rfl rfl rfl hl.1 rfl (Nat.le_of_ble_eq_true rfl) dL_law_584 hcs (fun H locs hP hD hS => ?_)
  show W p l e room_1 s m #[Value.ref b] below meth c H locs cells slots Q (F0 m 587 ls [.int r])
  refine lv_aload_n hx0 hb dL_law_587 rfl (lv_at hl 2 rfl) ?_
  refine lv_aload_n hx0 hb dL_law_588 rfl (lv_at hl 0 rfl) ?_
  refine lv_iload_n hx0 hb dL_law_589 rfl (lv_at hl 3 rfl) ?_
  refine lv_iconst (v := (1 : Int32)) hx0 hb dL_law_590 (by decide) ?_
  refine lv_iadd hx0 hb dL_law_591 ?_
  refine va_sld hx0 hb hX hbl hbA hS (vin (k := 1) (by omega) hL) dL_law_592 ?_
  refine CM_callW (C := RX10) (As := [.int (xs ((nI i) + (1 : Int32)).toNatClampNeg)]) (rest := [.int r]) (v := some (.int r)) ⟨hx0, hb, hml, hown, hts⟩ hcM (cwV 1 hts (gV0 kw_985 kw_986 kw_987 kw_159 kw_988) rfl rfl rfl (by decide +kernel) ⟨Nat.le_of_ble_eq_true rfl, Nat.le_of_ble_eq_true rfl⟩) (kS_env te) hK hP hD hS hA hE 90 8 rfl rfl rfl rfl hl.1 rfl (Nat.le_of_ble_eq_true rfl) dL_law_593 hcs (fun H locs hP hD hS => ?_)
  show W p l e room_1 s m #[Value.ref b] below meth c H locs cells slots Q (F0 m 596 ls [.int r, .int r])
  refine lv_icmp_eq (tgt := 1291) hx0 hb dL_law_596 (by decide) (fun _ => ?_) (fun hne => absurd rfl hne)
  exact kk _ _ _ _ hI2 _ _ hP hD hS _ hl
set_option maxHeartbeats 8000000 in
set_option maxRecDepth 100000 in
theorem lc_ridge {INV : (Nat → Int32) → (Nat → Nat → Int32) → (Nat → Int32) → (Nat → Nat → Int32) → Prop} {p : Program} {l : Launch} {e : Env} {s : State} {m : MethodId} {below : List Frame} {meth : Method} {c : Code} {dC : Nat → ClassId} {dI : Nat → Nat → Nat} {cI cZ : ClassId} {te : Nat → Nat} {hx hm : Nat} {aX aM : Nat → Nat} {b L : Nat} {xs : Nat → Int32} {cells slots : Nat} {Q : State → Prop} (hL : L ≤ 3072) (C0 : lw_At p s m meth c b L xs) (hE : kS te (fun q : Nat => s.heap.size ≤ q) s s.heap) (hK : va_K (dC, dI) vwCl (kT cI cZ) s) (h : PP_ridge INV) {i : Nat} (hi : i + 6 ≤ L) (hcs : cells ≤ room_1.cells ∧ slots ≤ room_1.slots) {xi : Nat → Int32} {xa : Nat → Nat → Int32} {mi : Nat → Int32} {ma : Nat → Nat → Int32} (hI : INV xi xa mi ma)
    (kk : ∀ (xj : Nat → Int32) (xb : Nat → Nat → Int32) (mj : Nat → Int32) (mb : Nat → Nat → Int32), INV xj xb mj mb → ∀ (H : Heap) (locs : List Loc), va_P (dC, dI) vwCl (wW cI cZ hx hm aX aM xj xb mj mb) H → va_D (fun q : Nat => s.heap.size ≤ q) (wW cI cZ hx hm aX aM xj xb mj mb) → va_S (fun q : Nat => s.heap.size ≤ q) s.heap H locs → ∀ ls : Array Slot, lv_has ls 4 [(0, .ref b), (1, .ref hx), (2, .ref hm), (3, .int (nI i))] → W p l e room_1 s m #[Value.ref b] below meth c H locs cells slots Q (F0 m 1291 ls [])) :
    ∀ (H : Heap) (locs : List Loc), va_P (dC, dI) vwCl (wW cI cZ hx hm aX aM xi xa mi ma) H → va_D (fun q : Nat => s.heap.size ≤ q) (wW cI cZ hx hm aX aM xi xa mi ma) → va_S (fun q : Nat => s.heap.size ≤ q) s.heap H locs → ∀ ls : Array Slot, lv_has ls 4 [(0, .ref b), (1, .ref hx), (2, .ref hm), (3, .int (nI i))] → W p l e room_1 s m #[Value.ref b] below meth c H locs cells slots Q (F0 m 601 ls []) := by
  obtain ⟨hx0, hb, hr, hml, hown, hts, hX, hbl, hlocks, hgv⟩ := C0
  have hts : ∀ w ∈ tG, w.before #[Value.ref b] s = true := fun w h => hts w (List.mem_filter.mp h).1
  have hown : s.vm.findClass RL = some m.cls := hown
  have hA : ∀ q : Nat, s.heap.size ≤ q → (fun q : Nat => s.heap.size ≤ q) q := fun _ h => h
  have hbA : ¬ (fun q : Nat => s.heap.size ≤ q) b := Nat.not_le.mpr hbl
  intro H locs hP hD hS ls hl
  refine lv_aload_n hx0 hb dL_law_601 rfl (lv_at hl 1 rfl) ?_
  obtain ⟨r, xj, xb, mj, mb, hcX, hcM, hI2⟩ := O_ridge l dC dI cI cZ te hx hm aX aM h xi xa mi ma hI
  refine CM_callW (C := RX9) (As := []) (rest := []) (v := some (.int r)) ⟨hx0, hb, hml, hown, hts⟩ hcX (cwV 0 hts (gV0 kw_989 kw_865 kw_866 kw_695 kw_867) rfl rfl rfl (by decide +kernel) ⟨Nat.le_of_ble_eq_true rfl, Nat.le_of_ble_eq_true rfl⟩) (kS_env te) hK hP hD hS hA hE 0 7 rfl rfl rfl rfl hl.1 rfl (Nat.le_of_ble_eq_true rfl) dL_law_602 hcs (fun H locs hP hD hS => ?_)
  show W p l e room_1 s m #[Value.ref b] below meth c H locs cells slots Q (F0 m 605 ls [.int r])
  refine lv_aload_n hx0 hb dL_law_605 rfl (lv_at hl 2 rfl) ?_
  refine CM_callW (C := RX10) (As := []) (rest := [.int r]) (v := some (.int r)) ⟨hx0, hb, hml, hown, hts⟩ hcM (cwV 0 hts (gV0 kw_990 kw_375 kw_376 kw_159 kw_377) rfl rfl rfl (by decide +kernel) ⟨Nat.le_of_ble_eq_true rfl, Nat.le_of_ble_eq_true rfl⟩) (kS_env te) hK hP hD hS hA hE 90 8 rfl rfl rfl rfl hl.1 rfl (Nat.le_of_ble_eq_true rfl) dL_law_606 hcs (fun H locs hP hD hS => ?_)
  show W p l e room_1 s m #[Value.ref b] below meth c H locs cells slots Q (F0 m 609 ls [.int r, .int r])
  refine lv_icmp_eq (tgt := 1291) hx0 hb dL_law_609 (by decide) (fun _ => ?_) (fun hne => absurd rfl hne)
  exact kk _ _ _ _ hI2 _ _ hP hD hS _ hl
set_option maxHeartbeats 8000000 in
set_option maxRecDepth 100000 in
theorem lc_fact {INV : (Nat → Int32) → (Nat → Nat → Int32) → (Nat → Int32) → (Nat → Nat → Int32) → Prop} {p : Program} {l : Launch} {e : Env} {s : State} {m : MethodId} {below : List Frame} {meth : Method} {c : Code} {dC : Nat → ClassId} {dI : Nat → Nat → Nat} {cI cZ : ClassId} {te : Nat → Nat} {hx hm : Nat} {aX aM : Nat → Nat} {b L : Nat} {xs : Nat → Int32} {cells slots : Nat} {Q : State → Prop} (hL : L ≤ 3072) (C0 : lw_At p s m meth c b L xs) (hE : kS te (fun q : Nat => s.heap.size ≤ q) s s.heap) (hK : va_K (dC, dI) vwCl (kT cI cZ) s) (h : PP_fact INV) {i : Nat} (hi : i + 6 ≤ L) (hcs : cells ≤ room_1.cells ∧ slots ≤ room_1.slots) {xi : Nat → Int32} {xa : Nat → Nat → Int32} {mi : Nat → Int32} {ma : Nat → Nat → Int32} (hI : INV xi xa mi ma)
    (kk : ∀ (xj : Nat → Int32) (xb : Nat → Nat → Int32) (mj : Nat → Int32) (mb : Nat → Nat → Int32), INV xj xb mj mb → ∀ (H : Heap) (locs : List Loc), va_P (dC, dI) vwCl (wW cI cZ hx hm aX aM xj xb mj mb) H → va_D (fun q : Nat => s.heap.size ≤ q) (wW cI cZ hx hm aX aM xj xb mj mb) → va_S (fun q : Nat => s.heap.size ≤ q) s.heap H locs → ∀ ls : Array Slot, lv_has ls 4 [(0, .ref b), (1, .ref hx), (2, .ref hm), (3, .int (nI i))] → W p l e room_1 s m #[Value.ref b] below meth c H locs cells slots Q (F0 m 1291 ls [])) :
    ∀ (H : Heap) (locs : List Loc), va_P (dC, dI) vwCl (wW cI cZ hx hm aX aM xi xa mi ma) H → va_D (fun q : Nat => s.heap.size ≤ q) (wW cI cZ hx hm aX aM xi xa mi ma) → va_S (fun q : Nat => s.heap.size ≤ q) s.heap H locs → ∀ ls : Array Slot, lv_has ls 4 [(0, .ref b), (1, .ref hx), (2, .ref hm), (3, .int (nI i))] → W p l e room_1 s m #[Value.ref b] below meth c H locs cells slots Q (F0 m 614 ls []) := by
  obtain ⟨hx0, hb, hr, hml, hown, hts, hX, hbl, hlocks, hgv⟩ := C0
  have hts : ∀ w ∈ tG, w.before #[Value.ref b] s = true := fun w h => hts w (List.mem_filter.mp h).1
  have hown : s.vm.findClass RL = some m.cls := hown
  have hA : ∀ q : Nat, s.heap.size ≤ q → (fun q : Nat => s.heap.size ≤ q) q := fun _ h => h
  have hbA : ¬ (fun q : Nat => s.heap.size ≤ q) b := Nat.not_le.mpr hbl
  intro H locs hP hD hS ls hl
  refine lv_aload_n hx0 hb dL_law_614 rfl (lv_at hl 1 rfl) ?_
  refine lv_aload_n hx0 hb dL_law_615 rfl (lv_at hl 0 rfl) ?_
  refine lv_iload_n hx0 hb dL_law_616 rfl (lv_at hl 3 rfl) ?_
  refine lv_iconst (v := (1 : Int32)) hx0 hb dL_law_617 (by decide) ?_
  refine lv_iadd hx0 hb dL_law_618 ?_
  refine va_sld hx0 hb hX hbl hbA hS (vin (k := 1) (by omega) hL) dL_law_619 ?_
  refine lv_aload_n hx0 hb dL_law_620 rfl (lv_at hl 0 rfl) ?_
  refine lv_iload_n hx0 hb dL_law_621 rfl (lv_at hl 3 rfl) ?_
  refine lv_iconst (v := (2 : Int32)) hx0 hb dL_law_622 (by decide) ?_
  refine lv_iadd hx0 hb dL_law_623 ?_
  refine va_sld hx0 hb hX hbl hbA hS (vin (k := 2) (by omega) hL) dL_law_624 ?_
  refine lv_aload_n hx0 hb dL_law_625 rfl (lv_at hl 0 rfl) ?_
  refine lv_iload_n hx0 hb dL_law_626 rfl (lv_at hl 3 rfl) ?_
  refine lv_iconst (v := (3 : Int32)) hx0 hb dL_law_627 (by decide) ?_
  refine lv_iadd hx0 hb dL_law_628 ?_
  refine va_sld hx0 hb hX hbl hbA hS (vin (k := 3) (by omega) hL) dL_law_629 ?_
  refine lv_aload_n hx0 hb dL_law_630 rfl (lv_at hl 0 rfl) ?_
  refine lv_iload_n hx0 hb dL_law_631 rfl (lv_at hl 3 rfl) ?_
  refine lv_iconst (v := (4 : Int32)) hx0 hb dL_law_632 (by decide) ?_
  refine lv_iadd hx0 hb dL_law_633 ?_
  refine va_sld hx0 hb hX hbl hbA hS (vin (k := 4) (by omega) hL) dL_law_634 ?_
  refine lv_aload_n hx0 hb dL_law_635 rfl (lv_at hl 0 rfl) ?_
  refine lv_iload_n hx0 hb dL_law_636 rfl (lv_at hl 3 rfl) ?_
  refine lv_iconst (v := (5 : Int32)) hx0 hb dL_law_637 (by decide) ?_
  refine lv_iadd hx0 hb dL_law_638 ?_
  refine va_sld hx0 hb hX hbl hbA hS (vin (k := 5) (by omega) hL) dL_law_639 ?_
  obtain ⟨r, xj, xb, mj, mb, hcX, hcM, hI2⟩ := O_fact l dC dI cI cZ te hx hm aX aM h (xs ((nI i) + (1 : Int32)).toNatClampNeg) (xs ((nI i) + (2 : Int32)).toNatClampNeg) (xs ((nI i) + (3 : Int32)).toNatClampNeg) (xs ((nI i) + (4 : Int32)).toNatClampNeg) (xs ((nI i) + (5 : Int32)).toNatClampNeg) xi xa mi ma hI
  refine CM_callW (C := RX9) (As := [.int (xs ((nI i) + (1 : Int32)).toNatClampNeg), .int (xs ((nI i) + (2 : Int32)).toNatClampNeg), .int (xs ((nI i) + (3 : Int32)).toNatClampNeg), .int (xs ((nI i) + (4 : Int32)).toNatClampNeg), .int (xs ((nI i) + (5 : Int32)).toNatClampNeg)]) (rest := []) (v := some (.int r)) ⟨hx0, hb, hml, hown, hts⟩ hcX (cwV 5 hts (gV0 kw_991 kw_869 kw_870 kw_695 kw_871) rfl rfl rfl (by decide +kernel) ⟨Nat.le_of_ble_eq_true rfl, Nat.le_of_ble_eq_true rfl⟩) (kS_env te) hK hP hD hS hA hE 0 7 rfl rfl rfl rfl hl.1 rfl (Nat.le_of_ble_eq_true rfl) dL_law_640 hcs (fun H locs hP hD hS => ?_)
  show W p l e room_1 s m #[Value.ref b] below meth c H locs cells slots Q (F0 m 643 ls [.int r])
  refine lv_aload_n hx0 hb dL_law_643 rfl (lv_at hl 2 rfl) ?_
  refine lv_aload_n hx0 hb dL_law_644 rfl (lv_at hl 0 rfl) ?_
  refine lv_iload_n hx0 hb dL_law_645 rfl (lv_at hl 3 rfl) ?_
  refine lv_iconst (v := (1 : Int32)) hx0 hb dL_law_646 (by decide) ?_
  refine lv_iadd hx0 hb dL_law_647 ?_
  refine va_sld hx0 hb hX hbl hbA hS (vin (k := 1) (by omega) hL) dL_law_648 ?_
  refine lv_aload_n hx0 hb dL_law_649 rfl (lv_at hl 0 rfl) ?_
  refine lv_iload_n hx0 hb dL_law_650 rfl (lv_at hl 3 rfl) ?_
  refine lv_iconst (v := (2 : Int32)) hx0 hb dL_law_651 (by decide) ?_
  refine lv_iadd hx0 hb dL_law_652 ?_
  refine va_sld hx0 hb hX hbl hbA hS (vin (k := 2) (by omega) hL) dL_law_653 ?_
  refine lv_aload_n hx0 hb dL_law_654 rfl (lv_at hl 0 rfl) ?_
  refine lv_iload_n hx0 hb dL_law_655 rfl (lv_at hl 3 rfl) ?_
  refine lv_iconst (v := (3 : Int32)) hx0 hb dL_law_656 (by decide) ?_
  refine lv_iadd hx0 hb dL_law_657 ?_
  refine va_sld hx0 hb hX hbl hbA hS (vin (k := 3) (by omega) hL) dL_law_658 ?_
  refine lv_aload_n hx0 hb dL_law_659 rfl (lv_at hl 0 rfl) ?_
  refine lv_iload_n hx0 hb dL_law_660 rfl (lv_at hl 3 rfl) ?_
  refine lv_iconst (v := (4 : Int32)) hx0 hb dL_law_661 (by decide) ?_
  refine lv_iadd hx0 hb dL_law_662 ?_
  refine va_sld hx0 hb hX hbl hbA hS (vin (k := 4) (by omega) hL) dL_law_663 ?_
  refine lv_aload_n hx0 hb dL_law_664 rfl (lv_at hl 0 rfl) ?_
  refine lv_iload_n hx0 hb dL_law_665 rfl (lv_at hl 3 rfl) ?_
  refine lv_iconst (v := (5 : Int32)) hx0 hb dL_law_666 (by decide) ?_
  refine lv_iadd hx0 hb dL_law_667 ?_
  refine va_sld hx0 hb hX hbl hbA hS (vin (k := 5) (by omega) hL) dL_law_668 ?_
  refine CM_callW (C := RX10) (As := [.int (xs ((nI i) + (1 : Int32)).toNatClampNeg), .int (xs ((nI i) + (2 : Int32)).toNatClampNeg), .int (xs ((nI i) + (3 : Int32)).toNatClampNeg), .int (xs ((nI i) + (4 : Int32)).toNatClampNeg), .int (xs ((nI i) + (5 : Int32)).toNatClampNeg)]) (rest := [.int r]) (v := some (.int r)) ⟨hx0, hb, hml, hown, hts⟩ hcM (cwV 5 hts (gV0 kw_992 kw_379 kw_380 kw_159 kw_381) rfl rfl rfl (by decide +kernel) ⟨Nat.le_of_ble_eq_true rfl, Nat.le_of_ble_eq_true rfl⟩) (kS_env te) hK hP hD hS hA hE 90 8 rfl rfl rfl rfl hl.1 rfl (Nat.le_of_ble_eq_true rfl) dL_law_669 hcs (fun H locs hP hD hS => ?_)
  show W p l e room_1 s m #[Value.ref b] below meth c H locs cells slots Q (F0 m 672 ls [.int r, .int r])
  refine lv_icmp_eq (tgt := 1291) hx0 hb dL_law_672 (by decide) (fun _ => ?_) (fun hne => absurd rfl hne)
  exact kk _ _ _ _ hI2 _ _ hP hD hS _ hl
set_option maxHeartbeats 8000000 in
set_option maxRecDepth 100000 in
theorem lc_age {INV : (Nat → Int32) → (Nat → Nat → Int32) → (Nat → Int32) → (Nat → Nat → Int32) → Prop} {p : Program} {l : Launch} {e : Env} {s : State} {m : MethodId} {below : List Frame} {meth : Method} {c : Code} {dC : Nat → ClassId} {dI : Nat → Nat → Nat} {cI cZ : ClassId} {te : Nat → Nat} {hx hm : Nat} {aX aM : Nat → Nat} {b L : Nat} {xs : Nat → Int32} {cells slots : Nat} {Q : State → Prop} (hL : L ≤ 3072) (C0 : lw_At p s m meth c b L xs) (hE : kS te (fun q : Nat => s.heap.size ≤ q) s s.heap) (hK : va_K (dC, dI) vwCl (kT cI cZ) s) (h : PP_age INV) {i : Nat} (hi : i + 6 ≤ L) (hcs : cells ≤ room_1.cells ∧ slots ≤ room_1.slots) {xi : Nat → Int32} {xa : Nat → Nat → Int32} {mi : Nat → Int32} {ma : Nat → Nat → Int32} (hI : INV xi xa mi ma)
    (kk : ∀ (xj : Nat → Int32) (xb : Nat → Nat → Int32) (mj : Nat → Int32) (mb : Nat → Nat → Int32), INV xj xb mj mb → ∀ (H : Heap) (locs : List Loc), va_P (dC, dI) vwCl (wW cI cZ hx hm aX aM xj xb mj mb) H → va_D (fun q : Nat => s.heap.size ≤ q) (wW cI cZ hx hm aX aM xj xb mj mb) → va_S (fun q : Nat => s.heap.size ≤ q) s.heap H locs → ∀ ls : Array Slot, lv_has ls 4 [(0, .ref b), (1, .ref hx), (2, .ref hm), (3, .int (nI i))] → W p l e room_1 s m #[Value.ref b] below meth c H locs cells slots Q (F0 m 1291 ls [])) :
    ∀ (H : Heap) (locs : List Loc), va_P (dC, dI) vwCl (wW cI cZ hx hm aX aM xi xa mi ma) H → va_D (fun q : Nat => s.heap.size ≤ q) (wW cI cZ hx hm aX aM xi xa mi ma) → va_S (fun q : Nat => s.heap.size ≤ q) s.heap H locs → ∀ ls : Array Slot, lv_has ls 4 [(0, .ref b), (1, .ref hx), (2, .ref hm), (3, .int (nI i))] → W p l e room_1 s m #[Value.ref b] below meth c H locs cells slots Q (F0 m 677 ls []) := by
  obtain ⟨hx0, hb, hr, hml, hown, hts, hX, hbl, hlocks, hgv⟩ := C0
  have hts : ∀ w ∈ tG, w.before #[Value.ref b] s = true := fun w h => hts w (List.mem_filter.mp h).1
  have hown : s.vm.findClass RL = some m.cls := hown
  have hA : ∀ q : Nat, s.heap.size ≤ q → (fun q : Nat => s.heap.size ≤ q) q := fun _ h => h
  have hbA : ¬ (fun q : Nat => s.heap.size ≤ q) b := Nat.not_le.mpr hbl
  intro H locs hP hD hS ls hl
  refine lv_aload_n hx0 hb dL_law_677 rfl (lv_at hl 1 rfl) ?_
  refine lv_aload_n hx0 hb dL_law_678 rfl (lv_at hl 0 rfl) ?_
  refine lv_iload_n hx0 hb dL_law_679 rfl (lv_at hl 3 rfl) ?_
  refine lv_iconst (v := (1 : Int32)) hx0 hb dL_law_680 (by decide) ?_
  refine lv_iadd hx0 hb dL_law_681 ?_
  refine va_sld hx0 hb hX hbl hbA hS (vin (k := 1) (by omega) hL) dL_law_682 ?_
  refine lv_aload_n hx0 hb dL_law_683 rfl (lv_at hl 0 rfl) ?_
  refine lv_iload_n hx0 hb dL_law_684 rfl (lv_at hl 3 rfl) ?_
  refine lv_iconst (v := (2 : Int32)) hx0 hb dL_law_685 (by decide) ?_
  refine lv_iadd hx0 hb dL_law_686 ?_
  refine va_sld hx0 hb hX hbl hbA hS (vin (k := 2) (by omega) hL) dL_law_687 ?_
  refine lv_aload_n hx0 hb dL_law_688 rfl (lv_at hl 0 rfl) ?_
  refine lv_iload_n hx0 hb dL_law_689 rfl (lv_at hl 3 rfl) ?_
  refine lv_iconst (v := (3 : Int32)) hx0 hb dL_law_690 (by decide) ?_
  refine lv_iadd hx0 hb dL_law_691 ?_
  refine va_sld hx0 hb hX hbl hbA hS (vin (k := 3) (by omega) hL) dL_law_692 ?_
  obtain ⟨r, xj, xb, mj, mb, hcX, hcM, hI2⟩ := O_age l dC dI cI cZ te hx hm aX aM h (xs ((nI i) + (1 : Int32)).toNatClampNeg) (xs ((nI i) + (2 : Int32)).toNatClampNeg) (xs ((nI i) + (3 : Int32)).toNatClampNeg) xi xa mi ma hI
  refine CM_callW (C := RX9) (As := [.int (xs ((nI i) + (1 : Int32)).toNatClampNeg), .int (xs ((nI i) + (2 : Int32)).toNatClampNeg), .int (xs ((nI i) + (3 : Int32)).toNatClampNeg)]) (rest := []) (v := some (.int r)) ⟨hx0, hb, hml, hown, hts⟩ hcX (cwV 3 hts (gV0 kw_993 kw_994 kw_995 kw_695 kw_996) rfl rfl rfl (by decide +kernel) ⟨Nat.le_of_ble_eq_true rfl, Nat.le_of_ble_eq_true rfl⟩) (kS_env te) hK hP hD hS hA hE 0 7 rfl rfl rfl rfl hl.1 rfl (Nat.le_of_ble_eq_true rfl) dL_law_693 hcs (fun H locs hP hD hS => ?_)
  show W p l e room_1 s m #[Value.ref b] below meth c H locs cells slots Q (F0 m 696 ls [.int r])
  refine lv_aload_n hx0 hb dL_law_696 rfl (lv_at hl 2 rfl) ?_
  refine lv_aload_n hx0 hb dL_law_697 rfl (lv_at hl 0 rfl) ?_
  refine lv_iload_n hx0 hb dL_law_698 rfl (lv_at hl 3 rfl) ?_
  refine lv_iconst (v := (1 : Int32)) hx0 hb dL_law_699 (by decide) ?_
  refine lv_iadd hx0 hb dL_law_700 ?_
  refine va_sld hx0 hb hX hbl hbA hS (vin (k := 1) (by omega) hL) dL_law_701 ?_
  refine lv_aload_n hx0 hb dL_law_702 rfl (lv_at hl 0 rfl) ?_
  refine lv_iload_n hx0 hb dL_law_703 rfl (lv_at hl 3 rfl) ?_
  refine lv_iconst (v := (2 : Int32)) hx0 hb dL_law_704 (by decide) ?_
  refine lv_iadd hx0 hb dL_law_705 ?_
  refine va_sld hx0 hb hX hbl hbA hS (vin (k := 2) (by omega) hL) dL_law_706 ?_
  refine lv_aload_n hx0 hb dL_law_707 rfl (lv_at hl 0 rfl) ?_
  refine lv_iload_n hx0 hb dL_law_708 rfl (lv_at hl 3 rfl) ?_
  refine lv_iconst (v := (3 : Int32)) hx0 hb dL_law_709 (by decide) ?_
  refine lv_iadd hx0 hb dL_law_710 ?_
  refine va_sld hx0 hb hX hbl hbA hS (vin (k := 3) (by omega) hL) dL_law_711 ?_
  refine CM_callW (C := RX10) (As := [.int (xs ((nI i) + (1 : Int32)).toNatClampNeg), .int (xs ((nI i) + (2 : Int32)).toNatClampNeg), .int (xs ((nI i) + (3 : Int32)).toNatClampNeg)]) (rest := [.int r]) (v := some (.int r)) ⟨hx0, hb, hml, hown, hts⟩ hcM (cwV 3 hts (gV0 kw_997 kw_998 kw_999 kw_159 kw_1000) rfl rfl rfl (by decide +kernel) ⟨Nat.le_of_ble_eq_true rfl, Nat.le_of_ble_eq_true rfl⟩) (kS_env te) hK hP hD hS hA hE 90 8 rfl rfl rfl rfl hl.1 rfl (Nat.le_of_ble_eq_true rfl) dL_law_712 hcs (fun H locs hP hD hS => ?_)
  show W p l e room_1 s m #[Value.ref b] below meth c H locs cells slots Q (F0 m 715 ls [.int r, .int r])
  refine lv_icmp_eq (tgt := 1291) hx0 hb dL_law_715 (by decide) (fun _ => ?_) (fun hne => absurd rfl hne)
  exact kk _ _ _ _ hI2 _ _ hP hD hS _ hl
set_option maxHeartbeats 8000000 in
set_option maxRecDepth 100000 in
theorem lc_fewest {INV : (Nat → Int32) → (Nat → Nat → Int32) → (Nat → Int32) → (Nat → Nat → Int32) → Prop} {p : Program} {l : Launch} {e : Env} {s : State} {m : MethodId} {below : List Frame} {meth : Method} {c : Code} {dC : Nat → ClassId} {dI : Nat → Nat → Nat} {cI cZ : ClassId} {te : Nat → Nat} {hx hm : Nat} {aX aM : Nat → Nat} {b L : Nat} {xs : Nat → Int32} {cells slots : Nat} {Q : State → Prop} (hL : L ≤ 3072) (C0 : lw_At p s m meth c b L xs) (hE : kS te (fun q : Nat => s.heap.size ≤ q) s s.heap) (hK : va_K (dC, dI) vwCl (kT cI cZ) s) (h : PP_fewest INV) {i : Nat} (hi : i + 6 ≤ L) (hcs : cells ≤ room_1.cells ∧ slots ≤ room_1.slots) {xi : Nat → Int32} {xa : Nat → Nat → Int32} {mi : Nat → Int32} {ma : Nat → Nat → Int32} (hI : INV xi xa mi ma)
    (kk : ∀ (xj : Nat → Int32) (xb : Nat → Nat → Int32) (mj : Nat → Int32) (mb : Nat → Nat → Int32), INV xj xb mj mb → ∀ (H : Heap) (locs : List Loc), va_P (dC, dI) vwCl (wW cI cZ hx hm aX aM xj xb mj mb) H → va_D (fun q : Nat => s.heap.size ≤ q) (wW cI cZ hx hm aX aM xj xb mj mb) → va_S (fun q : Nat => s.heap.size ≤ q) s.heap H locs → ∀ ls : Array Slot, lv_has ls 4 [(0, .ref b), (1, .ref hx), (2, .ref hm), (3, .int (nI i))] → W p l e room_1 s m #[Value.ref b] below meth c H locs cells slots Q (F0 m 1291 ls [])) :
    ∀ (H : Heap) (locs : List Loc), va_P (dC, dI) vwCl (wW cI cZ hx hm aX aM xi xa mi ma) H → va_D (fun q : Nat => s.heap.size ≤ q) (wW cI cZ hx hm aX aM xi xa mi ma) → va_S (fun q : Nat => s.heap.size ≤ q) s.heap H locs → ∀ ls : Array Slot, lv_has ls 4 [(0, .ref b), (1, .ref hx), (2, .ref hm), (3, .int (nI i))] → W p l e room_1 s m #[Value.ref b] below meth c H locs cells slots Q (F0 m 720 ls []) := by
  obtain ⟨hx0, hb, hr, hml, hown, hts, hX, hbl, hlocks, hgv⟩ := C0
  have hts : ∀ w ∈ tG, w.before #[Value.ref b] s = true := fun w h => hts w (List.mem_filter.mp h).1
  have hown : s.vm.findClass RL = some m.cls := hown
  have hA : ∀ q : Nat, s.heap.size ≤ q → (fun q : Nat => s.heap.size ≤ q) q := fun _ h => h
  have hbA : ¬ (fun q : Nat => s.heap.size ≤ q) b := Nat.not_le.mpr hbl
  intro H locs hP hD hS ls hl
  refine lv_aload_n hx0 hb dL_law_720 rfl (lv_at hl 1 rfl) ?_
  obtain ⟨r, xj, xb, mj, mb, hcX, hcM, hI2⟩ := O_fewest l dC dI cI cZ te hx hm aX aM h xi xa mi ma hI
  refine CM_callW (C := RX9) (As := []) (rest := []) (v := some (.int r)) ⟨hx0, hb, hml, hown, hts⟩ hcX (cwV 0 hts (gV0 kw_1001 kw_1002 kw_1003 kw_695 kw_1004) rfl rfl rfl (by decide +kernel) ⟨Nat.le_of_ble_eq_true rfl, Nat.le_of_ble_eq_true rfl⟩) (kS_env te) hK hP hD hS hA hE 0 7 rfl rfl rfl rfl hl.1 rfl (Nat.le_of_ble_eq_true rfl) dL_law_721 hcs (fun H locs hP hD hS => ?_)
  show W p l e room_1 s m #[Value.ref b] below meth c H locs cells slots Q (F0 m 724 ls [.int r])
  refine lv_aload_n hx0 hb dL_law_724 rfl (lv_at hl 2 rfl) ?_
  refine CM_callW (C := RX10) (As := []) (rest := [.int r]) (v := some (.int r)) ⟨hx0, hb, hml, hown, hts⟩ hcM (cwV 0 hts (gV0 kw_1005 kw_1006 kw_1007 kw_159 kw_1008) rfl rfl rfl (by decide +kernel) ⟨Nat.le_of_ble_eq_true rfl, Nat.le_of_ble_eq_true rfl⟩) (kS_env te) hK hP hD hS hA hE 90 8 rfl rfl rfl rfl hl.1 rfl (Nat.le_of_ble_eq_true rfl) dL_law_725 hcs (fun H locs hP hD hS => ?_)
  show W p l e room_1 s m #[Value.ref b] below meth c H locs cells slots Q (F0 m 728 ls [.int r, .int r])
  refine lv_icmp_eq (tgt := 1291) hx0 hb dL_law_728 (by decide) (fun _ => ?_) (fun hne => absurd rfl hne)
  exact kk _ _ _ _ hI2 _ _ hP hD hS _ hl
set_option maxHeartbeats 8000000 in
set_option maxRecDepth 100000 in
theorem lc_sure {INV : (Nat → Int32) → (Nat → Nat → Int32) → (Nat → Int32) → (Nat → Nat → Int32) → Prop} {p : Program} {l : Launch} {e : Env} {s : State} {m : MethodId} {below : List Frame} {meth : Method} {c : Code} {dC : Nat → ClassId} {dI : Nat → Nat → Nat} {cI cZ : ClassId} {te : Nat → Nat} {hx hm : Nat} {aX aM : Nat → Nat} {b L : Nat} {xs : Nat → Int32} {cells slots : Nat} {Q : State → Prop} (hL : L ≤ 3072) (C0 : lw_At p s m meth c b L xs) (hE : kS te (fun q : Nat => s.heap.size ≤ q) s s.heap) (hK : va_K (dC, dI) vwCl (kT cI cZ) s) (h : PP_sure INV) {i : Nat} (hi : i + 6 ≤ L) (hcs : cells ≤ room_1.cells ∧ slots ≤ room_1.slots) {xi : Nat → Int32} {xa : Nat → Nat → Int32} {mi : Nat → Int32} {ma : Nat → Nat → Int32} (hI : INV xi xa mi ma)
    (kk : ∀ (xj : Nat → Int32) (xb : Nat → Nat → Int32) (mj : Nat → Int32) (mb : Nat → Nat → Int32), INV xj xb mj mb → ∀ (H : Heap) (locs : List Loc), va_P (dC, dI) vwCl (wW cI cZ hx hm aX aM xj xb mj mb) H → va_D (fun q : Nat => s.heap.size ≤ q) (wW cI cZ hx hm aX aM xj xb mj mb) → va_S (fun q : Nat => s.heap.size ≤ q) s.heap H locs → ∀ ls : Array Slot, lv_has ls 4 [(0, .ref b), (1, .ref hx), (2, .ref hm), (3, .int (nI i))] → W p l e room_1 s m #[Value.ref b] below meth c H locs cells slots Q (F0 m 1291 ls [])) :
    ∀ (H : Heap) (locs : List Loc), va_P (dC, dI) vwCl (wW cI cZ hx hm aX aM xi xa mi ma) H → va_D (fun q : Nat => s.heap.size ≤ q) (wW cI cZ hx hm aX aM xi xa mi ma) → va_S (fun q : Nat => s.heap.size ≤ q) s.heap H locs → ∀ ls : Array Slot, lv_has ls 4 [(0, .ref b), (1, .ref hx), (2, .ref hm), (3, .int (nI i))] → W p l e room_1 s m #[Value.ref b] below meth c H locs cells slots Q (F0 m 733 ls []) := by
  obtain ⟨hx0, hb, hr, hml, hown, hts, hX, hbl, hlocks, hgv⟩ := C0
  have hts : ∀ w ∈ tG, w.before #[Value.ref b] s = true := fun w h => hts w (List.mem_filter.mp h).1
  have hown : s.vm.findClass RL = some m.cls := hown
  have hA : ∀ q : Nat, s.heap.size ≤ q → (fun q : Nat => s.heap.size ≤ q) q := fun _ h => h
  have hbA : ¬ (fun q : Nat => s.heap.size ≤ q) b := Nat.not_le.mpr hbl
  intro H locs hP hD hS ls hl
  refine lv_aload_n hx0 hb dL_law_733 rfl (lv_at hl 1 rfl) ?_
  refine lv_aload_n hx0 hb dL_law_734 rfl (lv_at hl 0 rfl) ?_
  refine lv_iload_n hx0 hb dL_law_735 rfl (lv_at hl 3 rfl) ?_
  refine lv_iconst (v := (1 : Int32)) hx0 hb dL_law_736 (by decide) ?_
  refine lv_iadd hx0 hb dL_law_737 ?_
  refine va_sld hx0 hb hX hbl hbA hS (vin (k := 1) (by omega) hL) dL_law_738 ?_
  refine lv_aload_n hx0 hb dL_law_739 rfl (lv_at hl 0 rfl) ?_
  refine lv_iload_n hx0 hb dL_law_740 rfl (lv_at hl 3 rfl) ?_
  refine lv_iconst (v := (2 : Int32)) hx0 hb dL_law_741 (by decide) ?_
  refine lv_iadd hx0 hb dL_law_742 ?_
  refine va_sld hx0 hb hX hbl hbA hS (vin (k := 2) (by omega) hL) dL_law_743 ?_
  obtain ⟨r, xj, xb, mj, mb, hcX, hcM, hI2⟩ := O_sure l dC dI cI cZ te hx hm aX aM h (xs ((nI i) + (1 : Int32)).toNatClampNeg) (xs ((nI i) + (2 : Int32)).toNatClampNeg) xi xa mi ma hI
  refine CM_callW (C := RX9) (As := [.int (xs ((nI i) + (1 : Int32)).toNatClampNeg), .int (xs ((nI i) + (2 : Int32)).toNatClampNeg)]) (rest := []) (v := some (.int r)) ⟨hx0, hb, hml, hown, hts⟩ hcX (cwV 2 hts (gV0 kw_1009 kw_1010 kw_1011 kw_695 kw_1012) rfl rfl rfl (by decide +kernel) ⟨Nat.le_of_ble_eq_true rfl, Nat.le_of_ble_eq_true rfl⟩) (kS_env te) hK hP hD hS hA hE 0 7 rfl rfl rfl rfl hl.1 rfl (Nat.le_of_ble_eq_true rfl) dL_law_744 hcs (fun H locs hP hD hS => ?_)
  show W p l e room_1 s m #[Value.ref b] below meth c H locs cells slots Q (F0 m 747 ls [.int r])
  refine lv_aload_n hx0 hb dL_law_747 rfl (lv_at hl 2 rfl) ?_
  refine lv_aload_n hx0 hb dL_law_748 rfl (lv_at hl 0 rfl) ?_
  refine lv_iload_n hx0 hb dL_law_749 rfl (lv_at hl 3 rfl) ?_
  refine lv_iconst (v := (1 : Int32)) hx0 hb dL_law_750 (by decide) ?_
  refine lv_iadd hx0 hb dL_law_751 ?_
  refine va_sld hx0 hb hX hbl hbA hS (vin (k := 1) (by omega) hL) dL_law_752 ?_
  refine lv_aload_n hx0 hb dL_law_753 rfl (lv_at hl 0 rfl) ?_
  refine lv_iload_n hx0 hb dL_law_754 rfl (lv_at hl 3 rfl) ?_
  refine lv_iconst (v := (2 : Int32)) hx0 hb dL_law_755 (by decide) ?_
  refine lv_iadd hx0 hb dL_law_756 ?_
  refine va_sld hx0 hb hX hbl hbA hS (vin (k := 2) (by omega) hL) dL_law_757 ?_
  refine CM_callW (C := RX10) (As := [.int (xs ((nI i) + (1 : Int32)).toNatClampNeg), .int (xs ((nI i) + (2 : Int32)).toNatClampNeg)]) (rest := [.int r]) (v := some (.int r)) ⟨hx0, hb, hml, hown, hts⟩ hcM (cwV 2 hts (gV0 kw_1013 kw_1014 kw_1015 kw_159 kw_1016) rfl rfl rfl (by decide +kernel) ⟨Nat.le_of_ble_eq_true rfl, Nat.le_of_ble_eq_true rfl⟩) (kS_env te) hK hP hD hS hA hE 90 8 rfl rfl rfl rfl hl.1 rfl (Nat.le_of_ble_eq_true rfl) dL_law_758 hcs (fun H locs hP hD hS => ?_)
  show W p l e room_1 s m #[Value.ref b] below meth c H locs cells slots Q (F0 m 761 ls [.int r, .int r])
  refine lv_icmp_eq (tgt := 1291) hx0 hb dL_law_761 (by decide) (fun _ => ?_) (fun hne => absurd rfl hne)
  exact kk _ _ _ _ hI2 _ _ hP hD hS _ hl
