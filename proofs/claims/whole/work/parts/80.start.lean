/-! ===== the start, and all operations ===== -/
theorem INV_0 : INV xi0 xa0 mi0 ma0 := by
  have zb : ∀ k, k < 460 → (k < 6 ∨ 12 ≤ k) → ma0 0 k = nI 0 := by decide +kernel
  have lim : LIM (8 : Int32) 10 10 16 10 := ⟨rfl, rfl, rfl, rfl, rfl⟩
  have z0N : ∀ k, k < 460 → (k < 6 ∨ 12 ≤ k) → ∀ c, isN (ma0 0 k) c := fun k h1 h2 c => ⟨0, Nat.zero_le _, zb k h1 h2⟩
  unfold INV
  refine ⟨⟨0, 0, 0, 0, 0, 0, lim, ⟨⟨by omega, by omega, by omega, by omega, by omega, by omega⟩, zb 0 (by omega) (by omega), zb 1 (by omega) (by omega), zb 2 (by omega) (by omega), zb 3 (by omega) (by omega), zb 4 (by omega) (by omega), zb 5 (by omega) (by omega)⟩, ⟨rfl, rfl, rfl, rfl, rfl, rfl⟩, fun i hi => ?_, fun i hi => by omega, fun i hi => by omega, fun i hi => by omega, ?_, fun i hi => by omega, ⟨fun i hi => by omega, Nat.zero_le _⟩, fun i hi => ?_, fun i hi => ?_⟩, ⟨lim, lim, lim⟩, ⟨rfl, Or.inl rfl⟩, ⟨rfl, Or.inl rfl⟩, ⟨0, Nat.zero_le _, rfl, rfl, fun i hi => by omega⟩, ⟨rfl, Or.inl rfl⟩, ⟨rfl, Or.inl rfl⟩⟩
  · refine ⟨?_, z0N _ (by omega) (by omega) _⟩
    rw [zb _ (by omega) (by omega)]; rfl
  · refine ⟨by decide +kernel, ⟨1, by omega, by decide +kernel⟩, ⟨⟨3, by omega, by decide +kernel⟩, by decide +kernel⟩, ⟨⟨50, by omega, by decide +kernel⟩, by decide +kernel⟩, ⟨⟨2, by omega, by decide +kernel⟩, by decide +kernel⟩, ⟨⟨10, by omega, by decide +kernel⟩, by decide +kernel⟩, ⟨30, by omega, by decide +kernel⟩, by decide +kernel⟩
  · refine ⟨?_, z0N _ (by omega) (by omega) _⟩
    rw [zb _ (by omega) (by omega)]; rfl
  · refine ⟨?_, z0N _ (by omega) (by omega) _⟩
    rw [zb _ (by omega) (by omega)]; rfl
theorem PPall : PPA INV := ⟨q_surface, q_slope, q_flow, q_cliff, q_boulder, q_fits, q_steps, q_home, q_upstream, q_scratch, q_put, q_may, q_laid, q_ridge, q_fact, q_age, q_fewest, q_sure, q_core, q_parted, q_sign, q_stand, q_area, q_lake, q_shore, q_zone, q_ice, q_warm, q_type, q_clear, q_fault, q_read, q_image, q_from, q_count, q_digest⟩
theorem whole_start {p : Program} {e : Env} {s : State} {m : MethodId} {below : List Frame} {meth : Method} {c : Code} (l : Launch) (_ : l.flags = flags0) {b L : Nat} {xs : Nat → Int32} (hL : L ≤ 3072) (C0 : lw_At p s m meth c b L xs) : W p l e room_1 s m #[Value.ref b] below meth c s.heap [] 0 0 (lw_Z below #[Value.ref b] s) (entryFrame m ([Value.ref b] : List Value).toArray 4) := start_of INV_0 PPall l hL C0
