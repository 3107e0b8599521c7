/-! ===== a contract over a part of a world is one over the whole world ===== -/
theorem D_same {A : Nat → Prop} {ws ws' : va_W} (h : ∀ k : Nat, (ws'[k]?).map Prod.fst = (ws[k]?).map Prod.fst) (hD : va_D A ws) : va_D A ws' := by
  have key : ∀ (k : Nat) (q : Nat × va_E), ws'[k]? = some q → ∃ q0, ws[k]? = some q0 ∧ q0.1 = q.1 := by
    intro k q hk
    have h1 := h k
    rw [hk] at h1
    cases h0 : ws[k]? with
    | none => rw [h0] at h1; cases h1
    | some q0 => rw [h0] at h1; exact ⟨q0, rfl, (Option.some.inj h1).symm⟩
  refine ⟨fun i j x y hi hj hxy => ?_, fun k q hk => ?_⟩
  · obtain ⟨x0, a1, a2⟩ := key i x hi
    obtain ⟨y0, b1, b2⟩ := key j y hj
    exact hD.1 i j x0 y0 a1 b1 (a2.trans (hxy.trans b2.symm))
  · obtain ⟨q0, a1, a2⟩ := key k q hk
    rw [← a2]
    exact hD.2 k q0 a1
def pick (wH w1 : va_W) (t : Bool × Nat) : Option (Nat × va_E) := match t.1 with
  | true => w1[t.2]?
  | false => wH[t.2]?
def srcOK (isC : List Nat) (src : List (Bool × Nat)) (n : Nat) : Bool :=
  src.length == n && (List.range n).all (fun k => match src[k]? with
    | some (true, j) => isC[j]? == some k
    | some (false, i) => i == k && !(isC.contains k)
    | none => false)
theorem srcOK_of {isC : List Nat} {src : List (Bool × Nat)} {n : Nat} (h : srcOK isC src n = true) : src.length = n ∧ ∀ (k : Nat) (t : Bool × Nat), src[k]? = some t → (t.1 = true → isC[t.2]? = some k) ∧ (t.1 = false → t.2 = k ∧ k ∉ isC) := by
  unfold srcOK at h
  rw [Bool.and_eq_true] at h
  have hl : src.length = n := by simpa using h.1
  refine ⟨hl, fun k t hk => ?_⟩
  have hkn : k < n := by rw [← hl]; exact (List.getElem?_eq_some_iff.mp hk).1
  have h2 := List.all_eq_true.mp h.2 k (List.mem_range.mpr hkn)
  rw [hk] at h2
  obtain ⟨b, j⟩ := t
  cases b with
  | true => exact ⟨fun _ => by simpa using h2, fun e => by cases e⟩
  | false =>
    refine ⟨fun e => (by cases e), fun _ => ?_⟩
    simp only [Bool.and_eq_true, beq_iff_eq, Bool.not_eq_true'] at h2
    exact ⟨h2.1, fun hm => by simp [hm] at h2⟩
theorem CM_lift {l : Launch} {y : MethodName} {ws : List Cond} {rm : Room} {E : (Nat → Prop) → State → Heap → Prop} {dC : Nat → ClassId} {dI : Nat → Nat → Nat} {cI cZ : ClassId} {av : List Value} {wH wc w1 wo : va_W} {v : Option Value}
    (hE : kEnv E) (hM : CM l y ws rm E dC dI cI cZ av wc w1 v) (isC : List Nat) (src : List (Bool × Nat)) (n : Nat)
    (hC : isC.map (fun i => wH[i]?) = wc.map some) (hnC : va_nd isC = true) (ha : w1.map Prod.fst = wc.map Prod.fst) (hn : wH.length = n) (hs : srcOK isC src n = true) (hwo : src.map (pick wH w1) = wo.map some) : CM l y ws rm E dC dI cI cZ av wH wo v := by
  intro sz
  obtain ⟨hsl, hsrc⟩ := srcOK_of hs
  have hcell : ∀ (j : Nat) (q : Nat × va_E), wc[j]? = some q → ∃ i, isC[j]? = some i ∧ wH[i]? = some q := by
    intro j q hj
    have h1 : (isC.map (fun i => wH[i]?))[j]? = some (some q) := by rw [hC, List.getElem?_map, hj]; rfl
    rw [List.getElem?_map] at h1
    cases hi : isC[j]? with
    | none => rw [hi] at h1; cases h1
    | some i => rw [hi] at h1; exact ⟨i, rfl, Option.some.inj h1⟩
  have hin : ∀ q, va_A wc sz q → va_A wH sz q := by
    intro q hq
    rcases hq with ⟨k, e, h⟩ | h
    · obtain ⟨i, -, hi⟩ := hcell k (q, e) h
      exact Or.inl ⟨i, e, hi⟩
    · exact Or.inr h
  have hpk : ∀ (k : Nat) (q : Nat × va_E), wo[k]? = some q → ∃ t, src[k]? = some t ∧ pick wH w1 t = some q := by
    intro k q hk
    have h1 : (src.map (pick wH w1))[k]? = some (some q) := by rw [hwo, List.getElem?_map, hk]; rfl
    rw [List.getElem?_map] at h1
    cases ht : src[k]? with
    | none => rw [ht] at h1; cases h1
    | some t => rw [ht] at h1; exact ⟨t, rfl, Option.some.inj h1⟩
  have hw1 : ∀ (j : Nat) (q : Nat × va_E), w1[j]? = some q → ∃ q0, wc[j]? = some q0 ∧ q0.1 = q.1 := by
    intro j q hj
    have h1 : (w1.map Prod.fst)[j]? = some q.1 := by rw [List.getElem?_map, hj]; rfl
    rw [ha, List.getElem?_map] at h1
    cases h0 : wc[j]? with
    | none => rw [h0] at h1; cases h1
    | some q0 => rw [h0] at h1; exact ⟨q0, rfl, Option.some.inj h1⟩
  have hfst : ∀ k : Nat, (wo[k]?).map Prod.fst = (wH[k]?).map Prod.fst := by
    intro k
    have hlo : wo.length = n := by
      have h1 := congrArg List.length hwo
      rw [List.length_map, List.length_map] at h1
      omega
    cases hk : wo[k]? with
    | none =>
      have h1 : n ≤ k := by rw [← hlo]; exact List.getElem?_eq_none_iff.mp hk
      rw [List.getElem?_eq_none_iff.mpr (by omega)]
    | some q =>
      obtain ⟨t, ht, hp⟩ := hpk k q hk
      obtain ⟨g1, g2⟩ := hsrc k t ht
      obtain ⟨b, j⟩ := t
      cases b with
      | true =>
        obtain ⟨q0, a1, a2⟩ := hw1 j q hp
        obtain ⟨i, b1, b2⟩ := hcell j q0 a1
        have h3 : isC[j]? = some k := g1 rfl
        rw [h3] at b1
        cases b1
        rw [b2]
        show some q.1 = some q0.1
        rw [a2]
      | false =>
        obtain ⟨e1, -⟩ := g2 rfl
        have hp2 : wH[j]? = some q := hp
        have e3 : j = k := e1
        rw [← e3, hp2]
  refine Jvm.Free.MetFree.mono (hM sz) (fun a s hp => ?_) (fun _ _ _ _ _ h => h) (fun a s o t hp hq => ?_)
  · obtain ⟨h1, h2, h3, h4, h5, h6⟩ := hp
    refine ⟨h1, h2, fun j q hj => ?_, h4, h5.sub isC hnC hC, hE.2.2.2 h6 hin⟩
    obtain ⟨i, -, hi⟩ := hcell j q hj
    exact h3 i q hi
  · obtain ⟨h1, h2, h3, h4, h5, h6⟩ := hp
    obtain ⟨⟨⟨hv, hP1, hD1⟩, hz, hk⟩, L, hL, hLf⟩ := hq
    refine ⟨⟨⟨hv, fun k q hkq => ?_, D_same hfst ⟨h5.1, fun k q hkq => va_A.in hkq⟩⟩, hz, fun q hq1 hq2 => hk q hq1 (fun z => hq2 (hin q z))⟩, L, hL, fun q hq => hin _ (hLf q hq)⟩
    obtain ⟨tt, ht, hpq⟩ := hpk k q hkq
    obtain ⟨g1, g2⟩ := hsrc k tt ht
    obtain ⟨b, j⟩ := tt
    cases b with
    | true => exact hP1 j q hpq
    | false =>
      obtain ⟨e1, hnk⟩ := g2 rfl
      have hpq2 : wH[j]? = some q := hpq
      have e3 : j = k := e1
      subst e3
      have hat := h3 j q hpq2
      refine hat.kept (hk q.1 hat.lt (fun z => ?_))
      rcases z with ⟨i, e, hi⟩ | z
      · obtain ⟨i2, b1, b2⟩ := hcell i (q.1, e) hi
        have := h5.1 j i2 q (q.1, e) hpq2 b2 rfl
        subst this
        exact hnk (List.mem_of_getElem? b1)
      · have := hat.lt
        omega
theorem nd_range' : ∀ (n s : Nat), va_nd (List.range' s n) = true := by
  intro n
  induction n with
  | zero => intro s; rfl
  | succ n ih =>
    intro s
    rw [List.range'_succ]
    show (decide (s ∉ List.range' (s + 1) n) && va_nd (List.range' (s + 1) n)) = true
    rw [ih, Bool.and_true]
    exact decide_eq_true (fun h => by rw [List.mem_range'_1] at h; omega)
theorem nd_range (n : Nat) : va_nd (List.range n) = true := by rw [List.range_eq_range']; exact nd_range' n 0
theorem range_map (w : va_W) : (List.range w.length).map (fun i => w[i]?) = w.map some := by
  apply List.ext_getElem?
  intro k
  rw [List.getElem?_map, List.getElem?_map]
  by_cases hk : k < w.length
  · rw [List.getElem?_range hk]
    simp [hk]
  · rw [List.getElem?_eq_none (by simpa using hk), List.getElem?_eq_none (by omega)]
    rfl
section KWHOLE
variable {p : Program} {l : Launch} {e : Env} {R : Room} {s : State} {m : MethodId} {args : Array Value} {below : List Frame} {meth : Method} {c : Code} {H : Heap} {locs : List Loc} {cells slots : Nat} {Q : State → Prop}
variable {E : (Nat → Prop) → State → Heap → Prop} {dC : Nat → ClassId} {dI : Nat → Nat → Nat} {cI cZ : ClassId} {A : Nat → Prop} {cc bytes : ByteArray} {pc : Nat} {ls : Array Slot}
variable {y : MethodName} {maxL nL n index : Nat} {ret : Option FieldType} {ws : List Cond} {rm : Room} {Ts : List Cond} {own C : String} {b : Nat} {As rest st0 : List Value} {wH w1 : va_W} {v : Option Value}
theorem CM_callW (S : CallFix p m c cc nL s args Ts own) (hM : CM l y ws rm E dC dI cI cZ (.ref b :: As) wH w1 v) (cw : CallW R s args own C index y bytes maxL ret ws rm 0 0 n)
    (hE : kEnv E) (hK : va_K (dC, dI) vwCl (kT cI cZ) s) (hP : va_P (dC, dI) vwCl wH H) (hD : va_D A wH) (hS : va_S A s.heap H locs) (hA : ∀ q : Nat, s.heap.size ≤ q → A q) (hEs : E A s s.heap)
    (q0 ci : Nat) {q : vw_C} {fs : List Value} (hci : vwCl[ci]? = some q) (hb0 : wH[q0]? = some (b, .inr (ci, fs))) (hq : q.1 = C)
    (hnA : As.length = n) (hls : ls.size = nL) (hst : st0 = As.reverse ++ .ref b :: rest) (hroom : (rest.map fun v => v.category).sum ≤ 8) (hdg : decode cc pc = .ok (.invokevirtual index, 3)) (hcs : cells ≤ R.cells ∧ slots ≤ R.slots)
    (kk : ∀ (H1 : Heap) (locs1 : List Loc), va_P (dC, dI) vwCl w1 H1 → va_D A w1 → va_S A s.heap H1 locs1 → W p l e R s m args below meth c H1 locs1 cells slots Q (F0 m (pc + 3) ls (v.toList ++ rest))) : W p l e R s m args below meth c H locs cells slots Q (F0 m pc ls st0) :=
  CM_callV (wr := []) S hM cw hE hK hP hD hS hA hEs (List.range wH.length) [] (List.range w1.length) (range_map wH) rfl (nd_range _) rfl (fun _ h => absurd h List.not_mem_nil) (nd_range _) (range_map w1) q0 ci hci hb0 hq hnA hls hst hroom hdg hcs kk
end KWHOLE
