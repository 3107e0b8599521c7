/-! ===== my own small kit: checked programs (Option), contracts of one form ===== -/
def gin (i : Int32) (n : Nat) : Bool := decide (¬ (i < 0 ∨ n ≤ i.toNatClampNeg))
theorem gin_in {i : Int32} {n : Nat} (h : gin i n = true) : vp_in i n := of_decide_eq_true h
def gz (r : Int32) : Bool := decide (r = 0 ∨ r = 1)
theorem gz_or {r : Int32} (h : gz r = true) : r = 0 ∨ r = 1 := of_decide_eq_true h
theorem gz_n {r : Int32} (h : gz r = true) : narrow .boolean (.int r) = .int r := by
  rcases gz_or h with rfl | rfl <;> rfl
theorem gz_f {r : Int32} (h : gz r = true) : fits .boolean (.int r) = true := by
  rcases gz_or h with rfl | rfl <;> rfl
def gne (y : Int32) : Bool := decide (¬ y = 0)
theorem gne_ne {y : Int32} (h : gne y = true) : ¬ y = 0 := of_decide_eq_true h
def gcp (sp dp n : Int32) (n0 n1 : Nat) : Bool := decide (¬ sp < 0 ∧ ¬ dp < 0 ∧ ¬ n < 0 ∧ sp.toNatClampNeg + n.toNatClampNeg ≤ n0 ∧ dp.toNatClampNeg + n.toNatClampNeg ≤ n1)
theorem gcp_of {sp dp n : Int32} {n0 n1 : Nat} (h : gcp sp dp n n0 n1 = true) : ¬ sp < 0 ∧ ¬ dp < 0 ∧ ¬ n < 0 ∧ sp.toNatClampNeg + n.toNatClampNeg ≤ n0 ∧ dp.toNatClampNeg + n.toNatClampNeg ≤ n1 := of_decide_eq_true h
def chk {α : Type} (b : Bool) (k : Option α) : Option α := match b with | true => k | false => none
theorem chk_some {α : Type} {b : Bool} {k : Option α} {o : α} (h : chk b k = some o) : b = true ∧ k = some o := by
  cases b with
  | true => exact ⟨rfl, h⟩
  | false => exact nomatch h
def nm {α β : Type} (x : α) (k : α → Option β) : Option β := k x
theorem nm_some {α β : Type} {x : α} {k : α → Option β} {o : β} (h : nm x k = some o) : ∃ y, y = x ∧ k y = some o := ⟨x, rfl, h⟩
theorem ifp {c : Prop} [Decidable c] {α : Type} {A B o : α} (h : c) (e : (if c then A else B) = o) : A = o := by rw [if_pos h] at e; exact e
theorem ifn {c : Prop} [Decidable c] {α : Type} {A B o : α} (h : ¬ c) (e : (if c then A else B) = o) : B = o := by rw [if_neg h] at e; exact e
theorem none_ne {α : Type} {o : α} {p : Prop} (h : (none : Option α) = some o) : p := nomatch h
/-- fuel of a loop: more than any loop here takes -/
def FU : Nat := 1000000000
abbrev kT (cI cZ : ClassId) : List (ClassId × FieldType) := [(cI, .int), (cZ, .boolean)]
def kPre (E : (Nat → Prop) → State → Heap → Prop) (dC : Nat → ClassId) (dI : Nat → Nat → Nat) (cI cZ : ClassId) (wi : va_W) (sz : Nat) (U : State) : Prop :=
  U.heap.size = sz ∧ va_P (dC, dI) vwCl wi U.heap ∧ va_K (dC, dI) vwCl (kT cI cZ) U ∧ va_D (fun _ => True) wi ∧ E (va_A wi sz) U U.heap
def kQ (dC : Nat → ClassId) (dI : Nat → Nat → Nat) (wi wo : va_W) (sz : Nat) (v : Option Value) : Array Value → State → Outcome → State → Prop := fun _ st oc t =>
  (oc = .returned v ∧ va_P (dC, dI) vwCl wo t.heap ∧ va_D (va_A wi sz) wo) ∧ va_F (va_A wi sz) st t
/-- what stands outside of every world: it goes with the tables, stays where nothing is written, and holds for fewer writable cells -/
def kEnv (E : (Nat → Prop) → State → Heap → Prop) : Prop :=
  (∀ {A : Nat → Prop} {u U : State} {H : Heap}, u.WarmedH U.vm → E A u H → E A U H) ∧
  (∀ {A : Nat → Prop} {u U : State} {H : Heap}, U.vm = u.vm → E A u H → E A U H) ∧
  (∀ {A : Nat → Prop} {U : State} {H H1 : Heap}, E A U H → (∀ a : Nat, a < H.size → ¬ A a → H1[a]? = H[a]?) → E A U H1) ∧
  (∀ {A B : Nat → Prop} {U : State} {H : Heap}, E A U H → (∀ q, B q → A q) → E B U H)
def CM (l : Launch) (y : MethodName) (ws : List Cond) (rm : Room) (E : (Nat → Prop) → State → Heap → Prop) (dC : Nat → ClassId) (dI : Nat → Nat → Nat) (cI cZ : ClassId) (av : List Value) (wi wo : va_W) (v : Option Value) : Prop :=
  ∀ sz : Nat, Met l y ws rm (va_Pc av (kPre E dC dI cI cZ wi sz)) (kQ dC dI wi wo sz v) 0 0 (va_A wi sz)
theorem CM_of {l : Launch} {y : MethodName} {ws ws' : List Cond} {rm : Room} {E : (Nat → Prop) → State → Heap → Prop} {dC : Nat → ClassId} {dI : Nat → Nat → Nat} {cI cZ : ClassId} {av : List Value} {wi wo : va_W} {v : Option Value} {cc : ByteArray} {maxL : Nat} {ret : Option FieldType}
    (hy : plainName y.cls = true) (hw : ws = Cond.code y cc maxL ret :: ws') (hlen : (lg_sl av).length ≤ maxL)
    (body : ∀ (p : Program) (e : Env) (s : State) (m : MethodId) (args : Array Value) (below : List Frame) (meth : Method) (c : Code) (A : Nat → Prop) (Q : State → Prop),
      p.tables.exec = Jvm.exec → c.code = cc → meth.sig.returnType = ret → c.maxLocals = maxL → s.vm.findClass y.cls = some m.cls → (∀ w ∈ ws, w.before args s = true) → meth.locks = false → (∀ q : Nat, s.heap.size ≤ q → A q) →
      va_K (dC, dI) vwCl (kT cI cZ) s → va_P (dC, dI) vwCl wi s.heap → va_D A wi → va_S A s.heap s.heap [] → E A s s.heap → Q = MQ below (kQ dC dI wi wo s.heap.size v) args s 0 0 A → A = va_A wi s.heap.size → ∀ ls : Array Slot, lv_has ls maxL (lv_args 0 av) →
      W p l e rm s m args below meth c s.heap [] 0 0 Q (F0 m 0 ls [])) : CM l y ws rm E dC dI cI cZ av wi wo v := by
  intro sz
  refine Met.ofW (cc := cc) (maxL := maxL) (ret := ret) hy hw ?_
  intro p e s m args below meth c s₁ B hml hv
  obtain ⟨rfl, hsz, hP, hK, hD0, hE⟩ := hv
  subst hsz
  have hts := atoms_spec (ws := ws) B.pre
  have hown : s.vm.findClass y.cls = some m.cls := findClass_of_methodNamed B.named
  have hl := lv_entry av hlen
  rw [lg_entry_eq]
  exact body p e s m _ below meth c _ _ B.exec B.bytes B.returns hml hown hts B.notSynchronized (fun q h => Or.inr h) hK hP hD0.self va_S.rf hE rfl rfl _ hl
section KRET
variable {p : Program} {l : Launch} {e : Env} {R : Room} {s : State} {m : MethodId} {args : Array Value} {below : List Frame} {meth : Method} {c : Code} {H : Heap} {locs : List Loc}
variable {dC : Nat → ClassId} {dI : Nat → Nat → Nat} {wi wo : va_W} {A : Nat → Prop} {cc : ByteArray} {pc : Nat} {ls : Array Slot}
theorem CM_iret {r : Int32} {ty : FieldType} (hx : p.tables.exec = Jvm.exec) (hb : c.code = cc) (hr : meth.sig.returnType = some ty) (hn : narrow ty (.int r) = .int r) (hlocks : meth.locks = false) (hAe : A = va_A wi s.heap.size) (hP : va_P (dC, dI) vwCl wo H) (hD : va_D A wo) (hS : va_S A s.heap H locs) (hdg : decode cc pc = .ok (.ireturn, 1)) :
    W p l e R s m args below meth c H locs 0 0 (MQ below (kQ dC dI wi wo s.heap.size (some (.int r))) args s 0 0 A) (F0 m pc ls [.int r]) := by
  subst hAe
  exact W.zret hx hb hr hn (fun t ht hW => ⟨⟨rfl, by rw [ht]; exact hP, hD⟩, hS.F ht⟩) hS.2.2 hdg hlocks
theorem CM_lret {r : Int64} (hx : p.tables.exec = Jvm.exec) (hb : c.code = cc) (hr : meth.sig.returnType = some .long) (hlocks : meth.locks = false) (hAe : A = va_A wi s.heap.size) (hP : va_P (dC, dI) vwCl wo H) (hD : va_D A wo) (hS : va_S A s.heap H locs) (hdg : decode cc pc = .ok (.lreturn, 1)) :
    W p l e R s m args below meth c H locs 0 0 (MQ below (kQ dC dI wi wo s.heap.size (some (.long r))) args s 0 0 A) (F0 m pc ls [.long r]) := by
  subst hAe
  exact W.lret hx hb hr (fun t ht hW => ⟨⟨rfl, by rw [ht]; exact hP, hD⟩, hS.F ht⟩) hS.2.2 hdg hlocks
theorem CM_vret (hx : p.tables.exec = Jvm.exec) (hb : c.code = cc) (hr : meth.sig.returnType = none) (hlocks : meth.locks = false) (hAe : A = va_A wi s.heap.size) (hP : va_P (dC, dI) vwCl wo H) (hD : va_D A wo) (hS : va_S A s.heap H locs) (hdg : decode cc pc = .ok (.return_, 1)) :
    W p l e R s m args below meth c H locs 0 0 (MQ below (kQ dC dI wi wo s.heap.size none) args s 0 0 A) (F0 m pc ls []) := by
  subst hAe
  exact W.vret hx hb hr (fun t ht hW => ⟨⟨rfl, by rw [ht]; exact hP, hD⟩, hS.F ht⟩) hS.2.2 hdg hlocks
theorem CM_aret {a : Nat} {C : String} (hx : p.tables.exec = Jvm.exec) (hb : c.code = cc) (hr : meth.sig.returnType = some (.object C)) (hlocks : meth.locks = false) (hAe : A = va_A wi s.heap.size) (hP : va_P (dC, dI) vwCl wo H) (hD : va_D A wo) (hS : va_S A s.heap H locs) (hdg : decode cc pc = .ok (.areturn, 1)) :
    W p l e R s m args below meth c H locs 0 0 (MQ below (kQ dC dI wi wo s.heap.size (some (.ref a))) args s 0 0 A) (F0 m pc ls [.ref a]) := by
  subst hAe
  exact W.aret hx hb hr (Or.inl ⟨C, rfl⟩) (Or.inr ⟨a, rfl⟩) (fun t ht hW => ⟨⟨rfl, by rw [ht]; exact hP, hD⟩, hS.F ht⟩) hS.2.2 hdg hlocks
theorem lv_tope {cells slots : Nat} {Q : State → Prop} {rest : List Value} {x y : Int32} (h : y = x) (k : W p l e R s m args below meth c H locs cells slots Q (F0 m pc ls (.int y :: rest))) : W p l e R s m args below meth c H locs cells slots Q (F0 m pc ls (.int x :: rest)) := by
  rw [← h]; exact k
theorem lv_topel {cells slots : Nat} {Q : State → Prop} {rest : List Value} {x y : Int64} (h : y = x) (k : W p l e R s m args below meth c H locs cells slots Q (F0 m pc ls (.long y :: rest))) : W p l e R s m args below meth c H locs cells slots Q (F0 m pc ls (.long x :: rest)) := by
  rw [← h]; exact k
end KRET
theorem kPre_blind {E : (Nat → Prop) → State → Heap → Prop} (hE : kEnv E) {dC : Nat → ClassId} {dI : Nat → Nat → Nat} {cI cZ : ClassId} {av : List Value} {wi : va_W} {sz : Nat} : FrameBlind (va_Pc av (kPre E dC dI cI cZ wi sz)) := by
  intro a U g mk q
  obtain ⟨q0, q1, q2, q3, q4, q5⟩ := q
  exact ⟨q0, q1, q2, va_K.moved (u := U) (U := U.calling g mk a) (Vm.Alike.refl U.vm) q3, q4, hE.2.1 (u := U) (U := U.calling g mk a) rfl q5⟩
section KCALL
variable {p : Program} {l : Launch} {e : Env} {R : Room} {s : State} {m : MethodId} {args : Array Value} {below : List Frame} {meth : Method} {c : Code} {H : Heap} {locs : List Loc} {cells slots : Nat} {Q : State → Prop}
variable {E : (Nat → Prop) → State → Heap → Prop} {dC : Nat → ClassId} {dI : Nat → Nat → Nat} {cI cZ : ClassId} {A : Nat → Prop} {cc bytes : ByteArray} {pc : Nat} {ls : Array Slot}
variable {y : MethodName} {maxL nL n index : Nat} {ret : Option FieldType} {ws : List Cond} {rm : Room} {Ts : List Cond} {own C : String} {b : Nat} {As rest st0 : List Value} {wH wc w1 wr wo : va_W} {v : Option Value}
/-- what a call gives back: the caller's other cells, the callee's world, in the order that is asked for -/
theorem kGo (hr : va_Run p l e R s m args below meth c H locs cells slots 0 0 (F0 m pc ls st0) rest (kQ dC dI wc w1 H.size v a) (va_A wc H.size)) (hP : va_P (dC, dI) vwCl wH H) (hD : va_D A wH) (hS : va_S A s.heap H locs) (hA : ∀ q : Nat, s.heap.size ≤ q → A q)
    (isC isR perm : List Nat) (hC : isC.map (fun i => wH[i]?) = wc.map some) (hR : isR.map (fun i => wH[i]?) = wr.map some) (hn : va_nd isR = true) (hdis : ∀ i ∈ isR, i ∉ isC) (hnp : va_nd perm = true) (hp : perm.map (fun i => (wr ++ w1)[i]?) = wo.map some)
    (kk : ∀ (H1 : Heap) (locs1 : List Loc), va_P (dC, dI) vwCl wo H1 → va_D A wo → va_S A s.heap H1 locs1 → W p l e R s m args below meth c H1 locs1 cells slots Q (F0 m (pc + 3) ls (v.toList ++ rest))) : W p l e R s m args below meth c H locs cells slots Q (F0 m pc ls st0) := by
  have hF := va_free (wc := wc) hD hS hA isC hC
  intro T hT X
  obtain ⟨v', st₀, t, T', L, h0, X', hL, e1, e2, ⟨⟨hv, hP1, hD1⟩, hz, hk⟩, st⟩ := hr T hT X
  cases hv
  rw [h0] at hz hk
  rw [← e1] at hP1 hz
  have hk1 : ∀ q : Nat, q < H.size → ¬ va_A wc H.size q → T'.heap[q]? = H[q]? := fun q h1 h2 => by rw [e1]; exact hk q h1 h2
  obtain ⟨hP2, hD2⟩ := va_join hP hD isC isR hC hR hn hdis hk1 hF hP1 hD1
  have hPo : va_P (dC, dI) vwCl wo T'.heap := hP2.sub perm (by
    have h3 : ∀ (l : List Nat) (w : va_W), l.map (fun i => (wr ++ w1)[i]?) = w.map some → l.filterMap (fun i => (wr ++ w1)[i]?) = w := by
      intro l
      induction l with
      | nil => intro w hw; cases w with
        | nil => rfl
        | cons a w => cases hw
      | cons i l ih => intro w hw; cases w with
        | nil => cases hw
        | cons a w =>
          rw [List.map_cons, List.map_cons, List.cons.injEq] at hw
          rw [List.filterMap_cons, hw.1, ih w hw.2]
    exact h3 perm wo hp)
  have hDo : va_D A wo := hD2.sub perm hnp hp
  obtain ⟨t2, a1, b1⟩ := kk T'.heap (locs ++ L) hPo hDo
    ⟨Nat.le_trans hS.1 hz, fun q h1 h2 => by rw [hk1 q (Nat.lt_of_lt_of_le h1 hS.1) (fun z => h2 (hF q z))]; exact hS.2.1 q h1 h2, fun q hq => by
      rcases List.mem_append.mp hq with h | h
      · exact hS.2.2 q h
      · exact hF _ (hL q h)⟩ T' rfl X'
  exact ⟨t2, st t2 a1, b1⟩
theorem kIn (hE : kEnv E) (hK : va_K (dC, dI) vwCl (kT cI cZ) s) (hP : va_P (dC, dI) vwCl wH H) (hD : va_D A wH) (hS : va_S A s.heap H locs) (hA : ∀ q : Nat, s.heap.size ≤ q → A q) (hEs : E A s s.heap) (isC : List Nat) (hC : isC.map (fun i => wH[i]?) = wc.map some) (hnC : va_nd isC = true) :
    va_P (dC, dI) vwCl wc H ∧ ∀ U : State, U.heap = H → s.WarmedH U.vm → va_Pc As (kPre E dC dI cI cZ wc H.size) As.toArray U := by
  have hPc : va_P (dC, dI) vwCl wc H := by
    intro k q hk
    have h1 : (isC.map (fun i => wH[i]?))[k]? = some (some q) := by rw [hC, List.getElem?_map, hk]; rfl
    rw [List.getElem?_map] at h1
    cases hi : isC[k]? with
    | none => rw [hi] at h1; cases h1
    | some i => rw [hi] at h1; exact hP i q (Option.some.inj h1)
  have hDc : va_D A wc := hD.sub isC hnC hC
  have hF := va_free (wc := wc) hD hS hA isC hC
  refine ⟨hPc, fun U hU hW => ⟨rfl, by rw [hU], by rw [hU]; exact hPc, va_K.moved hW.alike hK, hDc.weaken (fun _ _ _ _ => trivial), ?_⟩⟩
  rw [hU]
  exact hE.1 hW (hE.2.2.2 (hE.2.2.1 hEs (fun a h1 h2 => hS.2.1 a h1 h2)) hF)
theorem CM_callV (S : CallFix p m c cc nL s args Ts own) (hM : CM l y ws rm E dC dI cI cZ (.ref b :: As) wc w1 v) (cw : CallW R s args own C index y bytes maxL ret ws rm 0 0 n)
    (hE : kEnv E) (hK : va_K (dC, dI) vwCl (kT cI cZ) s) (hP : va_P (dC, dI) vwCl wH H) (hD : va_D A wH) (hS : va_S A s.heap H locs) (hA : ∀ q : Nat, s.heap.size ≤ q → A q) (hEs : E A s s.heap)
    (isC isR perm : List Nat) (hC : isC.map (fun i => wH[i]?) = wc.map some) (hR : isR.map (fun i => wH[i]?) = wr.map some) (hnC : va_nd isC = true) (hn : va_nd isR = true) (hdis : ∀ i ∈ isR, i ∉ isC) (hnp : va_nd perm = true) (hp : perm.map (fun i => (wr ++ w1)[i]?) = wo.map some)
    (q0 ci : Nat) {q : vw_C} {fs : List Value} (hci : vwCl[ci]? = some q) (hb0 : wH[q0]? = some (b, .inr (ci, fs))) (hq : q.1 = C)
    (hnA : As.length = n) (hls : ls.size = nL) (hst : st0 = As.reverse ++ .ref b :: rest) (hroom : (rest.map fun v => v.category).sum ≤ 8) (hdg : decode cc pc = .ok (.invokevirtual index, 3)) (hcs : cells ≤ R.cells ∧ slots ≤ R.slots)
    (kk : ∀ (H1 : Heap) (locs1 : List Loc), va_P (dC, dI) vwCl wo H1 → va_D A wo → va_S A s.heap H1 locs1 → W p l e R s m args below meth c H1 locs1 cells slots Q (F0 m (pc + 3) ls (v.toList ++ rest))) : W p l e R s m args below meth c H locs cells slots Q (F0 m pc ls st0) := by
  obtain ⟨hPc, hpre⟩ := kIn (As := .ref b :: As) hE hK hP hD hS hA hEs isC hC hnC
  subst hq
  exact kGo (va_runV S (hM H.size) cw ⟨kPre_blind hE, va_recv hK hP hci hb0, hpre⟩ rfl hnA hls hst (lv_room (pc := pc) (ls := ls) (rest := st0) (m := m) hroom) hdg hcs) hP hD hS hA isC isR perm hC hR hn hdis hnp hp kk
theorem CM_callS (S : CallFix p m c cc nL s args Ts own) (hM : CM l y ws rm E dC dI cI cZ As wc w1 v) (cw : CallB R s args own index y bytes maxL ret ws rm 0 0 n ∧ (Cond.static y).before args s = true)
    (hE : kEnv E) (hK : va_K (dC, dI) vwCl (kT cI cZ) s) (hP : va_P (dC, dI) vwCl wH H) (hD : va_D A wH) (hS : va_S A s.heap H locs) (hA : ∀ q : Nat, s.heap.size ≤ q → A q) (hEs : E A s s.heap)
    (isC isR perm : List Nat) (hC : isC.map (fun i => wH[i]?) = wc.map some) (hR : isR.map (fun i => wH[i]?) = wr.map some) (hnC : va_nd isC = true) (hn : va_nd isR = true) (hdis : ∀ i ∈ isR, i ∉ isC) (hnp : va_nd perm = true) (hp : perm.map (fun i => (wr ++ w1)[i]?) = wo.map some)
    (hnA : As.length = n) (hls : ls.size = nL) (hst : st0 = As.reverse ++ rest) (hroom : (rest.map fun v => v.category).sum ≤ 8) (hdg : decode cc pc = .ok (.invokestatic index, 3)) (hcs : cells ≤ R.cells ∧ slots ≤ R.slots)
    (kk : ∀ (H1 : Heap) (locs1 : List Loc), va_P (dC, dI) vwCl wo H1 → va_D A wo → va_S A s.heap H1 locs1 → W p l e R s m args below meth c H1 locs1 cells slots Q (F0 m (pc + 3) ls (v.toList ++ rest))) : W p l e R s m args below meth c H locs cells slots Q (F0 m pc ls st0) := by
  obtain ⟨hPc, hpre⟩ := kIn (As := As) hE hK hP hD hS hA hEs isC hC hnC
  exact kGo (va_runS S (hM H.size) cw ⟨kPre_blind hE, hpre⟩ rfl hnA hls hst (lv_room (pc := pc) (ls := ls) (rest := st0) (m := m) hroom) hdg hcs) hP hD hS hA isC isR perm hC hR hn hdis hnp hp kk
end KCALL
def bd1 {t0 r : Type} (o : Option (t0)) (k : t0 → Option r) : Option r := match o with | some a0 => k a0 | none => none
theorem bd1_some {t0 r : Type} {o : Option (t0)} {k : t0 → Option r} {z : r} (h : bd1 o k = some z) : ∃ a0, o = some a0 ∧ k a0 = some z := by
  cases o with
  | none => exact nomatch h
  | some w => exact ⟨w, rfl, h⟩
theorem inj1 {t0 : Type} {a0 b0 : t0} (h : some a0 = some b0) : a0 = b0 := Option.some.inj h
def bd2 {t0 t1 r : Type} (o : Option (t0 × t1)) (k : t0 → t1 → Option r) : Option r := match o with | some (a0, a1) => k a0 a1 | none => none
theorem bd2_some {t0 t1 r : Type} {o : Option (t0 × t1)} {k : t0 → t1 → Option r} {z : r} (h : bd2 o k = some z) : ∃ a0 a1, o = some (a0, a1) ∧ k a0 a1 = some z := by
  cases o with
  | none => exact nomatch h
  | some w => exact ⟨w.1, w.2, rfl, h⟩
theorem inj2 {t0 t1 : Type} {a0 b0 : t0} {a1 b1 : t1} (h : some (a0, a1) = some (b0, b1)) : a0 = b0 ∧ a1 = b1 := by
  cases h
  exact ⟨rfl, rfl⟩
def bd3 {t0 t1 t2 r : Type} (o : Option (t0 × t1 × t2)) (k : t0 → t1 → t2 → Option r) : Option r := match o with | some (a0, a1, a2) => k a0 a1 a2 | none => none
theorem bd3_some {t0 t1 t2 r : Type} {o : Option (t0 × t1 × t2)} {k : t0 → t1 → t2 → Option r} {z : r} (h : bd3 o k = some z) : ∃ a0 a1 a2, o = some (a0, a1, a2) ∧ k a0 a1 a2 = some z := by
  cases o with
  | none => exact nomatch h
  | some w => exact ⟨w.1, w.2.1, w.2.2, rfl, h⟩
theorem inj3 {t0 t1 t2 : Type} {a0 b0 : t0} {a1 b1 : t1} {a2 b2 : t2} (h : some (a0, a1, a2) = some (b0, b1, b2)) : a0 = b0 ∧ a1 = b1 ∧ a2 = b2 := by
  cases h
  exact ⟨rfl, rfl, rfl⟩
def bd4 {t0 t1 t2 t3 r : Type} (o : Option (t0 × t1 × t2 × t3)) (k : t0 → t1 → t2 → t3 → Option r) : Option r := match o with | some (a0, a1, a2, a3) => k a0 a1 a2 a3 | none => none
theorem bd4_some {t0 t1 t2 t3 r : Type} {o : Option (t0 × t1 × t2 × t3)} {k : t0 → t1 → t2 → t3 → Option r} {z : r} (h : bd4 o k = some z) : ∃ a0 a1 a2 a3, o = some (a0, a1, a2, a3) ∧ k a0 a1 a2 a3 = some z := by
  cases o with
  | none => exact nomatch h
  | some w => exact ⟨w.1, w.2.1, w.2.2.1, w.2.2.2, rfl, h⟩
theorem inj4 {t0 t1 t2 t3 : Type} {a0 b0 : t0} {a1 b1 : t1} {a2 b2 : t2} {a3 b3 : t3} (h : some (a0, a1, a2, a3) = some (b0, b1, b2, b3)) : a0 = b0 ∧ a1 = b1 ∧ a2 = b2 ∧ a3 = b3 := by
  cases h
  exact ⟨rfl, rfl, rfl, rfl⟩
def bd5 {t0 t1 t2 t3 t4 r : Type} (o : Option (t0 × t1 × t2 × t3 × t4)) (k : t0 → t1 → t2 → t3 → t4 → Option r) : Option r := match o with | some (a0, a1, a2, a3, a4) => k a0 a1 a2 a3 a4 | none => none
theorem bd5_some {t0 t1 t2 t3 t4 r : Type} {o : Option (t0 × t1 × t2 × t3 × t4)} {k : t0 → t1 → t2 → t3 → t4 → Option r} {z : r} (h : bd5 o k = some z) : ∃ a0 a1 a2 a3 a4, o = some (a0, a1, a2, a3, a4) ∧ k a0 a1 a2 a3 a4 = some z := by
  cases o with
  | none => exact nomatch h
  | some w => exact ⟨w.1, w.2.1, w.2.2.1, w.2.2.2.1, w.2.2.2.2, rfl, h⟩
theorem inj5 {t0 t1 t2 t3 t4 : Type} {a0 b0 : t0} {a1 b1 : t1} {a2 b2 : t2} {a3 b3 : t3} {a4 b4 : t4} (h : some (a0, a1, a2, a3, a4) = some (b0, b1, b2, b3, b4)) : a0 = b0 ∧ a1 = b1 ∧ a2 = b2 ∧ a3 = b3 ∧ a4 = b4 := by
  cases h
  exact ⟨rfl, rfl, rfl, rfl, rfl⟩
def bd6 {t0 t1 t2 t3 t4 t5 r : Type} (o : Option (t0 × t1 × t2 × t3 × t4 × t5)) (k : t0 → t1 → t2 → t3 → t4 → t5 → Option r) : Option r := match o with | some (a0, a1, a2, a3, a4, a5) => k a0 a1 a2 a3 a4 a5 | none => none
theorem bd6_some {t0 t1 t2 t3 t4 t5 r : Type} {o : Option (t0 × t1 × t2 × t3 × t4 × t5)} {k : t0 → t1 → t2 → t3 → t4 → t5 → Option r} {z : r} (h : bd6 o k = some z) : ∃ a0 a1 a2 a3 a4 a5, o = some (a0, a1, a2, a3, a4, a5) ∧ k a0 a1 a2 a3 a4 a5 = some z := by
  cases o with
  | none => exact nomatch h
  | some w => exact ⟨w.1, w.2.1, w.2.2.1, w.2.2.2.1, w.2.2.2.2.1, w.2.2.2.2.2, rfl, h⟩
theorem inj6 {t0 t1 t2 t3 t4 t5 : Type} {a0 b0 : t0} {a1 b1 : t1} {a2 b2 : t2} {a3 b3 : t3} {a4 b4 : t4} {a5 b5 : t5} (h : some (a0, a1, a2, a3, a4, a5) = some (b0, b1, b2, b3, b4, b5)) : a0 = b0 ∧ a1 = b1 ∧ a2 = b2 ∧ a3 = b3 ∧ a4 = b4 ∧ a5 = b5 := by
  cases h
  exact ⟨rfl, rfl, rfl, rfl, rfl, rfl⟩
def bd7 {t0 t1 t2 t3 t4 t5 t6 r : Type} (o : Option (t0 × t1 × t2 × t3 × t4 × t5 × t6)) (k : t0 → t1 → t2 → t3 → t4 → t5 → t6 → Option r) : Option r := match o with | some (a0, a1, a2, a3, a4, a5, a6) => k a0 a1 a2 a3 a4 a5 a6 | none => none
theorem bd7_some {t0 t1 t2 t3 t4 t5 t6 r : Type} {o : Option (t0 × t1 × t2 × t3 × t4 × t5 × t6)} {k : t0 → t1 → t2 → t3 → t4 → t5 → t6 → Option r} {z : r} (h : bd7 o k = some z) : ∃ a0 a1 a2 a3 a4 a5 a6, o = some (a0, a1, a2, a3, a4, a5, a6) ∧ k a0 a1 a2 a3 a4 a5 a6 = some z := by
  cases o with
  | none => exact nomatch h
  | some w => exact ⟨w.1, w.2.1, w.2.2.1, w.2.2.2.1, w.2.2.2.2.1, w.2.2.2.2.2.1, w.2.2.2.2.2.2, rfl, h⟩
theorem inj7 {t0 t1 t2 t3 t4 t5 t6 : Type} {a0 b0 : t0} {a1 b1 : t1} {a2 b2 : t2} {a3 b3 : t3} {a4 b4 : t4} {a5 b5 : t5} {a6 b6 : t6} (h : some (a0, a1, a2, a3, a4, a5, a6) = some (b0, b1, b2, b3, b4, b5, b6)) : a0 = b0 ∧ a1 = b1 ∧ a2 = b2 ∧ a3 = b3 ∧ a4 = b4 ∧ a5 = b5 ∧ a6 = b6 := by
  cases h
  exact ⟨rfl, rfl, rfl, rfl, rfl, rfl, rfl⟩
def bd8 {t0 t1 t2 t3 t4 t5 t6 t7 r : Type} (o : Option (t0 × t1 × t2 × t3 × t4 × t5 × t6 × t7)) (k : t0 → t1 → t2 → t3 → t4 → t5 → t6 → t7 → Option r) : Option r := match o with | some (a0, a1, a2, a3, a4, a5, a6, a7) => k a0 a1 a2 a3 a4 a5 a6 a7 | none => none
theorem bd8_some {t0 t1 t2 t3 t4 t5 t6 t7 r : Type} {o : Option (t0 × t1 × t2 × t3 × t4 × t5 × t6 × t7)} {k : t0 → t1 → t2 → t3 → t4 → t5 → t6 → t7 → Option r} {z : r} (h : bd8 o k = some z) : ∃ a0 a1 a2 a3 a4 a5 a6 a7, o = some (a0, a1, a2, a3, a4, a5, a6, a7) ∧ k a0 a1 a2 a3 a4 a5 a6 a7 = some z := by
  cases o with
  | none => exact nomatch h
  | some w => exact ⟨w.1, w.2.1, w.2.2.1, w.2.2.2.1, w.2.2.2.2.1, w.2.2.2.2.2.1, w.2.2.2.2.2.2.1, w.2.2.2.2.2.2.2, rfl, h⟩
theorem inj8 {t0 t1 t2 t3 t4 t5 t6 t7 : Type} {a0 b0 : t0} {a1 b1 : t1} {a2 b2 : t2} {a3 b3 : t3} {a4 b4 : t4} {a5 b5 : t5} {a6 b6 : t6} {a7 b7 : t7} (h : some (a0, a1, a2, a3, a4, a5, a6, a7) = some (b0, b1, b2, b3, b4, b5, b6, b7)) : a0 = b0 ∧ a1 = b1 ∧ a2 = b2 ∧ a3 = b3 ∧ a4 = b4 ∧ a5 = b5 ∧ a6 = b6 ∧ a7 = b7 := by
  cases h
  exact ⟨rfl, rfl, rfl, rfl, rfl, rfl, rfl, rfl⟩
def bd9 {t0 t1 t2 t3 t4 t5 t6 t7 t8 r : Type} (o : Option (t0 × t1 × t2 × t3 × t4 × t5 × t6 × t7 × t8)) (k : t0 → t1 → t2 → t3 → t4 → t5 → t6 → t7 → t8 → Option r) : Option r := match o with | some (a0, a1, a2, a3, a4, a5, a6, a7, a8) => k a0 a1 a2 a3 a4 a5 a6 a7 a8 | none => none
theorem bd9_some {t0 t1 t2 t3 t4 t5 t6 t7 t8 r : Type} {o : Option (t0 × t1 × t2 × t3 × t4 × t5 × t6 × t7 × t8)} {k : t0 → t1 → t2 → t3 → t4 → t5 → t6 → t7 → t8 → Option r} {z : r} (h : bd9 o k = some z) : ∃ a0 a1 a2 a3 a4 a5 a6 a7 a8, o = some (a0, a1, a2, a3, a4, a5, a6, a7, a8) ∧ k a0 a1 a2 a3 a4 a5 a6 a7 a8 = some z := by
  cases o with
  | none => exact nomatch h
  | some w => exact ⟨w.1, w.2.1, w.2.2.1, w.2.2.2.1, w.2.2.2.2.1, w.2.2.2.2.2.1, w.2.2.2.2.2.2.1, w.2.2.2.2.2.2.2.1, w.2.2.2.2.2.2.2.2, rfl, h⟩
theorem inj9 {t0 t1 t2 t3 t4 t5 t6 t7 t8 : Type} {a0 b0 : t0} {a1 b1 : t1} {a2 b2 : t2} {a3 b3 : t3} {a4 b4 : t4} {a5 b5 : t5} {a6 b6 : t6} {a7 b7 : t7} {a8 b8 : t8} (h : some (a0, a1, a2, a3, a4, a5, a6, a7, a8) = some (b0, b1, b2, b3, b4, b5, b6, b7, b8)) : a0 = b0 ∧ a1 = b1 ∧ a2 = b2 ∧ a3 = b3 ∧ a4 = b4 ∧ a5 = b5 ∧ a6 = b6 ∧ a7 = b7 ∧ a8 = b8 := by
  cases h
  exact ⟨rfl, rfl, rfl, rfl, rfl, rfl, rfl, rfl, rfl⟩
def bd10 {t0 t1 t2 t3 t4 t5 t6 t7 t8 t9 r : Type} (o : Option (t0 × t1 × t2 × t3 × t4 × t5 × t6 × t7 × t8 × t9)) (k : t0 → t1 → t2 → t3 → t4 → t5 → t6 → t7 → t8 → t9 → Option r) : Option r := match o with | some (a0, a1, a2, a3, a4, a5, a6, a7, a8, a9) => k a0 a1 a2 a3 a4 a5 a6 a7 a8 a9 | none => none
theorem bd10_some {t0 t1 t2 t3 t4 t5 t6 t7 t8 t9 r : Type} {o : Option (t0 × t1 × t2 × t3 × t4 × t5 × t6 × t7 × t8 × t9)} {k : t0 → t1 → t2 → t3 → t4 → t5 → t6 → t7 → t8 → t9 → Option r} {z : r} (h : bd10 o k = some z) : ∃ a0 a1 a2 a3 a4 a5 a6 a7 a8 a9, o = some (a0, a1, a2, a3, a4, a5, a6, a7, a8, a9) ∧ k a0 a1 a2 a3 a4 a5 a6 a7 a8 a9 = some z := by
  cases o with
  | none => exact nomatch h
  | some w => exact ⟨w.1, w.2.1, w.2.2.1, w.2.2.2.1, w.2.2.2.2.1, w.2.2.2.2.2.1, w.2.2.2.2.2.2.1, w.2.2.2.2.2.2.2.1, w.2.2.2.2.2.2.2.2.1, w.2.2.2.2.2.2.2.2.2, rfl, h⟩
theorem inj10 {t0 t1 t2 t3 t4 t5 t6 t7 t8 t9 : Type} {a0 b0 : t0} {a1 b1 : t1} {a2 b2 : t2} {a3 b3 : t3} {a4 b4 : t4} {a5 b5 : t5} {a6 b6 : t6} {a7 b7 : t7} {a8 b8 : t8} {a9 b9 : t9} (h : some (a0, a1, a2, a3, a4, a5, a6, a7, a8, a9) = some (b0, b1, b2, b3, b4, b5, b6, b7, b8, b9)) : a0 = b0 ∧ a1 = b1 ∧ a2 = b2 ∧ a3 = b3 ∧ a4 = b4 ∧ a5 = b5 ∧ a6 = b6 ∧ a7 = b7 ∧ a8 = b8 ∧ a9 = b9 := by
  cases h
  exact ⟨rfl, rfl, rfl, rfl, rfl, rfl, rfl, rfl, rfl, rfl⟩
def bd11 {t0 t1 t2 t3 t4 t5 t6 t7 t8 t9 t10 r : Type} (o : Option (t0 × t1 × t2 × t3 × t4 × t5 × t6 × t7 × t8 × t9 × t10)) (k : t0 → t1 → t2 → t3 → t4 → t5 → t6 → t7 → t8 → t9 → t10 → Option r) : Option r := match o with | some (a0, a1, a2, a3, a4, a5, a6, a7, a8, a9, a10) => k a0 a1 a2 a3 a4 a5 a6 a7 a8 a9 a10 | none => none
theorem bd11_some {t0 t1 t2 t3 t4 t5 t6 t7 t8 t9 t10 r : Type} {o : Option (t0 × t1 × t2 × t3 × t4 × t5 × t6 × t7 × t8 × t9 × t10)} {k : t0 → t1 → t2 → t3 → t4 → t5 → t6 → t7 → t8 → t9 → t10 → Option r} {z : r} (h : bd11 o k = some z) : ∃ a0 a1 a2 a3 a4 a5 a6 a7 a8 a9 a10, o = some (a0, a1, a2, a3, a4, a5, a6, a7, a8, a9, a10) ∧ k a0 a1 a2 a3 a4 a5 a6 a7 a8 a9 a10 = some z := by
  cases o with
  | none => exact nomatch h
  | some w => exact ⟨w.1, w.2.1, w.2.2.1, w.2.2.2.1, w.2.2.2.2.1, w.2.2.2.2.2.1, w.2.2.2.2.2.2.1, w.2.2.2.2.2.2.2.1, w.2.2.2.2.2.2.2.2.1, w.2.2.2.2.2.2.2.2.2.1, w.2.2.2.2.2.2.2.2.2.2, rfl, h⟩
theorem inj11 {t0 t1 t2 t3 t4 t5 t6 t7 t8 t9 t10 : Type} {a0 b0 : t0} {a1 b1 : t1} {a2 b2 : t2} {a3 b3 : t3} {a4 b4 : t4} {a5 b5 : t5} {a6 b6 : t6} {a7 b7 : t7} {a8 b8 : t8} {a9 b9 : t9} {a10 b10 : t10} (h : some (a0, a1, a2, a3, a4, a5, a6, a7, a8, a9, a10) = some (b0, b1, b2, b3, b4, b5, b6, b7, b8, b9, b10)) : a0 = b0 ∧ a1 = b1 ∧ a2 = b2 ∧ a3 = b3 ∧ a4 = b4 ∧ a5 = b5 ∧ a6 = b6 ∧ a7 = b7 ∧ a8 = b8 ∧ a9 = b9 ∧ a10 = b10 := by
  cases h
  exact ⟨rfl, rfl, rfl, rfl, rfl, rfl, rfl, rfl, rfl, rfl, rfl⟩
def bd12 {t0 t1 t2 t3 t4 t5 t6 t7 t8 t9 t10 t11 r : Type} (o : Option (t0 × t1 × t2 × t3 × t4 × t5 × t6 × t7 × t8 × t9 × t10 × t11)) (k : t0 → t1 → t2 → t3 → t4 → t5 → t6 → t7 → t8 → t9 → t10 → t11 → Option r) : Option r := match o with | some (a0, a1, a2, a3, a4, a5, a6, a7, a8, a9, a10, a11) => k a0 a1 a2 a3 a4 a5 a6 a7 a8 a9 a10 a11 | none => none
theorem bd12_some {t0 t1 t2 t3 t4 t5 t6 t7 t8 t9 t10 t11 r : Type} {o : Option (t0 × t1 × t2 × t3 × t4 × t5 × t6 × t7 × t8 × t9 × t10 × t11)} {k : t0 → t1 → t2 → t3 → t4 → t5 → t6 → t7 → t8 → t9 → t10 → t11 → Option r} {z : r} (h : bd12 o k = some z) : ∃ a0 a1 a2 a3 a4 a5 a6 a7 a8 a9 a10 a11, o = some (a0, a1, a2, a3, a4, a5, a6, a7, a8, a9, a10, a11) ∧ k a0 a1 a2 a3 a4 a5 a6 a7 a8 a9 a10 a11 = some z := by
  cases o with
  | none => exact nomatch h
  | some w => exact ⟨w.1, w.2.1, w.2.2.1, w.2.2.2.1, w.2.2.2.2.1, w.2.2.2.2.2.1, w.2.2.2.2.2.2.1, w.2.2.2.2.2.2.2.1, w.2.2.2.2.2.2.2.2.1, w.2.2.2.2.2.2.2.2.2.1, w.2.2.2.2.2.2.2.2.2.2.1, w.2.2.2.2.2.2.2.2.2.2.2, rfl, h⟩
theorem inj12 {t0 t1 t2 t3 t4 t5 t6 t7 t8 t9 t10 t11 : Type} {a0 b0 : t0} {a1 b1 : t1} {a2 b2 : t2} {a3 b3 : t3} {a4 b4 : t4} {a5 b5 : t5} {a6 b6 : t6} {a7 b7 : t7} {a8 b8 : t8} {a9 b9 : t9} {a10 b10 : t10} {a11 b11 : t11} (h : some (a0, a1, a2, a3, a4, a5, a6, a7, a8, a9, a10, a11) = some (b0, b1, b2, b3, b4, b5, b6, b7, b8, b9, b10, b11)) : a0 = b0 ∧ a1 = b1 ∧ a2 = b2 ∧ a3 = b3 ∧ a4 = b4 ∧ a5 = b5 ∧ a6 = b6 ∧ a7 = b7 ∧ a8 = b8 ∧ a9 = b9 ∧ a10 = b10 ∧ a11 = b11 := by
  cases h
  exact ⟨rfl, rfl, rfl, rfl, rfl, rfl, rfl, rfl, rfl, rfl, rfl, rfl⟩
def bd13 {t0 t1 t2 t3 t4 t5 t6 t7 t8 t9 t10 t11 t12 r : Type} (o : Option (t0 × t1 × t2 × t3 × t4 × t5 × t6 × t7 × t8 × t9 × t10 × t11 × t12)) (k : t0 → t1 → t2 → t3 → t4 → t5 → t6 → t7 → t8 → t9 → t10 → t11 → t12 → Option r) : Option r := match o with | some (a0, a1, a2, a3, a4, a5, a6, a7, a8, a9, a10, a11, a12) => k a0 a1 a2 a3 a4 a5 a6 a7 a8 a9 a10 a11 a12 | none => none
theorem bd13_some {t0 t1 t2 t3 t4 t5 t6 t7 t8 t9 t10 t11 t12 r : Type} {o : Option (t0 × t1 × t2 × t3 × t4 × t5 × t6 × t7 × t8 × t9 × t10 × t11 × t12)} {k : t0 → t1 → t2 → t3 → t4 → t5 → t6 → t7 → t8 → t9 → t10 → t11 → t12 → Option r} {z : r} (h : bd13 o k = some z) : ∃ a0 a1 a2 a3 a4 a5 a6 a7 a8 a9 a10 a11 a12, o = some (a0, a1, a2, a3, a4, a5, a6, a7, a8, a9, a10, a11, a12) ∧ k a0 a1 a2 a3 a4 a5 a6 a7 a8 a9 a10 a11 a12 = some z := by
  cases o with
  | none => exact nomatch h
  | some w => exact ⟨w.1, w.2.1, w.2.2.1, w.2.2.2.1, w.2.2.2.2.1, w.2.2.2.2.2.1, w.2.2.2.2.2.2.1, w.2.2.2.2.2.2.2.1, w.2.2.2.2.2.2.2.2.1, w.2.2.2.2.2.2.2.2.2.1, w.2.2.2.2.2.2.2.2.2.2.1, w.2.2.2.2.2.2.2.2.2.2.2.1, w.2.2.2.2.2.2.2.2.2.2.2.2, rfl, h⟩
theorem inj13 {t0 t1 t2 t3 t4 t5 t6 t7 t8 t9 t10 t11 t12 : Type} {a0 b0 : t0} {a1 b1 : t1} {a2 b2 : t2} {a3 b3 : t3} {a4 b4 : t4} {a5 b5 : t5} {a6 b6 : t6} {a7 b7 : t7} {a8 b8 : t8} {a9 b9 : t9} {a10 b10 : t10} {a11 b11 : t11} {a12 b12 : t12} (h : some (a0, a1, a2, a3, a4, a5, a6, a7, a8, a9, a10, a11, a12) = some (b0, b1, b2, b3, b4, b5, b6, b7, b8, b9, b10, b11, b12)) : a0 = b0 ∧ a1 = b1 ∧ a2 = b2 ∧ a3 = b3 ∧ a4 = b4 ∧ a5 = b5 ∧ a6 = b6 ∧ a7 = b7 ∧ a8 = b8 ∧ a9 = b9 ∧ a10 = b10 ∧ a11 = b11 ∧ a12 = b12 := by
  cases h
  exact ⟨rfl, rfl, rfl, rfl, rfl, rfl, rfl, rfl, rfl, rfl, rfl, rfl, rfl⟩
def bd14 {t0 t1 t2 t3 t4 t5 t6 t7 t8 t9 t10 t11 t12 t13 r : Type} (o : Option (t0 × t1 × t2 × t3 × t4 × t5 × t6 × t7 × t8 × t9 × t10 × t11 × t12 × t13)) (k : t0 → t1 → t2 → t3 → t4 → t5 → t6 → t7 → t8 → t9 → t10 → t11 → t12 → t13 → Option r) : Option r := match o with | some (a0, a1, a2, a3, a4, a5, a6, a7, a8, a9, a10, a11, a12, a13) => k a0 a1 a2 a3 a4 a5 a6 a7 a8 a9 a10 a11 a12 a13 | none => none
theorem bd14_some {t0 t1 t2 t3 t4 t5 t6 t7 t8 t9 t10 t11 t12 t13 r : Type} {o : Option (t0 × t1 × t2 × t3 × t4 × t5 × t6 × t7 × t8 × t9 × t10 × t11 × t12 × t13)} {k : t0 → t1 → t2 → t3 → t4 → t5 → t6 → t7 → t8 → t9 → t10 → t11 → t12 → t13 → Option r} {z : r} (h : bd14 o k = some z) : ∃ a0 a1 a2 a3 a4 a5 a6 a7 a8 a9 a10 a11 a12 a13, o = some (a0, a1, a2, a3, a4, a5, a6, a7, a8, a9, a10, a11, a12, a13) ∧ k a0 a1 a2 a3 a4 a5 a6 a7 a8 a9 a10 a11 a12 a13 = some z := by
  cases o with
  | none => exact nomatch h
  | some w => exact ⟨w.1, w.2.1, w.2.2.1, w.2.2.2.1, w.2.2.2.2.1, w.2.2.2.2.2.1, w.2.2.2.2.2.2.1, w.2.2.2.2.2.2.2.1, w.2.2.2.2.2.2.2.2.1, w.2.2.2.2.2.2.2.2.2.1, w.2.2.2.2.2.2.2.2.2.2.1, w.2.2.2.2.2.2.2.2.2.2.2.1, w.2.2.2.2.2.2.2.2.2.2.2.2.1, w.2.2.2.2.2.2.2.2.2.2.2.2.2, rfl, h⟩
theorem inj14 {t0 t1 t2 t3 t4 t5 t6 t7 t8 t9 t10 t11 t12 t13 : Type} {a0 b0 : t0} {a1 b1 : t1} {a2 b2 : t2} {a3 b3 : t3} {a4 b4 : t4} {a5 b5 : t5} {a6 b6 : t6} {a7 b7 : t7} {a8 b8 : t8} {a9 b9 : t9} {a10 b10 : t10} {a11 b11 : t11} {a12 b12 : t12} {a13 b13 : t13} (h : some (a0, a1, a2, a3, a4, a5, a6, a7, a8, a9, a10, a11, a12, a13) = some (b0, b1, b2, b3, b4, b5, b6, b7, b8, b9, b10, b11, b12, b13)) : a0 = b0 ∧ a1 = b1 ∧ a2 = b2 ∧ a3 = b3 ∧ a4 = b4 ∧ a5 = b5 ∧ a6 = b6 ∧ a7 = b7 ∧ a8 = b8 ∧ a9 = b9 ∧ a10 = b10 ∧ a11 = b11 ∧ a12 = b12 ∧ a13 = b13 := by
  cases h
  exact ⟨rfl, rfl, rfl, rfl, rfl, rfl, rfl, rfl, rfl, rfl, rfl, rfl, rfl, rfl⟩
def bd15 {t0 t1 t2 t3 t4 t5 t6 t7 t8 t9 t10 t11 t12 t13 t14 r : Type} (o : Option (t0 × t1 × t2 × t3 × t4 × t5 × t6 × t7 × t8 × t9 × t10 × t11 × t12 × t13 × t14)) (k : t0 → t1 → t2 → t3 → t4 → t5 → t6 → t7 → t8 → t9 → t10 → t11 → t12 → t13 → t14 → Option r) : Option r := match o with | some (a0, a1, a2, a3, a4, a5, a6, a7, a8, a9, a10, a11, a12, a13, a14) => k a0 a1 a2 a3 a4 a5 a6 a7 a8 a9 a10 a11 a12 a13 a14 | none => none
theorem bd15_some {t0 t1 t2 t3 t4 t5 t6 t7 t8 t9 t10 t11 t12 t13 t14 r : Type} {o : Option (t0 × t1 × t2 × t3 × t4 × t5 × t6 × t7 × t8 × t9 × t10 × t11 × t12 × t13 × t14)} {k : t0 → t1 → t2 → t3 → t4 → t5 → t6 → t7 → t8 → t9 → t10 → t11 → t12 → t13 → t14 → Option r} {z : r} (h : bd15 o k = some z) : ∃ a0 a1 a2 a3 a4 a5 a6 a7 a8 a9 a10 a11 a12 a13 a14, o = some (a0, a1, a2, a3, a4, a5, a6, a7, a8, a9, a10, a11, a12, a13, a14) ∧ k a0 a1 a2 a3 a4 a5 a6 a7 a8 a9 a10 a11 a12 a13 a14 = some z := by
  cases o with
  | none => exact nomatch h
  | some w => exact ⟨w.1, w.2.1, w.2.2.1, w.2.2.2.1, w.2.2.2.2.1, w.2.2.2.2.2.1, w.2.2.2.2.2.2.1, w.2.2.2.2.2.2.2.1, w.2.2.2.2.2.2.2.2.1, w.2.2.2.2.2.2.2.2.2.1, w.2.2.2.2.2.2.2.2.2.2.1, w.2.2.2.2.2.2.2.2.2.2.2.1, w.2.2.2.2.2.2.2.2.2.2.2.2.1, w.2.2.2.2.2.2.2.2.2.2.2.2.2.1, w.2.2.2.2.2.2.2.2.2.2.2.2.2.2, rfl, h⟩
theorem inj15 {t0 t1 t2 t3 t4 t5 t6 t7 t8 t9 t10 t11 t12 t13 t14 : Type} {a0 b0 : t0} {a1 b1 : t1} {a2 b2 : t2} {a3 b3 : t3} {a4 b4 : t4} {a5 b5 : t5} {a6 b6 : t6} {a7 b7 : t7} {a8 b8 : t8} {a9 b9 : t9} {a10 b10 : t10} {a11 b11 : t11} {a12 b12 : t12} {a13 b13 : t13} {a14 b14 : t14} (h : some (a0, a1, a2, a3, a4, a5, a6, a7, a8, a9, a10, a11, a12, a13, a14) = some (b0, b1, b2, b3, b4, b5, b6, b7, b8, b9, b10, b11, b12, b13, b14)) : a0 = b0 ∧ a1 = b1 ∧ a2 = b2 ∧ a3 = b3 ∧ a4 = b4 ∧ a5 = b5 ∧ a6 = b6 ∧ a7 = b7 ∧ a8 = b8 ∧ a9 = b9 ∧ a10 = b10 ∧ a11 = b11 ∧ a12 = b12 ∧ a13 = b13 ∧ a14 = b14 := by
  cases h
  exact ⟨rfl, rfl, rfl, rfl, rfl, rfl, rfl, rfl, rfl, rfl, rfl, rfl, rfl, rfl, rfl⟩
def bd16 {t0 t1 t2 t3 t4 t5 t6 t7 t8 t9 t10 t11 t12 t13 t14 t15 r : Type} (o : Option (t0 × t1 × t2 × t3 × t4 × t5 × t6 × t7 × t8 × t9 × t10 × t11 × t12 × t13 × t14 × t15)) (k : t0 → t1 → t2 → t3 → t4 → t5 → t6 → t7 → t8 → t9 → t10 → t11 → t12 → t13 → t14 → t15 → Option r) : Option r := match o with | some (a0, a1, a2, a3, a4, a5, a6, a7, a8, a9, a10, a11, a12, a13, a14, a15) => k a0 a1 a2 a3 a4 a5 a6 a7 a8 a9 a10 a11 a12 a13 a14 a15 | none => none
theorem bd16_some {t0 t1 t2 t3 t4 t5 t6 t7 t8 t9 t10 t11 t12 t13 t14 t15 r : Type} {o : Option (t0 × t1 × t2 × t3 × t4 × t5 × t6 × t7 × t8 × t9 × t10 × t11 × t12 × t13 × t14 × t15)} {k : t0 → t1 → t2 → t3 → t4 → t5 → t6 → t7 → t8 → t9 → t10 → t11 → t12 → t13 → t14 → t15 → Option r} {z : r} (h : bd16 o k = some z) : ∃ a0 a1 a2 a3 a4 a5 a6 a7 a8 a9 a10 a11 a12 a13 a14 a15, o = some (a0, a1, a2, a3, a4, a5, a6, a7, a8, a9, a10, a11, a12, a13, a14, a15) ∧ k a0 a1 a2 a3 a4 a5 a6 a7 a8 a9 a10 a11 a12 a13 a14 a15 = some z := by
  cases o with
  | none => exact nomatch h
  | some w => exact ⟨w.1, w.2.1, w.2.2.1, w.2.2.2.1, w.2.2.2.2.1, w.2.2.2.2.2.1, w.2.2.2.2.2.2.1, w.2.2.2.2.2.2.2.1, w.2.2.2.2.2.2.2.2.1, w.2.2.2.2.2.2.2.2.2.1, w.2.2.2.2.2.2.2.2.2.2.1, w.2.2.2.2.2.2.2.2.2.2.2.1, w.2.2.2.2.2.2.2.2.2.2.2.2.1, w.2.2.2.2.2.2.2.2.2.2.2.2.2.1, w.2.2.2.2.2.2.2.2.2.2.2.2.2.2.1, w.2.2.2.2.2.2.2.2.2.2.2.2.2.2.2, rfl, h⟩
theorem inj16 {t0 t1 t2 t3 t4 t5 t6 t7 t8 t9 t10 t11 t12 t13 t14 t15 : Type} {a0 b0 : t0} {a1 b1 : t1} {a2 b2 : t2} {a3 b3 : t3} {a4 b4 : t4} {a5 b5 : t5} {a6 b6 : t6} {a7 b7 : t7} {a8 b8 : t8} {a9 b9 : t9} {a10 b10 : t10} {a11 b11 : t11} {a12 b12 : t12} {a13 b13 : t13} {a14 b14 : t14} {a15 b15 : t15} (h : some (a0, a1, a2, a3, a4, a5, a6, a7, a8, a9, a10, a11, a12, a13, a14, a15) = some (b0, b1, b2, b3, b4, b5, b6, b7, b8, b9, b10, b11, b12, b13, b14, b15)) : a0 = b0 ∧ a1 = b1 ∧ a2 = b2 ∧ a3 = b3 ∧ a4 = b4 ∧ a5 = b5 ∧ a6 = b6 ∧ a7 = b7 ∧ a8 = b8 ∧ a9 = b9 ∧ a10 = b10 ∧ a11 = b11 ∧ a12 = b12 ∧ a13 = b13 ∧ a14 = b14 ∧ a15 = b15 := by
  cases h
  exact ⟨rfl, rfl, rfl, rfl, rfl, rfl, rfl, rfl, rfl, rfl, rfl, rfl, rfl, rfl, rfl, rfl⟩
