/-! ===== contracts of constructors: the new cells' addresses come with the answer ===== -/
def kN (dC : Nat → ClassId) (dI : Nat → Nat → Nat) (wi : va_W) (wo : (Nat → Nat) → va_W) (sz : Nat) : Array Value → State → Outcome → State → Prop := fun _ st oc t =>
  (∃ ad : Nat → Nat, oc = .returned none ∧ va_P (dC, dI) vwCl (wo ad) t.heap ∧ va_D (va_A wi sz) (wo ad)) ∧ va_F (va_A wi sz) st t
def CN (l : Launch) (y : MethodName) (ws : List Cond) (rm : Room) (E : (Nat → Prop) → State → Heap → Prop) (dC : Nat → ClassId) (dI : Nat → Nat → Nat) (cI cZ : ClassId) (av : List Value) (wi : va_W) (wo : (Nat → Nat) → va_W) (mc ms : Nat) : Prop :=
  ∀ sz : Nat, Met l y ws rm (va_Pc av (kPre E dC dI cI cZ wi sz)) (kN dC dI wi wo sz) mc ms (va_A wi sz)
theorem CN_of {l : Launch} {y : MethodName} {ws ws' : List Cond} {rm : Room} {E : (Nat → Prop) → State → Heap → Prop} {dC : Nat → ClassId} {dI : Nat → Nat → Nat} {cI cZ : ClassId} {av : List Value} {wi : va_W} {wo : (Nat → Nat) → va_W} {mc ms : Nat} {cc : ByteArray} {maxL : Nat} {ret : Option FieldType}
    (hy : plainFor y = true) (hw : ws = Cond.code y cc maxL ret :: ws') (hlen : (lg_sl av).length ≤ maxL)
    (body : ∀ (p : Program) (e : Env) (s : State) (m : MethodId) (args : Array Value) (below : List Frame) (meth : Method) (c : Code) (A : Nat → Prop) (Q : State → Prop),
      p.tables.exec = Jvm.exec → c.code = cc → meth.sig.returnType = ret → c.maxLocals = maxL → s.vm.findClass y.cls = some m.cls → (∀ w ∈ ws, w.before args s = true) → meth.locks = false → meth.name = y.name → (∀ q : Nat, s.heap.size ≤ q → A q) →
      va_K (dC, dI) vwCl (kT cI cZ) s → va_P (dC, dI) vwCl wi s.heap → va_D A wi → va_S A s.heap s.heap [] → E A s s.heap → Q = MQ below (kN dC dI wi wo s.heap.size) args s mc ms A → A = va_A wi s.heap.size → ∀ ls : Array Slot, lv_has ls maxL (lv_args 0 av) →
      W p l e rm s m args below meth c s.heap [] 0 0 Q (F0 m 0 ls [])) : CN l y ws rm E dC dI cI cZ av wi wo mc ms := by
  intro sz
  refine kOfF (cc := cc) (maxL := maxL) (ret := ret) hy hw ?_
  intro p e s m args below meth c s₁ B hml hv
  obtain ⟨rfl, hsz, hP, hK, hD0, hE⟩ := hv
  subst hsz
  have hts := atoms_spec (ws := ws) B.pre
  have hown : s.vm.findClass y.cls = some m.cls := findClass_of_methodNamed B.named
  have hl := lv_entry av hlen
  rw [lg_entry_eq]
  exact body p e s m _ below meth c _ _ B.exec B.bytes B.returns hml hown hts B.notSynchronized (name_of_methodNamed B.named B.method).1 (fun q h => Or.inr h) hK hP hD0.self va_S.rf hE rfl rfl _ hl
section KCTOR
variable {p : Program} {l : Launch} {e : Env} {R : Room} {s : State} {m : MethodId} {args : Array Value} {below : List Frame} {meth : Method} {c : Code} {H : Heap} {locs : List Loc} {cells slots : Nat} {Q : State → Prop}
variable {E : (Nat → Prop) → State → Heap → Prop} {dC : Nat → ClassId} {dI : Nat → Nat → Nat} {cI cZ : ClassId} {A : Nat → Prop} {cc bytes : ByteArray} {pc : Nat} {ls : Array Slot}
variable {y : MethodName} {maxL nL n index : Nat} {ws : List Cond} {rm : Room} {Ts : List Cond} {own : String} {b : Nat} {As rest st0 : List Value} {wH wc wr wi : va_W}
theorem CN_vret {wo : (Nat → Nat) → va_W} {mc ms : Nat} (ad : Nat → Nat) {w : va_W} (hx : p.tables.exec = Jvm.exec) (hb : c.code = cc) (hr : meth.sig.returnType = none) (hlocks : meth.locks = false) (hQ : Q = MQ below (kN dC dI wi wo s.heap.size) args s mc ms A) (hAe : A = va_A wi s.heap.size) (hc : cells = mc) (hs : slots = ms) (hw : w = wo ad) (hP : va_P (dC, dI) vwCl w H) (hD : va_D A w) (hS : va_S A s.heap H locs) (hdg : decode cc pc = .ok (.return_, 1)) :
    W p l e R s m args below meth c H locs cells slots Q (F0 m pc ls []) := by
  subst hAe; subst hQ; subst hc; subst hs; subst hw
  exact W.vret hx hb hr (fun t ht hW => ⟨⟨ad, rfl, by rw [ht]; exact hP, hD⟩, hS.F ht⟩) hS.2.2 hdg hlocks
theorem kNewI {ws : va_W} {A0 : Nat → Prop} (hx : p.tables.exec = Jvm.exec) (hb : c.code = cc) (harr : (Cond.arrayClass (newarray.typeOf .int)).before args s = true) (hK : va_K (dC, dI) vwCl (kT cI cZ) s) (hP : va_P (dC, dI) vwCl ws H) (hD : va_D A0 ws) (hS : va_S A0 s.heap H locs) (hA : ∀ q, s.heap.size ≤ q → A0 q)
    {k : Int32} (N' : Nat) (hn : ¬ k < 0) (hN : k.toNatClampNeg = N') (hbytes : N' * componentBytes .int ≤ 536870912) (hcells : cells + 1 ≤ R.cells) (hslots : slots + N' ≤ R.slots) (hdg : decode cc pc = .ok (.newarray .int, 2))
    (kk : ∀ (q : Nat) (H1 : Heap), va_P (dC, dI) vwCl (ws ++ [(q, .inl (cI, N', .inl (fun _ => 0)))]) H1 → va_D A0 (ws ++ [(q, .inl (cI, N', .inl (fun _ => 0)))]) → va_S A0 s.heap H1 locs →
      W p l e R s m args below meth c H1 locs (cells + 1) (slots + N') Q (F0 m (pc + 2) ls (.ref q :: rest))) : W p l e R s m args below meth c H locs cells slots Q (F0 m pc ls (.int k :: rest)) := by
  refine va_newa (a0 := (N', .inl (fun _ => 0))) (ty := .int) hx hb harr rfl hK hP hD hS hA (fun _ => rfl) hn hN hbytes hcells hslots hdg (fun q cA H1 hK1 hP1 hD1 hS1 => ?_)
  have h1 : s.vm.findClass ("[" ++ FieldType.int.toString) = some cI := (hK.2 0 _ rfl).2
  have h2 : s.vm.findClass ("[" ++ FieldType.int.toString) = some cA := (hK1.2 2 _ rfl).2
  have e2 : cA = cI := Option.some.inj (h2.symm.trans h1)
  subst e2
  exact kk q H1 hP1 hD1 hS1
theorem kNewZ {ws : va_W} {A0 : Nat → Prop} (hx : p.tables.exec = Jvm.exec) (hb : c.code = cc) (harr : (Cond.arrayClass (newarray.typeOf .boolean)).before args s = true) (hK : va_K (dC, dI) vwCl (kT cI cZ) s) (hP : va_P (dC, dI) vwCl ws H) (hD : va_D A0 ws) (hS : va_S A0 s.heap H locs) (hA : ∀ q, s.heap.size ≤ q → A0 q)
    {k : Int32} (N' : Nat) (hn : ¬ k < 0) (hN : k.toNatClampNeg = N') (hbytes : N' * componentBytes .boolean ≤ 536870912) (hcells : cells + 1 ≤ R.cells) (hslots : slots + N' ≤ R.slots) (hdg : decode cc pc = .ok (.newarray .boolean, 2))
    (kk : ∀ (q : Nat) (H1 : Heap), va_P (dC, dI) vwCl (ws ++ [(q, .inl (cZ, N', .inl (fun _ => 0)))]) H1 → va_D A0 (ws ++ [(q, .inl (cZ, N', .inl (fun _ => 0)))]) → va_S A0 s.heap H1 locs →
      W p l e R s m args below meth c H1 locs (cells + 1) (slots + N') Q (F0 m (pc + 2) ls (.ref q :: rest))) : W p l e R s m args below meth c H locs cells slots Q (F0 m pc ls (.int k :: rest)) := by
  refine va_newa (a0 := (N', .inl (fun _ => 0))) (ty := .boolean) hx hb harr rfl hK hP hD hS hA (fun _ => rfl) hn hN hbytes hcells hslots hdg (fun q cA H1 hK1 hP1 hD1 hS1 => ?_)
  have h1 : s.vm.findClass ("[" ++ FieldType.boolean.toString) = some cZ := (hK.2 1 _ rfl).2
  have h2 : s.vm.findClass ("[" ++ FieldType.boolean.toString) = some cA := (hK1.2 2 _ rfl).2
  have e2 : cA = cZ := Option.some.inj (h2.symm.trans h1)
  subst e2
  exact kk q H1 hP1 hD1 hS1
theorem CN_call {w1 wo : (Nat → Nat) → va_W} {mc ms : Nat} (S : CallFix p m c cc nL s args Ts own) (hM : CN l y ws rm E dC dI cI cZ (.ref b :: As) wc w1 mc ms) (cw : CallB R s args own index y bytes maxL none ws rm mc ms n ∧ y.name = "<init>" ∧ (Cond.instanceMethod y).before args s = true)
    (hE : kEnv E) (hK : va_K (dC, dI) vwCl (kT cI cZ) s) (hP : va_P (dC, dI) vwCl wH H) (hD : va_D A wH) (hS : va_S A s.heap H locs) (hA : ∀ q : Nat, s.heap.size ≤ q → A q) (hEs : E A s s.heap)
    (isC isR perm : List Nat) (hC : isC.map (fun i => wH[i]?) = wc.map some) (hR : isR.map (fun i => wH[i]?) = wr.map some) (hnC : va_nd isC = true) (hn : va_nd isR = true) (hdis : ∀ i ∈ isR, i ∉ isC) (hnp : va_nd perm = true) (hp : ∀ ad : Nat → Nat, perm.map (fun i => (wr ++ w1 ad)[i]?) = (wo ad).map some)
    (hnA : As.length = n) (hls : ls.size = nL) (hst : st0 = As.reverse ++ .ref b :: rest) (hroom : (rest.map fun v => v.category).sum ≤ 8) (hdg : decode cc pc = .ok (.invokespecial index, 3)) (hcs : cells + mc ≤ R.cells ∧ slots + ms ≤ R.slots)
    (kk : ∀ (ad : Nat → Nat) (H1 : Heap) (locs1 : List Loc), va_P (dC, dI) vwCl (wo ad) H1 → va_D A (wo ad) → va_S A s.heap H1 locs1 → W p l e R s m args below meth c H1 locs1 (cells + mc) (slots + ms) Q (F0 m (pc + 3) ls rest)) : W p l e R s m args below meth c H locs cells slots Q (F0 m pc ls st0) := by
  obtain ⟨hPc, hpre⟩ := kIn (As := .ref b :: As) hE hK hP hD hS hA hEs isC hC hnC
  have hr : va_Run p l e R s m args below meth c H locs cells slots mc ms (F0 m pc ls st0) rest (kN dC dI wc w1 H.size (Value.ref b :: As).toArray) (va_A wc H.size) := va_runI S (hM H.size) cw ⟨kPre_blind hE, hpre⟩ (g := F0 m pc ls st0) rfl hnA hls hst (lv_room (pc := pc) (ls := ls) (rest := st0) (m := m) hroom) hdg hcs
  have hF := va_free (wc := wc) hD hS hA isC hC
  intro T hT X
  obtain ⟨v', st₀, t, T', L, h0, X', hL, e1, e2, ⟨⟨ad, hv, hP1, hD1⟩, hz, hk⟩, st⟩ := hr T hT X
  cases hv
  rw [h0] at hz hk
  rw [← e1] at hP1 hz
  have hk1 : ∀ q : Nat, q < H.size → ¬ va_A wc H.size q → T'.heap[q]? = H[q]? := fun q h1 h2 => by rw [e1]; exact hk q h1 h2
  obtain ⟨hP2, hD2⟩ := va_join hP hD isC isR hC hR hn hdis hk1 hF hP1 hD1
  have h3 : ∀ (l : List Nat) (w : va_W), l.map (fun i => (wr ++ w1 ad)[i]?) = w.map some → l.filterMap (fun i => (wr ++ w1 ad)[i]?) = w := by
    intro l
    induction l with
    | nil => intro w hw; cases w with
      | nil => rfl
      | cons a w => cases hw
    | cons i l ih => intro w hw; cases w with
      | nil => cases hw
      | cons a w =>
        rw [List.map_cons, List.map_cons, List.cons.injEq] at hw
        rw [List.filterMap_cons, hw.1, ih w hw.2]
  have hPo : va_P (dC, dI) vwCl (wo ad) T'.heap := hP2.sub perm (h3 perm (wo ad) (hp ad))
  have hDo : va_D A (wo ad) := hD2.sub perm hnp (hp ad)
  obtain ⟨t2, a1, b1⟩ := kk ad T'.heap (locs ++ L) hPo hDo
    ⟨Nat.le_trans hS.1 hz, fun q h1 h2 => by rw [hk1 q (Nat.lt_of_lt_of_le h1 hS.1) (fun z => h2 (hF q z))]; exact hS.2.1 q h1 h2, fun q hq => by
      rcases List.mem_append.mp hq with h | h
      · exact hS.2.2 q h
      · exact hF _ (hL q h)⟩ T' rfl X'
  exact ⟨t2, st t2 a1, b1⟩
end KCTOR
