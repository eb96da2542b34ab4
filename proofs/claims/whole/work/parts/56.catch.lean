/-! the search for a handler where the catch's class may be unresolved yet -/
/-- the search through the entries es gives the handler at pc and leaves the tables vm1 -/
def hs_to (e : Env) (V : State) (f : JFrame) (a : Addr) (es : List ExceptionTableEntry) (pc : Nat) (vm1 : Vm) : Prop :=
  ∀ (Q : Handler → Pre) (E : CtlPost) (d : Bool) (acts : List Action), wp (findHandler.go f a es) Q E e d acts V ↔ Q (.found pc) d acts (V.setVm vm1)
section HS
variable {e : Env} {V : State} {f : JFrame} {a : Addr} {x : ExceptionTableEntry} {t : List ExceptionTableEntry} {cT : ClassId} {cell : Cell} {vm1 vm2 : Vm} {pc : Nat}
theorem hs_hit (hx : covers x f.pc = true) (h0 : x.catchType ≠ 0) (hg : (resolveClass f.method.cls x.catchType).Gives e.toSetting V.vm (.ok cT) vm1) (hal : V.vm.Alike vm1)
    (hc : V.heap[a]? = some cell) (ho : ∀ k, cell.vm ≠ .statics k) (h1 : ∃ k, V.vm.classes[cell.cls]? = some k) (h2 : ∃ k, V.vm.classes[cT]? = some k) (hfit : V.vm.assignable cell.cls cT = true) : hs_to e V f a (x :: t) x.handlerPc vm1 := by
  intro Q E d acts
  simp only [covers] at hx
  obtain ⟨z1, z2⟩ := hg.op (op := VmOp.resolveClass f.method.cls x.catchType) rfl
  have z3 := VmOp.lands_eq (s := V) z2 hal.size_le
  obtain ⟨k1, hk1⟩ := h1
  obtain ⟨k2, hk2⟩ := h2
  obtain ⟨k1', hk1', -⟩ := hal.2.2 _ _ hk1
  obtain ⟨k2', hk2', -⟩ := hal.2.2 _ _ hk2
  have hf : vm1.assignable cell.cls cT = true := by rw [hal.assignable]; exact hfit
  simp [findHandler.go, hx, h0, z1, z2, z3, hc, ho, hk1', hk2', hf, VmOp.dirties, VmOp.acts]
theorem hs_pass (hx : covers x f.pc = true) (h0 : x.catchType ≠ 0) (hg : (resolveClass f.method.cls x.catchType).Gives e.toSetting V.vm (.ok cT) vm1) (hal : V.vm.Alike vm1)
    (hc : V.heap[a]? = some cell) (ho : ∀ k, cell.vm ≠ .statics k) (h1 : ∃ k, V.vm.classes[cell.cls]? = some k) (h2 : ∃ k, V.vm.classes[cT]? = some k) (hfit : V.vm.assignable cell.cls cT = false) (hr : hs_to e (V.setVm vm1) f a t pc vm2) : hs_to e V f a (x :: t) pc vm2 := by
  intro Q E d acts
  simp only [covers] at hx
  obtain ⟨z1, z2⟩ := hg.op (op := VmOp.resolveClass f.method.cls x.catchType) rfl
  have z3 := VmOp.lands_eq (s := V) z2 hal.size_le
  obtain ⟨k1, hk1⟩ := h1
  obtain ⟨k2, hk2⟩ := h2
  obtain ⟨k1', hk1', -⟩ := hal.2.2 _ _ hk1
  obtain ⟨k2', hk2', -⟩ := hal.2.2 _ _ hk2
  have hf : vm1.assignable cell.cls cT = false := by rw [hal.assignable]; exact hfit
  have h3 := hr Q E
  simp [findHandler.go, hx, h0, z1, z2, z3, hc, ho, hk1', hk2', hf, VmOp.dirties, VmOp.acts, h3]
  exact Iff.rfl
end HS
section HC
variable {p : Program} {l : Launch} {e : Env} {R : Room} {s : State} {m : MethodId} {args : Array Value} {below : List Frame} {meth : Method} {c : Code} {T : State} {locs : List Loc} {cells slots : Nat}
theorem hs_step (X : Stand p l e R s m args below meth c T locs cells slots) {a : Addr} {g : JFrame} (hg : g.method = m) {pc : Nat} {vm1 : Vm}
    (hf : hs_to e ((T.setTop g).pushFrame (.throwing a)) g a c.exceptionTable.toList pc vm1) {tg : State} (hr : Steps p.tables e below ((T.setVm vm1).setTop { g with pc := pc, stack := [.ref a] }) tg) :
    Steps p.tables e below ((T.setTop g).pushFrame (.throwing a)) tg := by
  subst hg
  obtain ⟨hgo, hw⟩ := X.here.throwing a
  have hst : (stepThrowing e ((T.setTop g).pushFrame (.throwing a)) a (.java g :: T.frames.tail)).Is ((((T.setTop g).pushFrame (.throwing a)).setVm vm1).setFrames (.java { g with pc := pc, stack := [.ref a] } :: T.frames.tail)) [] := by
    have hfh : ∀ (Q : Handler → Pre) (E : CtlPost) (d : Bool) (acts : List Action), wp (findHandler g a) Q E e d acts ((T.setTop g).pushFrame (.throwing a)) ↔ Q (.found pc) d acts (((T.setTop g).pushFrame (.throwing a)).setVm vm1) := fun Q E d acts => by
      rw [W.findHandler_eq (meth := meth) (code := c) (by rw [Stand.throwing_vm]; exact X.method') X.code]
      exact hf Q E d acts
    simp only [stepThrowing, searchFrame, vmDo]
    generalize hres : Sem.go _ e false [] ((T.setTop g).pushFrame (.throwing a)) = res
    obtain ⟨as, rfl, ha⟩ := Sem.eq_ok_of hres (a := Handler.found pc) (s' := ((T.setTop g).pushFrame (.throwing a)).setVm vm1) (acts' := []) (by simp [hfh])
    exact ⟨rfl, ha⟩
  refine Steps.head hgo hw ?_
  rw [stepThread_throwing (frames_entered X.here.top _), hst.1]
  obtain ⟨g₀, hfr⟩ := X.frames_eq
  have hfr' : (T.setVm vm1).frames = .java g₀ :: below := hfr
  have e1 : (((T.setTop g).pushFrame (.throwing a)).setVm vm1).setFrames (.java { g with pc := pc, stack := [.ref a] } :: T.frames.tail) = (T.setVm vm1).setTop { g with pc := pc, stack := [.ref a] } := by
    rw [State.setTop_of_frames _ hfr', X.tail, State.pushFrame, State.setTop_of_frames _ hfr]
    show ((((T.setFrames _).setFrames _).setVm vm1).setFrames _) = _
    rw [State.setFrames_setFrames]
    show (((T.setVm vm1).setFrames _).setFrames _) = _
    rw [State.setFrames_setFrames]
  rw [e1]
  exact hr
/-- the first entry takes it -/
theorem x_catch1 (X : Stand p l e R s m args below meth c T locs cells slots) {own : String} (hown : s.vm.findClass own = some m.cls) {a : Addr} {g : JFrame} (hg : g.method = m) {x : ExceptionTableEntry} {t : List ExceptionTableEntry} (htb : c.exceptionTable.toList = x :: t)
    (hx : covers x g.pc = true) (h0 : x.catchType ≠ 0) {K : String} (hcl : (Cond.classLink own x.catchType K).before args s = true) (hca : (Cond.castable K K).before args s = true) {cK : ClassId} {cell : Cell} (hK : s.vm.findClass K = some cK) (hc : T.heap[a]? = some cell) (hcc : cell.cls = cK) (hcv : cell.vm = .none) :
    ∃ vm1, Stand p l e R s m args below meth c (T.setVm vm1) locs cells slots ∧ ∀ tg, Steps p.tables e below ((T.setVm vm1).setTop { g with pc := x.handlerPc, stack := [.ref a] }) tg → Steps p.tables e below ((T.setTop g).pushFrame (.throwing a)) tg := by
  subst hg
  have hpl : e.platform.magicAccessors = ({} : Platform).magicAccessors := by rw [X.admits.platform]
  obtain ⟨c1, hc1, hl1⟩ := Cond.classLink_spec hown hcl e.platform hpl
  cases hK.symm.trans hc1
  obtain ⟨hg1, hw1, -⟩ := State.classEntry (e := e) X.warmed hl1
  obtain ⟨c2, c3, q2, q3, q4⟩ := Cond.castable_spec hca
  cases hK.symm.trans q2
  cases hK.symm.trans q3
  obtain ⟨kK, hkK, -⟩ := Vm.findClass_spec hK
  obtain ⟨kK', hkK', -⟩ := X.warmed.alike.2.2 _ _ hkK
  refine ⟨_, X.noted hw1, fun tg hr => hs_step X rfl ?_ hr⟩
  rw [htb]
  exact hs_hit hx h0 (by rw [Stand.throwing_vm]; exact hg1) (by rw [Stand.throwing_vm]; exact X.warmed.alike.symm.trans hw1.alike) (by rw [Stand.throwing_heap]; exact hc) (fun k => by rw [hcv]; simp) (by rw [Stand.throwing_vm, hcc]; exact ⟨_, hkK'⟩) (by rw [Stand.throwing_vm]; exact ⟨_, hkK'⟩) (by rw [Stand.throwing_vm, hcc, X.warmed.alike.assignable]; exact q4)
/-- the first entry's class isn't the object's, the second takes it -/
theorem x_catch2 (X : Stand p l e R s m args below meth c T locs cells slots) {own : String} (hown : s.vm.findClass own = some m.cls) {a : Addr} {g : JFrame} (hg : g.method = m) {x y : ExceptionTableEntry} {t : List ExceptionTableEntry} (htb : c.exceptionTable.toList = x :: y :: t)
    (hx : covers x g.pc = true) (h0 : x.catchType ≠ 0) (hy : covers y g.pc = true) (h0y : y.catchType ≠ 0) {K J : String} (hclJ : (Cond.classLink own x.catchType J).before args s = true) (hcl : (Cond.classLink own y.catchType K).before args s = true) (hca : (Cond.castable K K).before args s = true) {cK cJ : ClassId} {cell : Cell} (hK : s.vm.findClass K = some cK) (hJ : s.vm.findClass J = some cJ) (hno : s.vm.assignable cK cJ = false)
    (hc : T.heap[a]? = some cell) (hcc : cell.cls = cK) (hcv : cell.vm = .none) :
    ∃ vm1, Stand p l e R s m args below meth c (T.setVm vm1) locs cells slots ∧ ∀ tg, Steps p.tables e below ((T.setVm vm1).setTop { g with pc := y.handlerPc, stack := [.ref a] }) tg → Steps p.tables e below ((T.setTop g).pushFrame (.throwing a)) tg := by
  subst hg
  have hpl : e.platform.magicAccessors = ({} : Platform).magicAccessors := by rw [X.admits.platform]
  obtain ⟨c0, hc0, hl0⟩ := Cond.classLink_spec hown hclJ e.platform hpl
  cases hJ.symm.trans hc0
  obtain ⟨hg0, hw0, -⟩ := State.classEntry (e := e) X.warmed hl0
  obtain ⟨c1, hc1, hl1⟩ := Cond.classLink_spec hown hcl e.platform hpl
  cases hK.symm.trans hc1
  obtain ⟨hg1, hw1, -⟩ := State.classEntry (e := e) hw0 hl1
  obtain ⟨c2, c3, q2, q3, q4⟩ := Cond.castable_spec hca
  cases hK.symm.trans q2
  cases hK.symm.trans q3
  obtain ⟨kK, hkK, -⟩ := Vm.findClass_spec hK
  obtain ⟨kK', hkK', -⟩ := X.warmed.alike.2.2 _ _ hkK
  obtain ⟨kK2, hkK2, -⟩ := hw0.alike.2.2 _ _ hkK
  obtain ⟨kJ, hkJ, -⟩ := Vm.findClass_spec hJ
  obtain ⟨kJ', hkJ', -⟩ := X.warmed.alike.2.2 _ _ hkJ
  refine ⟨_, X.noted hw1, fun tg hr => hs_step X rfl ?_ hr⟩
  rw [htb]
  refine hs_pass hx h0 (by rw [Stand.throwing_vm]; exact hg0) (by rw [Stand.throwing_vm]; exact X.warmed.alike.symm.trans hw0.alike) (by rw [Stand.throwing_heap]; exact hc) (fun k => by rw [hcv]; simp) (by rw [Stand.throwing_vm, hcc]; exact ⟨_, hkK'⟩) (by rw [Stand.throwing_vm]; exact ⟨_, hkJ'⟩) (by rw [Stand.throwing_vm, hcc, X.warmed.alike.assignable]; exact hno) ?_
  exact hs_hit hy h0y (by rw [State.vm_setVm]; exact hg1) (by rw [State.vm_setVm]; exact hw0.alike.symm.trans hw1.alike) (by rw [State.heap_setVm, Stand.throwing_heap]; exact hc) (fun k => by rw [hcv]; simp) (by rw [State.vm_setVm, hcc]; exact ⟨_, hkK2⟩) (by rw [State.vm_setVm]; exact ⟨_, hkK2⟩) (by rw [State.vm_setVm, hcc, hw0.alike.assignable]; exact q4)
/-- a call by a contract that may throw -/
theorem x_core (X : Stand p l e R s m args below meth c T locs cells slots) {g : JFrame} (hg : g.method = m) (hsize : g.locals.size = c.maxLocals) {ig : Instr} (hdg : decode c.code g.pc = .ok (ig, 3))
    {y : MethodName} {ws : List Cond} {rm : Room} {Pc : Array Value → State → Prop} {Qc : Array Value → State → Outcome → State → Prop} {mc ms : Nat} {free : Addr → Prop} (hM : xMet l y ws rm Pc Qc mc ms free)
    {mk : MethodId} (hn : T.methodNamed? y = some mk) {mY : Method} {cY : Code} (hmY : T.vm.method? mk = some mY) (hcY : mY.code = some cY) {maxL : Nat} (hlY : cY.maxLocals = maxL) {kY : Class} (hkY : T.vm.classes[mk.cls]? = some kY) (hiY : kY.init = .initialized)
    (a : Array Value) (hws : ∀ w ∈ ws, w.before a T = true) (hP : Pc a (T.calling g mk a)) (hf : rm.frames + 1 ≤ R.frames) (hlo : 2 * g.monitorRoom + (g.stack.map fun v => v.category).sum + (maxL + 11) + rm.locals ≤ R.locals) (hce : cells + rm.cells ≤ R.cells) (hsl : slots + rm.slots ≤ R.slots) :
    ∃ (o : Outcome) (t T' : State) (L : List Loc), Stand p l e R s m args below meth c T' (locs ++ L) (cells + mc) (slots + ms) ∧ (∀ q ∈ L, free q.base) ∧ T'.heap = t.heap ∧ T'.vm = t.vm ∧ Qc a (T.calling g mk a) o t ∧
      (∀ v, o = .returned v → ∀ acts, Steps p.tables e below (doInvoke e (T.setTop g) acts mk a).1 (T'.setTop { g with pc := g.pc + 3, stack := v.toList ++ g.stack })) ∧
      (∀ x, o = .threw x → ∀ acts, Steps p.tables e below (doInvoke e (T.setTop g) acts mk a).1 ((T'.setTop g).pushFrame (.throwing x))) := by
  have h : At T g.method c below := by rw [hg]; exact X.here
  have happ : (headSpec ws rm).appliesLoose y e.platform (T.calling g mk a) = true :=
    Spec.appliesLoose_calling (g := g) h hdg hn hkY hiY (X.room_calling (g := g) (R' := rm) hsize hmY hcY hf (by rw [hlY]; exact hlo) hce hsl) (atoms_intro hws)
  have hfr : (T.setTop g).frames = [.java g] ++ below := by rw [State.frames_setTop' g h.top, X.tail]; rfl
  obtain ⟨o, s₂, hst, -, hend, hq, L, ⟨hW, hsame⟩, hL⟩ := Steps.callFree hM p X.admits X.cas X.clock (acts := []) hfr happ hP trivial
  have hend' : Ended s₂ (.java g :: below) o := by rw [hfr] at hend; exact hend
  have hst' : ∀ acts, Steps p.tables e below (doInvoke e (T.setTop g) acts mk a).1 s₂ := fun acts => by rw [doInvoke_state] at hst ⊢; exact hst
  cases o with
  | returned v =>
    obtain ⟨T', X', -, -, ht⟩ := X.outOf hg hdg hend' hW hsame
    refine ⟨.returned v, s₂, T', L, X', hL, ?_, ?_, hq, fun v' hv acts => ?_, fun x hx => by cases hx⟩
    · rw [ht]; simp [State.setTop, State.modifyTopJava]
    · rw [ht]; simp [State.setTop, State.modifyTopJava]
    · cases hv; rw [← ht]; exact hst' acts
  | threw x =>
    obtain ⟨T', X', -, -, ht⟩ := X.outOfThrown hg hend' hW hsame
    refine ⟨.threw x, s₂, T', L, X', hL, ?_, ?_, hq, fun v hv => (by cases hv), fun x' hx acts => ?_⟩
    · rw [ht, Stand.throwing_heap]
    · rw [ht, Stand.throwing_vm]
    · cases hx; rw [← ht]; exact hst' acts
end HC
