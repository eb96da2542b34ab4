theorem W.mono {p : Program} {l : Launch} {e : Env} {R : Room} {s : State} {m : MethodId} {args : Array Value} {below : List Frame} {meth : Method} {c : Code} {H : Heap} {locs : List Loc} {cells slots : Nat} {Q Q' : State → Prop} {g : JFrame}
    (hm : ∀ t, Q t → Q' t) (h : W p l e R s m args below meth c H locs cells slots Q g) : W p l e R s m args below meth c H locs cells slots Q' g := fun T hT X => by
  obtain ⟨t, a, b⟩ := h T hT X
  exact ⟨t, a, hm t b⟩
/-- what a method that may throw comes to: it answers, or it throws an object of a class K with 'tp K', the world as it was -/
def xQ (ω : Wd) (σ : Mem) (A : Nat → Prop) (post : Int32 → Mem → Prop) (tp : String → Prop) : Array Value → State → Outcome → State → Prop := fun _ st o t =>
  ((∃ r u, o = .returned (some (.int r)) ∧ post r u ∧ wB ω A u t) ∨ (∃ (a : Addr) (K : String) (cK : ClassId) (cell : Cell), o = .threw a ∧ tp K ∧ st.vm.findClass K = some cK ∧ t.heap[a]? = some cell ∧ cell.cls = cK ∧ cell.vm = .none ∧ wB ω A σ t)) ∧ va_F A st t
def xE (s t : State) (mc ms : Nat) (free : Addr → Prop) : Prop := ∃ L, (s.WarmedH t.vm ∧ s.sameButNew ({ t with vm := s.vm } : State) L mc ms) ∧ ∀ q ∈ L, free q.base
def xMQ (below : List Frame) (Qc : Array Value → State → Outcome → State → Prop) (a : Array Value) (s : State) (mc ms : Nat) (free : Addr → Prop) : State → Prop := fun t =>
  ∃ o, t.status = .running ∧ Ended t below o ∧ Qc a s o t ∧ xE s t mc ms free
def xMet (l : Launch) (y : MethodName) (ws : List Cond) (rm : Room) (Pc : Array Value → State → Prop) (Qc : Array Value → State → Outcome → State → Prop) (mc ms : Nat) (free : Addr → Prop) : Prop :=
  MetFree l y (headSpec ws rm) Pc (fun _ _ _ _ _ => True) (fun a st o t => Qc a st o t ∧ xE st t mc ms free)
theorem xMet.ofW {l : Launch} {y : MethodName} {ws : List Cond} {rm : Room} {Pc : Array Value → State → Prop} {Qc : Array Value → State → Outcome → State → Prop} {mc ms : Nat} {free : Addr → Prop} {cc : ByteArray} {maxL : Nat} {ret : Option FieldType} {tbl : List (Nat × Nat × Nat × Nat)}
    (hy : plainName y.cls = true)
    (hw : ∀ args (s : State) m, (∀ w ∈ ws, w.before args s = true) → s.methodNamed? y = some m → ∃ meth c, s.vm.method? m = some meth ∧ meth.code = some c ∧ c.code = cc ∧ c.maxLocals = maxL ∧ meth.sig.returnType = ret ∧ meth.locks = false ∧ c.exceptionTable.toList.map (fun h => (h.startPc, h.endPc, h.handlerPc, h.catchType)) = tbl)
    (body : ∀ p e s m args below meth c s₁, BodyLoose p l y (headSpec ws rm) cc maxL ret e s m args below meth c s₁ → c.maxLocals = maxL → c.exceptionTable.toList.map (fun h => (h.startPc, h.endPc, h.handlerPc, h.catchType)) = tbl → Pc args s →
      W p l e (headSpec ws rm).room s m args below meth c s.heap [] 0 0 (xMQ below Qc args s mc ms free) (entryFrame m args maxL)) : xMet l y ws rm Pc Qc mc ms free := by
  refine MetFree.of_bodyS (code := cc) (maxLocals := maxL) (ret := ret) hy ?_ ?_
  · intro args s m h hn
    obtain ⟨meth, c, h1, h2, h3, h4, h5, h6, -⟩ := hw args s m (atoms_spec (ws := ws) h) hn
    exact ⟨meth, c, h1, h2, h3, h4, h5, h6⟩
  · intro p e s m args below meth c s₁ B hml hP _
    have hh0 : s₁.heap = s.heap := by rw [B.state]; rfl
    have htb : c.exceptionTable.toList.map (fun h => (h.startPc, h.endPc, h.handlerPc, h.catchType)) = tbl := by
      obtain ⟨meth', c', h1, h2, -, -, -, -, h7⟩ := hw args s m (atoms_spec (ws := ws) B.pre) B.named
      cases B.method.symm.trans h1
      cases (Stand.of_body B).code.symm.trans h2
      exact h7
    obtain ⟨t, a1, o, b1, b2, b3, b4⟩ := body p e s m args below meth c s₁ B hml htb hP s₁ hh0 (Stand.of_body B)
    exact ⟨t, o, a1, b1, b2, b3, b4⟩
theorem x_code {y : MethodName} {b : ByteArray} {mL : Nat} {ret : Option FieldType} {ws' : List Cond} (args : Array Value) (s : State) (m : MethodId) (h : ∀ w ∈ Cond.code y b mL ret :: ws', w.before args s = true) (hn : s.methodNamed? y = some m) :
    ∃ meth c, s.vm.method? m = some meth ∧ meth.code = some c ∧ c.code = b ∧ c.maxLocals = mL ∧ meth.sig.returnType = ret ∧ meth.locks = false ∧ c.exceptionTable.toList.map (fun h => (h.startPc, h.endPc, h.handlerPc, h.catchType)) = [] := by
  obtain ⟨meth, c, h1, h2, h3, h4, h5, h6, h7, -⟩ := Cond.code_spec hn (h _ List.mem_cons_self)
  have h0 : c.exceptionTable.size = 0 := by simpa [Array.isEmpty] using h7
  have h8 : c.exceptionTable.toList = [] := List.eq_nil_of_length_eq_zero (by simpa using h0)
  exact ⟨meth, c, h1, h2, h3, h4, h5, h6, by rw [h8]; rfl⟩
theorem x_codeW {y : MethodName} {b : ByteArray} {mL : Nat} {ret : Option FieldType} {tbl : List (Nat × Nat × Nat × Nat)} {ws' : List Cond} (args : Array Value) (s : State) (m : MethodId) (h : ∀ w ∈ Cond.codeWith y b mL ret tbl :: ws', w.before args s = true) (hn : s.methodNamed? y = some m) :
    ∃ meth c, s.vm.method? m = some meth ∧ meth.code = some c ∧ c.code = b ∧ c.maxLocals = mL ∧ meth.sig.returnType = ret ∧ meth.locks = false ∧ c.exceptionTable.toList.map (fun h => (h.startPc, h.endPc, h.handlerPc, h.catchType)) = tbl := by
  obtain ⟨m', meth, c, h0, h1, h2, h3, h4, h5, h6, h7, -⟩ := Cond.codeWith_spec (h _ List.mem_cons_self)
  cases hn.symm.trans h0
  exact ⟨meth, c, h1, h2, h3, h4, h6, h7, h5⟩
abbrev rmX (f L : Nat) : Room := { frames := f, cells := 1, slots := 6, locals := L }
/-- the world's cells came after s0 -/
def xPc (s0 : State) (ω : Wd) (cs : Nat → ClassId) (As : List Value) (σ : Mem) (sz : Nat) : Array Value → State → Prop := va_Pc As (fun U => (U.heap.size = sz ∧ va_P ω.1 classes (wo ω σ) U.heap ∧ wk ω.1 cs U ∧ va_D (fun _ => True) (wo ω σ)) ∧ xK s0 U ∧ ∀ k, k < ω.2.2.2 → s0.heap.size ≤ ω.2.1 k)
theorem xPc_blind {s0 : State} {ω : Wd} {cs : Nat → ClassId} {As : List Value} {σ : Mem} {sz : Nat} : FrameBlind (xPc s0 ω cs As σ sz) := by
  intro a U g mk q
  obtain ⟨q0, ⟨q1, qP, qK, qD⟩, qX, qN⟩ := q
  exact ⟨q0, ⟨q1, qP, qK.calling g mk a, qD⟩, qX, qN⟩
/-- a method of the class that may throw -/
def MetX (l : Launch) (s0 : State) (ω : Wd) (cs : Nat → ClassId) (y : MethodName) (b : ByteArray) (mL : Nat) (ret : Option FieldType) (f L : Nat) (As : List Value) (σ : Mem) (post : Int32 → Mem → Prop) (tp : String → Prop) : Prop :=
  ∀ sz : Nat, xMet l y (ms_ws y b mL ret) (rmX f L) (xPc s0 ω cs As σ sz) (xQ ω σ (va_A (wo ω σ) sz) post tp) 1 6 (va_A (wo ω σ) sz)
theorem xA_old {ω : Wd} {σ : Mem} {s0 U : State} (hX : xK s0 U) (hN : ∀ k, k < ω.2.2.2 → s0.heap.size ≤ ω.2.1 k) : ∀ q, va_A (wo ω σ) U.heap.size q → s0.heap.size ≤ q := by
  intro q h
  rcases h with ⟨k, e, h⟩ | h
  · obtain ⟨h1, h2⟩ := wo_of h
    have : q = ω.2.1 k := congrArg Prod.fst h2
    rw [this]; exact hN k h1
  · exact Nat.le_trans hX.2.1 h
theorem MetX.start {l : Launch} {s0 : State} {ω : Wd} {cs : Nat → ClassId} {y : MethodName} {b : ByteArray} {mL : Nat} {ret : Option FieldType} {f L : Nat} {As : List Value} {σ : Mem} {post : Int32 → Mem → Prop} {tp : String → Prop} (hy : plainName y.cls = true) (hn : (lg_sl As).length ≤ mL)
    (body : ∀ (p : Program) (e : Env) (s : State) (m : MethodId) (below : List Frame) (meth : Method) (c : Code) (A : Nat → Prop) (ls : Array Slot), bC p s m As.toArray meth c b mL y.cls ret → wk ω.1 cs s → (∀ q : Nat, s.heap.size ≤ q → A q) → wS ω A s.heap σ s.heap [] → lv_has ls mL (lv_args 0 As) → xK s0 s → (∀ q, A q → s0.heap.size ≤ q) → c.exceptionTable.toList = [] →
      W p l e (rmX f L) s m As.toArray below meth c s.heap [] 0 0 (xMQ below (xQ ω σ A post tp) As.toArray s 1 6 A) (F0 m 0 ls [])) : MetX l s0 ω cs y b mL ret f L As σ post tp := by
  intro sz
  refine xMet.ofW (cc := b) (maxL := mL) (ret := ret) (tbl := []) hy x_code ?_
  intro p e s m args below meth c s₁ B hml htb hv
  obtain ⟨rfl, ⟨hsz, hP, hK, hD0⟩, hX, hN⟩ := hv
  subst hsz
  have hts := atoms_spec (ws := ms_ws y b mL ret) B.pre
  have hl := lv_entry As (n := mL) hn
  rw [lg_entry_eq]
  exact body p e s m below meth c (va_A (wo ω σ) s.heap.size) _ ⟨B.exec, B.bytes, hml, findClass_of_methodNamed B.named, fun w hw => hts w (List.mem_cons_of_mem _ hw), B.returns, B.notSynchronized⟩ hK (fun q h => Or.inr h) ⟨hP, hD0.self, va_S.rf⟩ hl hX (xA_old hX hN) (List.map_eq_nil_iff.mp htb)
section WX
variable {p : Program} {l : Launch} {e : Env} {R : Room} {s : State} {m : MethodId} {args : Array Value} {below : List Frame} {meth : Method} {c : Code} {H : Heap} {locs : List Loc} {cells slots : Nat} {Q : State → Prop}
variable {cc : ByteArray} {pc nL : Nat} {own : String} {ret : Option FieldType} {ls : Array Slot} {rest : List Value} {ω : Wd} {cs : Nat → ClassId} {A : Nat → Prop} {σ σ0 : Mem} {post : Int32 → Mem → Prop} {tp : String → Prop} {s0 : State} {a0 : Array Value}
theorem x_ofMQ {t : State} {mc ms : Nat} (h : wQi ω A post s below args t) : xMQ below (xQ ω σ0 A post tp) args s mc ms A t := by
  obtain ⟨o, h1, h2, ⟨⟨r, u, h3, h4, h5⟩, h6⟩, L, ⟨-, h7, h8⟩, h9⟩ := h
  exact ⟨o, h1, h2, ⟨Or.inl ⟨r, u, h3, h4, h5⟩, h6⟩, L, ⟨h7, h8.mono (Nat.zero_le _) (Nat.zero_le _)⟩, h9⟩
theorem x_reti (C : bC p s m args meth c cc nL own (some .int)) (hE : wS ω A s.heap σ H locs) {r : Int32} (hp : post r σ) (hdg : decode cc pc = .ok (.ireturn, 1)) :
    W p l e R s m args below meth c H locs 0 0 (xMQ below (xQ ω σ0 A post tp) args s 1 6 A) (F0 m pc ls [.int r]) :=
  W.mono (fun _ h => x_ofMQ h) (w_reti C hE hp hdg)
theorem x_retz (C : bC p s m args meth c cc nL own (some .boolean)) (hE : wS ω A s.heap σ H locs) {r : Int32} (hn : r = 0 ∨ r = 1) (hp : post r σ) (hdg : decode cc pc = .ok (.ireturn, 1)) :
    W p l e R s m args below meth c H locs 0 0 (xMQ below (xQ ω σ0 A post tp) args s 1 6 A) (F0 m pc ls [.int r]) :=
  W.mono (fun _ h => x_ofMQ h) (w_retz C hE hn hp hdg)
/-- throw new X(text) -/
theorem w_throw (C : bC p s m args meth c cc nL "EarleyChart" ret) (hE : wS ω A s.heap σ H locs) (hA : ∀ q : Nat, s.heap.size ≤ q → A q) (hx : x0 a0 s0) (hX : xK s0 s) (hAs : ∀ q, A q → s0.heap.size ≤ q) (hl : l.stackTraces = false) (hem : c.exceptionTable.toList = []) (hsz : ls.size = nL)
    {X txt : String} {xi ic i1 st : Nat} {b1 : ByteArray} (hcl : Cond.classLink "EarleyChart" xi X ∈ tbG) (hin : Cond.instantiable X 6 ∈ tbG) (hini : Cond.initialized X ∈ tbG) (hst : Cond.stringRef "EarleyChart" st txt ∈ tables_1)
    (hfit : Bundle.fit X = true) (d0 : decode b1 0 = .ok (.aload_n 0, 1)) (d1 : decode b1 1 = .ok (.aload_n 1, 1)) (d2 : decode b1 2 = .ok (.invokespecial i1, 3)) (d5 : decode b1 5 = .ok (.return_, 1)) (hat : (x_ats "EarleyChart" ic X i1 b1).all xg = true)
    (hq : tp X) (hR : 5 < R.frames ∧ 82 ≤ R.locals) (hc0 : 1 ≤ R.cells ∧ 6 ≤ R.slots)
    (g0 : decode cc pc = .ok (.new xi, 3)) (g1 : decode cc (pc + 3) = .ok (.dup, 1)) (g2 : decode cc (pc + 3 + 1) = .ok (.ldc st, 2)) (g3 : decode cc (pc + 3 + 1 + 2) = .ok (.invokespecial ic, 3)) (g4 : decode cc (pc + 3 + 1 + 2 + 3) = .ok (.athrow, 1)) :
    W p l e R s m args below meth c H locs 0 0 (xMQ below (xQ ω σ A post tp) args s 1 6 A) (F0 m pc ls []) := by
  obtain ⟨hexec, hb, hml, ho, hts, -, hlocks⟩ := C
  refine W.newc hexec hb ho (hts _ hcl) (hts _ hin) (hts _ hini) rfl g0 (by omega) (by omega) (fun cC kC k1 k2 k3 k4 => ?_)
  refine lv_dup hexec hb g1 rfl ?_
  have hsr : (Cond.stringRef "EarleyChart" st txt).before args s = true := xw_str hX (hx.1 _ hst)
  obtain ⟨_, _, _, sa, -, -, -, -, -, hev⟩ := Cond.stringRef_spec ho hsr
  refine W.of (H' := H.push { cls := cC, slots := kC.instanceTypes.map defaultValue, vm := .none }) (locs' := locs) (cells' := 0 + 1) (slots' := 0 + 6) (g2 := F0 m (pc + 3 + 1 + 2) ls [.ref sa, .ref H.size, .ref H.size])
    (fun T hT Y => ⟨T, hT, Y, fun tg hs => Y.ldcString hexec ho hsr hev rfl (by rw [hb]; exact g2) tg hs⟩) ?_
  intro T hT Y
  have htr : e.platform.stackTraces = false := by rw [Y.admits.platform]; exact hl
  have hstat : ∀ cT kT aS, s.vm.findClass Bundle.tN = some cT → s.vm.classes[cT]? = some kT → kT.statics = some aS → aS < s0.heap.size := by
    intro cT kT aS q1 q2 q3
    have hls : (Cond.laysStatic "java/lang/Throwable" "UNASSIGNED_STACK" "[Ljava/lang/StackTraceElement;").before a0 s0 = true := hx.1 _ (List.mem_of_getElem? (i := 339) (by decide +kernel))
    obtain ⟨c', k', i', f', a', cell', r1, r2, -, r4, r5, -⟩ := Cond.laysStatic_spec hls
    rw [hX.1.alike.findClass] at q1
    cases q1.symm.trans r1
    obtain ⟨k2', w1, w2⟩ := hX.1.alike.2.2 _ _ (State.fieldFound?_spec r2).1
    cases q2.symm.trans w1
    rw [w2] at q3
    cases q3.symm.trans r4
    exact (Array.getElem?_eq_some_iff.mp r5).1
  have hcell : T.heap[H.size]? = some (freshCell cC kC) := by rw [hT]; simp [freshCell]
  obtain ⟨U, z1, z2, z3, z4, z5, ⟨ce, z6, z7, z8⟩, z9, z10⟩ := x_out Y hexec htr ho hfit d0 d1 d2 d5 (fun w hw => xg_at hx hX w (List.all_eq_true.mp hat w hw)) hstat (fun x hx' => hAs _ (hE.2.2.2.2 x hx')) k1 k2 hcell hE.2.2.1 (msg := .ref sa) rfl (pc := pc + 3 + 1 + 2) (ls := ls) (hsz.trans hml.symm) (by rw [hb]; exact g3) (by rw [hb]; exact g4) (by rw [hem]; intro x h; cases h) hR.1 hR.2 hlocks
  have hkeep : ∀ q : Nat, q < H.size → U.heap[q]? = H[q]? := fun q hq' => by
    rw [z10 q (Nat.ne_of_lt hq'), hT, Array.getElem?_push, if_neg (Nat.ne_of_lt hq')]
  have hP : va_P ω.1 classes (wo ω σ) U.heap := hE.1.kept (fun k x hx' => hkeep x.1 ((hE.1 k x hx').lt))
  refine ⟨U, z1, .threw H.size, z2, z3, ⟨Or.inr ⟨H.size, X, cC, ce, rfl, hq, k1, z6, z7, z8, hP, hE.2.1⟩, ?_, fun q q1 q2 => ?_⟩, locs, ⟨z4, z5⟩, hE.2.2.2.2⟩
  · rw [z9, hT]; have := hE.2.2.1; simp only [Array.size_push]; omega
  · rw [hkeep q (Nat.lt_of_lt_of_le q1 hE.2.2.1)]; exact hE.2.2.2.1 q q1 q2
end WX
