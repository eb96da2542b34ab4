/-! the law's wrappers: a call of the class, its throws caught -/
def MetL (l : Launch) (s0 : State) (ω : Wd) (cs : Nat → ClassId) (y : MethodName) (b : ByteArray) (mL : Nat) (tbl : List (Nat × Nat × Nat × Nat)) (f L : Nat) (As : List Value) (μ : Mem) (post : Int32 → Mem → Prop) : Prop :=
  ∀ sz : Nat, xMet l y (Cond.codeWith y b mL (some .int) tbl :: tbG) (rmX f L) (xPc s0 ω cs As μ sz) (xQ ω μ (va_A (wo ω μ) sz) post (fun _ => False)) 1 6 (va_A (wo ω μ) sz)
theorem MetL.start {l : Launch} {s0 : State} {ω : Wd} {cs : Nat → ClassId} {y : MethodName} {b : ByteArray} {mL : Nat} {tbl : List (Nat × Nat × Nat × Nat)} {f L : Nat} {As : List Value} {μ : Mem} {post : Int32 → Mem → Prop} (hy : plainName y.cls = true) (hn : (lg_sl As).length ≤ mL)
    (body : ∀ (p : Program) (e : Env) (s : State) (m : MethodId) (below : List Frame) (meth : Method) (c : Code) (A : Nat → Prop) (ls : Array Slot), bC p s m As.toArray meth c b mL y.cls (some .int) → wk ω.1 cs s → (∀ q : Nat, s.heap.size ≤ q → A q) → wS ω A s.heap μ s.heap [] → lv_has ls mL (lv_args 0 As) → xK s0 s → (∀ q, A q → s0.heap.size ≤ q) → c.exceptionTable.toList.map (fun h => (h.startPc, h.endPc, h.handlerPc, h.catchType)) = tbl →
      W p l e (rmX f L) s m As.toArray below meth c s.heap [] 0 0 (xMQ below (xQ ω μ A post (fun _ => False)) As.toArray s 1 6 A) (F0 m 0 ls [])) : MetL l s0 ω cs y b mL tbl f L As μ post := by
  intro sz
  refine xMet.ofW (cc := b) (maxL := mL) (ret := some .int) (tbl := tbl) hy x_codeW ?_
  intro p e s m args below meth c s₁ B hml htb hv
  obtain ⟨rfl, ⟨hsz, hP, hK, hD0⟩, hX, hN⟩ := hv
  subst hsz
  have hts := atoms_spec (ws := Cond.codeWith y b mL (some .int) tbl :: tbG) B.pre
  have hl := lv_entry As (n := mL) hn
  rw [lg_entry_eq]
  exact body p e s m below meth c (va_A (wo ω μ) s.heap.size) _ ⟨B.exec, B.bytes, hml, findClass_of_methodNamed B.named, fun w hw => hts w (List.mem_cons_of_mem _ hw), B.returns, B.notSynchronized⟩ hK (fun q h => Or.inr h) ⟨hP, hD0.self, va_S.rf⟩ hl hX (xA_old hX hN) htb
theorem tb_1 {es : List ExceptionTableEntry} {a b c d : Nat} (h : es.map (fun h => (h.startPc, h.endPc, h.handlerPc, h.catchType)) = [(a, b, c, d)]) : ∃ x, es = [x] ∧ x.startPc = a ∧ x.endPc = b ∧ x.handlerPc = c ∧ x.catchType = d := by
  match es, h with
  | [x], h => simp at h; exact ⟨x, rfl, h.1, h.2.1, h.2.2.1, h.2.2.2⟩
theorem tb_2 {es : List ExceptionTableEntry} {a b c d a' b' c' d' : Nat} (h : es.map (fun h => (h.startPc, h.endPc, h.handlerPc, h.catchType)) = [(a, b, c, d), (a', b', c', d')]) : ∃ x y, es = [x, y] ∧ (x.startPc = a ∧ x.endPc = b ∧ x.handlerPc = c ∧ x.catchType = d) ∧ y.startPc = a' ∧ y.endPc = b' ∧ y.handlerPc = c' ∧ y.catchType = d' := by
  match es, h with
  | [x, y], h => simp at h; exact ⟨x, y, rfl, ⟨h.1.1, h.1.2.1, h.1.2.2.1, h.1.2.2.2⟩, h.2.1, h.2.2.1, h.2.2.2.1, h.2.2.2.2⟩
section WL
variable {p : Program} {l : Launch} {e : Env} {R : Room} {s : State} {m : MethodId} {args : Array Value} {below : List Frame} {meth : Method} {c : Code} {H : Heap} {locs : List Loc} {cells slots : Nat} {Q : State → Prop}
variable {cc : ByteArray} {pc nL : Nat} {own : String} {ret : Option FieldType} {ls : Array Slot} {rest : List Value} {ω ω' : Wd} {o : Nat} {cs : Nat → ClassId} {A : Nat → Prop} {μ : Mem}
variable {y : MethodName} {b : ByteArray} {mL f L index : Nat} {ret' : Option FieldType} {As st0 : List Value} {a0 : Array Value} {s0 : State}
theorem w_last (C : bC p s m args meth c cc nL own ret) (hk : wk ω.1 cs s) (hE : wS ω A s.heap μ H locs) (q : Nat) (hq : q < ω.2.2.2) {n i : Nat} (hf : ∀ r : Nat → Int32, ω.2.2.1 q r = .inl (cs 3, n, .inr (.inl (fun i => (r i).toInt64)))) (hi : i < n) (hn : n < 2 ^ 31) {x : Int32} (hdg : decode cc pc = .ok (.lastore, 1))
    (kk : ∀ (H1 : Heap) (locs1 : List Loc), wS ω A s.heap (mset μ q i x) H1 locs1 → W p l e R s m args below meth c H1 locs1 cells slots Q (F0 m (pc + 1) ls rest)) : W p l e R s m args below meth c H locs cells slots Q (F0 m pc ls (.long x.toInt64 :: .int (nI i) :: .ref (ω.2.1 q) :: rest)) := by
  obtain ⟨hx, hb, hml, ho, hts, -, -⟩ := C
  refine va_last (D := ω.1) hx hb hk.1 hE.1 hE.2.1 hE.2.2 q 3 (by rw [wo_at hq, hf]) rfl (vp_in_nI hi hn) hdg (fun H1 locs1 hP hD hS => ?_)
  have e1 : vp_updL (fun i => (μ q i).toInt64) (nI i).toNatClampNeg x.toInt64 = fun j => (upd (μ q) i x j).toInt64 := by
    rw [nI_clamp (by omega)]
    funext j
    unfold vp_updL upd
    by_cases h : j = i <;> simp [h]
  rw [e1, wo_set hq (hf _)] at hP hD
  exact kk H1 locs1 ⟨hP, hD, hS⟩
theorem w_lald (C : bC p s m args meth c cc nL own ret) (hk : wk ω.1 cs s) (hE : wS ω A s.heap μ H locs) (q : Nat) (hq : q < ω.2.2.2) {n i : Nat} (hf : ω.2.2.1 q (μ q) = .inl (cs 3, n, .inr (.inl (fun i => (μ q i).toInt64)))) (hi : i < n) (hn : n < 2 ^ 31) (hdg : decode cc pc = .ok (.laload, 1))
    (kk : W p l e R s m args below meth c H locs cells slots Q (F0 m (pc + 1) ls (.long (μ q i).toInt64 :: rest))) : W p l e R s m args below meth c H locs cells slots Q (F0 m pc ls (.int (nI i) :: .ref (ω.2.1 q) :: rest)) := by
  obtain ⟨hx, hb, hml, ho, hts, -, -⟩ := C
  refine va_lald (D := ω.1) hx hb hk.1 hE.1 q 3 (by rw [wo_at hq, hf]) rfl (vp_in_nI hi hn) hdg ?_
  rw [nI_clamp (by omega)]
  exact kk
/-- the wrapper's end: 1 cell, 6 slots at the most -/
theorem x_retL (C : bC p s m args meth c cc nL own (some .int)) {post : Int32 → Mem → Prop} {σ : Mem} (hE : wS ω A s.heap σ H locs) {r : Int32} (hp : post r σ) (hdg : decode cc pc = .ok (.ireturn, 1)) :
    W p l e R s m args below meth c H locs (0 + 1) (0 + 6) (xMQ below (xQ ω μ A post (fun _ => False)) args s 1 6 A) (F0 m pc ls [.int r]) := by
  obtain ⟨hx, hb, hml, ho, hts, hr, hlocks⟩ := C
  have h := W.iret (p := p) (l := l) (e := e) (R := R) (s := s) (m := m) (args := args) (below := below) (c := c) (H := H) (locs := locs) (cells := 0 + 1) (slots := 0 + 6) (Qc := va_Qi post (wB ω A) A) (free := A) (v := r) (ls := ls) (pc := pc) hx hb hr (fun t ht hW => ⟨⟨r, σ, rfl, hp, by rw [ht]; exact hE.1, hE.2.1⟩, hE.2.2.F ht⟩) hE.2.2.2.2 hdg
  refine W.mono (fun t h => ?_) h
  obtain ⟨o, h1, h2, ⟨⟨r, u, h3, h4, h5⟩, h6⟩, L, ⟨-, h7, h8⟩, h9⟩ := h
  exact ⟨o, h1, h2, ⟨Or.inl ⟨r, u, h3, h4, h5⟩, h6⟩, L, ⟨h7, h8⟩, h9⟩
theorem x_wrap1 {post : Int32 → Mem → Prop} {tp : String → Prop} (C : bC p s m args meth c cc nL own ret) (hk : wk ω.1 cs s) (hE : wS ω A s.heap μ H locs) (hA : ∀ q : Nat, s.heap.size ≤ q → A q) (hx0 : x0 a0 s0) (hX : xK s0 s) (hAs : ∀ q, A q → s0.heap.size ≤ q) (hs : isSub ω' ω o) (hsz : ls.size = nL)
    {q : Nat} (hM : MetX l s0 ω' cs y b mL ret' f L (.ref (ω'.2.1 q) :: As) (msub o μ) post tp)
    (hq : q < ω'.2.2.2) {ci N : Nat} {T : u_T} {fs : List Value} (hf : ω'.2.2.1 q (msub o μ q) = .inr (ci, fs)) (hc : classes[ci]? = some (y.cls, T, N))
    (h1 : Cond.methodLink own index y ∈ tbG) (h2 : Cond.instanceMethod y ∈ tbG) (h3 : Cond.selects y.cls y y ∈ tbG) (h4 : Cond.initialized y.cls ∈ tbG) (h5 : Cond.code y b mL ret' ∈ tbG) {n : Nat} (hd : w_okd y n) (hn : As.length = n)
    (hst : st0 = As.reverse ++ .ref (ω'.2.1 q) :: rest) (hw : (rest.map fun v => v.category).sum ≤ 8) (hdg : decode cc pc = .ok (.invokevirtual index, 3)) (hR : f + 1 ≤ R.frames ∧ 8 + (mL + 11) + L ≤ R.locals) (hc0 : cells + 1 ≤ R.cells ∧ slots + 6 ≤ R.slots)
    {z1 z2 z3 z4 : Nat} (htb : c.exceptionTable.toList.map (fun h => (h.startPc, h.endPc, h.handlerPc, h.catchType)) = [(z1, z2, z3, z4)]) (hz : z1 ≤ pc ∧ pc < z2) (hz4 : z4 ≠ 0) {J : String} (hJ : ∀ K, tp K → K = J) (hcl : Cond.classLink own z4 J ∈ tbG) (hca : xg (.castable J J) = true)
    (kR : ∀ (r : Int32) (τ : Mem) (H1 : Heap) (locs1 : List Loc), post r τ → wS ω A s.heap (mput o ω'.2.2.2 μ τ) H1 locs1 → W p l e R s m args below meth c H1 locs1 (cells + 1) (slots + 6) Q (F0 m (pc + 3) ls (.int r :: rest)))
    (kH : ∀ (x : Addr) (H1 : Heap) (locs1 : List Loc), tp J → wS ω A s.heap μ H1 locs1 → W p l e R s m args below meth c H1 locs1 (cells + 1) (slots + 6) Q (F0 m z3 ls [.ref x])) :
    W p l e R s m args below meth c H locs cells slots Q (F0 m pc ls st0) := by
  refine x_callE C hk hE hA hX hAs hs hsz hM hq hf hc h1 h2 h3 h4 h5 hd hn hst hw hdg hR hc0 kR (fun K cK cell x T1 locs1 htp hfc hcl1 hcc hcv hE1 X1 => ?_)
  obtain rfl := hJ K htp
  obtain ⟨en, e0, e1, e2, e3, e4⟩ := tb_1 htb
  obtain ⟨vm1, X2, st⟩ := x_catch1 X1 C.2.2.2.1 (g := F0 m pc ls rest) rfl e0 (by simp [e1, e2, hz.1, hz.2]) (by rw [e4]; exact hz4) (by rw [e4]; exact C.2.2.2.2.1 _ hcl) (xg_at hx0 hX _ hca) hfc hcl1 hcc hcv
  obtain ⟨t, a1, b1⟩ := kH x T1.heap locs1 htp hE1 (T1.setVm vm1) rfl X2
  rw [e3] at st
  exact ⟨t, st t a1, b1⟩
theorem x_wrap2 {post : Int32 → Mem → Prop} {tp : String → Prop} (C : bC p s m args meth c cc nL own ret) (hk : wk ω.1 cs s) (hE : wS ω A s.heap μ H locs) (hA : ∀ q : Nat, s.heap.size ≤ q → A q) (hx0 : x0 a0 s0) (hX : xK s0 s) (hAs : ∀ q, A q → s0.heap.size ≤ q) (hs : isSub ω' ω o) (hsz : ls.size = nL)
    {q : Nat} (hM : MetX l s0 ω' cs y b mL ret' f L (.ref (ω'.2.1 q) :: As) (msub o μ) post tp)
    (hq : q < ω'.2.2.2) {ci N : Nat} {T : u_T} {fs : List Value} (hf : ω'.2.2.1 q (msub o μ q) = .inr (ci, fs)) (hc : classes[ci]? = some (y.cls, T, N))
    (h1 : Cond.methodLink own index y ∈ tbG) (h2 : Cond.instanceMethod y ∈ tbG) (h3 : Cond.selects y.cls y y ∈ tbG) (h4 : Cond.initialized y.cls ∈ tbG) (h5 : Cond.code y b mL ret' ∈ tbG) {n : Nat} (hd : w_okd y n) (hn : As.length = n)
    (hst : st0 = As.reverse ++ .ref (ω'.2.1 q) :: rest) (hw : (rest.map fun v => v.category).sum ≤ 8) (hdg : decode cc pc = .ok (.invokevirtual index, 3)) (hR : f + 1 ≤ R.frames ∧ 8 + (mL + 11) + L ≤ R.locals) (hc0 : cells + 1 ≤ R.cells ∧ slots + 6 ≤ R.slots)
    {z1 z2 z3 z4 y1 y2 y3 y4 : Nat} (htb : c.exceptionTable.toList.map (fun h => (h.startPc, h.endPc, h.handlerPc, h.catchType)) = [(z1, z2, z3, z4), (y1, y2, y3, y4)]) (hz : z1 ≤ pc ∧ pc < z2) (hz4 : z4 ≠ 0) (hy : y1 ≤ pc ∧ pc < y2) (hy4 : y4 ≠ 0) {J J2 : String} (hJ : ∀ K, tp K → K = J ∨ K = J2) (hcl : Cond.classLink own z4 J ∈ tbG) (hcl2 : Cond.classLink own y4 J2 ∈ tbG) (hca : xg (.castable J J) = true) (hca2 : xg (.castable J2 J2) = true) (hno : Cond.not (.castable J2 J) ∈ xN)
    (kR : ∀ (r : Int32) (τ : Mem) (H1 : Heap) (locs1 : List Loc), post r τ → wS ω A s.heap (mput o ω'.2.2.2 μ τ) H1 locs1 → W p l e R s m args below meth c H1 locs1 (cells + 1) (slots + 6) Q (F0 m (pc + 3) ls (.int r :: rest)))
    (kH : ∀ (x : Addr) (H1 : Heap) (locs1 : List Loc), tp J → wS ω A s.heap μ H1 locs1 → W p l e R s m args below meth c H1 locs1 (cells + 1) (slots + 6) Q (F0 m z3 ls [.ref x]))
    (kH2 : ∀ (x : Addr) (H1 : Heap) (locs1 : List Loc), tp J2 → wS ω A s.heap μ H1 locs1 → W p l e R s m args below meth c H1 locs1 (cells + 1) (slots + 6) Q (F0 m y3 ls [.ref x])) :
    W p l e R s m args below meth c H locs cells slots Q (F0 m pc ls st0) := by
  refine x_callE C hk hE hA hX hAs hs hsz hM hq hf hc h1 h2 h3 h4 h5 hd hn hst hw hdg hR hc0 kR (fun K cK cell x T1 locs1 htp hfc hcl1 hcc hcv hE1 X1 => ?_)
  obtain ⟨en, en2, e0, ⟨e1, e2, e3, e4⟩, i1, i2, i3, i4⟩ := tb_2 htb
  rcases hJ K htp with rfl | rfl
  · obtain ⟨vm1, X2, st⟩ := x_catch1 X1 C.2.2.2.1 (g := F0 m pc ls rest) rfl e0 (by simp [e1, e2, hz.1, hz.2]) (by rw [e4]; exact hz4) (by rw [e4]; exact C.2.2.2.2.1 _ hcl) (xg_at hx0 hX _ hca) hfc hcl1 hcc hcv
    obtain ⟨t, a1, b1⟩ := kH x T1.heap locs1 htp hE1 (T1.setVm vm1) rfl X2
    rw [e3] at st
    exact ⟨t, st t a1, b1⟩
  · obtain ⟨cA, cB, r1, r2, r3⟩ := x_nocast (hx0.2 _ hno)
    have q1 : s.vm.findClass K = some cA := by rw [hX.1.alike.findClass]; exact r1
    have q2 : s.vm.findClass J = some cB := by rw [hX.1.alike.findClass]; exact r2
    cases hfc.symm.trans q1
    obtain ⟨vm1, X2, st⟩ := x_catch2 X1 C.2.2.2.1 (g := F0 m pc ls rest) rfl e0 (by simp [e1, e2, hz.1, hz.2]) (by rw [e4]; exact hz4) (by simp [i1, i2, hy.1, hy.2]) (by rw [i4]; exact hy4) (by rw [e4]; exact C.2.2.2.2.1 _ hcl) (by rw [i4]; exact C.2.2.2.2.1 _ hcl2) (xg_at hx0 hX _ hca2) hfc q2 (by rw [hX.1.alike.assignable]; exact r3) hcl1 hcc hcv
    obtain ⟨t, a1, b1⟩ := kH2 x T1.heap locs1 htp hE1 (T1.setVm vm1) rfl X2
    rw [i3] at st
    exact ⟨t, st t a1, b1⟩
end WL
