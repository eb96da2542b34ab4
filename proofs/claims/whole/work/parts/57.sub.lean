/-! the law's world: the class's cells, the model's, and the row for an answer; calls over a part of a world -/
def cL (cs : Nat → ClassId) (ad : Nat → Nat) (k : Nat) (r : Nat → Int32) : va_E :=
  if k < 58 then cE cs ad k r else if k < 68 then cM cs (fun j => ad (j + 58)) (k - 58) r else .inl (cs 3, 1, .inr (.inl (fun i => (r i).toInt64)))
abbrev wL (D : va_G) (cs : Nat → ClassId) (ad : Nat → Nat) : Wd := (D, ad, cL cs ad, 69)
def isSub (ω' ω : Wd) (o : Nat) : Prop := ω'.1 = ω.1 ∧ (∀ k, ω'.2.1 k = ω.2.1 (k + o)) ∧ (∀ k r, k < ω'.2.2.2 → ω.2.2.1 (k + o) r = ω'.2.2.1 k r) ∧ ω'.2.2.2 + o ≤ ω.2.2.2
theorem sub_E {D : va_G} {cs : Nat → ClassId} {ad : Nat → Nat} : isSub (wE D cs ad) (wL D cs ad) 0 := ⟨rfl, fun _ => rfl, fun k r h => if_pos h, Nat.le_of_ble_eq_true rfl⟩
theorem sub_M {D : va_G} {cs : Nat → ClassId} {ad : Nat → Nat} : isSub (wM D cs (fun j => ad (j + 58))) (wL D cs ad) 58 :=
  ⟨rfl, fun _ => rfl, fun k r h => by
    show cL cs ad (k + 58) r = cM cs (fun j => ad (j + 58)) k r
    have h' : k < 10 := h
    unfold cL; rw [if_neg (by omega), if_pos (by omega), Nat.add_sub_cancel], Nat.le_of_ble_eq_true rfl⟩
theorem sub_id {ω : Wd} : isSub ω ω 0 := ⟨rfl, fun _ => rfl, fun _ _ _ => rfl, Nat.le_refl _⟩
def msub (o : Nat) (μ : Mem) : Mem := fun k => μ (k + o)
def mput (o n : Nat) (μ τ : Mem) : Mem := fun j => if o ≤ j ∧ j < o + n then τ (j - o) else μ j
theorem mput_self {o n : Nat} {μ : Mem} : mput o n μ (msub o μ) = μ := by
  funext j; unfold mput msub
  by_cases h : o ≤ j ∧ j < o + n
  · rw [if_pos h, Nat.sub_add_cancel h.1]
  · rw [if_neg h]
theorem mput_in {o n k : Nat} {μ τ : Mem} (h : k < n) : mput o n μ τ (k + o) = τ k := by
  unfold mput; rw [if_pos ⟨by omega, by omega⟩, Nat.add_sub_cancel]
theorem mput_out {o n j : Nat} {μ τ : Mem} (h : j < o ∨ o + n ≤ j) : mput o n μ τ j = μ j := by
  unfold mput; rw [if_neg (by omega)]
section SB
variable {ω ω' : Wd} {o : Nat} {A : Nat → Prop} {H0 H : Heap} {μ : Mem} {locs : List Loc}
theorem sub_at (hs : isSub ω' ω o) {k : Nat} (hk : k < ω'.2.2.2) : (wo ω μ)[k + o]? = some (ω'.2.1 k, ω'.2.2.1 k (msub o μ k)) := by
  have h4 := hs.2.2.2
  rw [wo_at (by omega), hs.2.1 k, hs.2.2.1 k _ hk]; rfl
theorem sub_P (hs : isSub ω' ω o) (h : va_P ω.1 classes (wo ω μ) H) : va_P ω'.1 classes (wo ω' (msub o μ)) H := by
  intro k q hq
  obtain ⟨hk, rfl⟩ := wo_of hq
  rw [hs.1]
  exact h (k + o) _ (sub_at hs hk)
theorem sub_D (hs : isSub ω' ω o) (h : va_D A (wo ω μ)) : va_D A (wo ω' (msub o μ)) := by
  refine ⟨fun i j p q hp hq he => ?_, fun k q hq => ?_⟩
  · obtain ⟨hi, rfl⟩ := wo_of hp
    obtain ⟨hj, rfl⟩ := wo_of hq
    have := h.1 _ _ _ _ (sub_at hs hi) (sub_at hs hj) he
    omega
  · obtain ⟨hk, rfl⟩ := wo_of hq
    exact h.2 _ _ (sub_at hs hk)
theorem sub_free (hs : isSub ω' ω o) (hE : wS ω A H0 μ H locs) (hA : ∀ q : Nat, H0.size ≤ q → A q) : ∀ q, va_A (wo ω' (msub o μ)) H.size q → A q := by
  intro q h
  rcases h with ⟨k, e, h⟩ | h
  · exact (sub_D hs hE.2.1).2 k _ h
  · exact hA q (Nat.le_trans hE.2.2.1 h)
theorem sub_back (hs : isSub ω' ω o) (hE : wS ω A H0 μ H locs) {τ : Mem} {H1 : Heap} {locs1 : List Loc} (hP : va_P ω'.1 classes (wo ω' τ) H1) (hk : ∀ q : Nat, q < H.size → ¬ va_A (wo ω' (msub o μ)) H.size q → H1[q]? = H[q]?) (hS : va_S A H0 H1 locs1) : wS ω A H0 (mput o ω'.2.2.2 μ τ) H1 locs1 := by
  refine ⟨fun k q hq => ?_, ⟨fun i j p q hp hq he => ?_, fun k q hq => ?_⟩, hS⟩
  · obtain ⟨hk1, rfl⟩ := wo_of hq
    by_cases h : o ≤ k ∧ k < o + ω'.2.2.2
    · obtain ⟨j, rfl⟩ : ∃ j, k = j + o := ⟨k - o, by omega⟩
      have hj : j < ω'.2.2.2 := by omega
      rw [mput_in hj, ← hs.2.1 j, hs.2.2.1 j _ hj, ← hs.1]
      exact hP j _ (wo_at hj)
    · rw [mput_out (by omega)]
      have h0 := hE.1 k _ (wo_at hk1)
      refine h0.kept (hk _ h0.lt (fun z => ?_))
      rcases z with ⟨i, e, hi⟩ | z
      · obtain ⟨hi1, hi2⟩ := wo_of hi
        have e1 : ω.2.1 k = ω'.2.1 i := congrArg Prod.fst hi2
        have := hE.2.1.1 _ _ _ _ (wo_at hk1) (sub_at hs hi1) e1
        omega
      · exact Nat.not_lt.mpr z h0.lt
  · obtain ⟨hi, rfl⟩ := wo_of hp
    obtain ⟨hj, rfl⟩ := wo_of hq
    exact hE.2.1.1 i j _ _ (wo_at hi) (wo_at hj) he
  · obtain ⟨hk1, rfl⟩ := wo_of hq
    exact hE.2.1.2 k (ω.2.1 k, ω.2.2.1 k (μ k)) (wo_at hk1)
end SB
section SR
variable {p : Program} {l : Launch} {e : Env} {R : Room} {s : State} {m : MethodId} {args : Array Value} {below : List Frame} {meth : Method} {c : Code} {H : Heap} {locs : List Loc} {cells slots : Nat} {Q : State → Prop}
variable {cc : ByteArray} {pc nL : Nat} {own : String} {ret : Option FieldType} {ls : Array Slot} {rest : List Value} {ω ω' : Wd} {o : Nat} {cs : Nat → ClassId} {A : Nat → Prop} {μ : Mem}
variable {y : MethodName} {b : ByteArray} {mL f L index : Nat} {ret' : Option FieldType} {As st0 : List Value} {s0 : State}
theorem s_runV (C : bC p s m args meth c cc nL own ret) (hk : wk ω.1 cs s) (hE : wS ω A s.heap μ H locs) (hs : isSub ω' ω o) (hsz : ls.size = nL)
    {q : Nat} {Qc : Array Value → State → Outcome → State → Prop} {free : Addr → Prop} (hM : Met l y (ms_ws y b mL ret') (rmF f L) (wPc ω' cs (.ref (ω'.2.1 q) :: As) (msub o μ) H.size) Qc 0 0 free)
    (hq : q < ω'.2.2.2) {ci N : Nat} {T : u_T} {fs : List Value} (hf : ω'.2.2.1 q (msub o μ q) = .inr (ci, fs)) (hc : classes[ci]? = some (y.cls, T, N))
    (h1 : Cond.methodLink own index y ∈ tbG) (h2 : Cond.instanceMethod y ∈ tbG) (h3 : Cond.selects y.cls y y ∈ tbG) (h4 : Cond.initialized y.cls ∈ tbG) (h5 : Cond.code y b mL ret' ∈ tbG) {n : Nat} (hd : w_okd y n) (hn : As.length = n)
    (hst : st0 = As.reverse ++ .ref (ω'.2.1 q) :: rest) (hw : (rest.map fun v => v.category).sum ≤ 8) (hdg : decode cc pc = .ok (.invokevirtual index, 3)) (hR : f + 1 ≤ R.frames ∧ 8 + (mL + 11) + L ≤ R.locals) (hc0 : cells ≤ R.cells ∧ slots ≤ R.slots) :
    va_Run p l e R s m args below meth c H locs cells slots 0 0 (F0 m pc ls st0) rest (Qc (Value.ref (ω'.2.1 q) :: As).toArray) free := by
  obtain ⟨hx, hb, hml, ho, hts, -, -⟩ := C
  have hk' : wk ω'.1 cs s := by rw [hs.1]; exact hk
  have hP' := sub_P hs hE.1
  have hD' := sub_D hs hE.2.1
  refine va_runV (Ts := tbG) (own := own) (C := y.cls) ⟨hx, hb, hml, ho, hts⟩ hM (cwV (ret := ret') n hts (gi_of ?_) rfl rfl rfl ⟨rfl, hd⟩ hR) ⟨wPc_blind, va_recv hk'.1 hP' (ci := ci) (q0 := q) hc (by rw [wo_at hq, hf]), fun U hU hW => ⟨rfl, by rw [hU], by rw [hU]; exact hP', hk'.warm hW, hD'.weaken (fun _ _ _ _ => trivial)⟩⟩ rfl hn hsz hst (lv_room hw) hdg hc0
  intro w hw
  rcases List.mem_append.mp hw with h | h
  · simp only [List.mem_cons, List.not_mem_nil, or_false] at h
    rcases h with rfl | rfl | rfl | rfl
    · exact h1
    · exact h2
    · exact h3
    · exact h4
  · exact gi_ms h5 w h
theorem s_ci {post : Int32 → Mem → Prop} (hE : wS ω A s.heap μ H locs) (hs : isSub ω' ω o) (hA : ∀ q : Nat, s.heap.size ≤ q → A q) {a : Array Value} (hr : va_Run p l e R s m args below meth c H locs cells slots 0 0 (F0 m pc ls st0) rest (va_Qi post (wB ω' (va_A (wo ω' (msub o μ)) H.size)) (va_A (wo ω' (msub o μ)) H.size) a) (va_A (wo ω' (msub o μ)) H.size))
    (kk : ∀ (r : Int32) (τ : Mem) (H1 : Heap) (locs1 : List Loc), post r τ → wS ω A s.heap (mput o ω'.2.2.2 μ τ) H1 locs1 → H.size ≤ H1.size → W p l e R s m args below meth c H1 locs1 cells slots Q (F0 m (pc + 3) ls (.int r :: rest))) :
    W p l e R s m args below meth c H locs cells slots Q (F0 m pc ls st0) :=
  va_calli hr hE.2.2 (fun q _ h => sub_free hs hE hA q h) (sub_free hs hE hA) (fun r u t H1 locs1 ht _ hp hB hz1 hk1 hS1 => kk r u H1 locs1 hp (sub_back hs hE (by rw [← ht]; exact hB.1) hk1 hS1) hz1)
/-- a call of a method of the class that may throw -/
theorem x_callE {post : Int32 → Mem → Prop} {tp : String → Prop} (C : bC p s m args meth c cc nL own ret) (hk : wk ω.1 cs s) (hE : wS ω A s.heap μ H locs) (hA : ∀ q : Nat, s.heap.size ≤ q → A q) (hX : xK s0 s) (hAs : ∀ q, A q → s0.heap.size ≤ q) (hs : isSub ω' ω o) (hsz : ls.size = nL)
    {q : Nat} (hM : MetX l s0 ω' cs y b mL ret' f L (.ref (ω'.2.1 q) :: As) (msub o μ) post tp)
    (hq : q < ω'.2.2.2) {ci N : Nat} {T : u_T} {fs : List Value} (hf : ω'.2.2.1 q (msub o μ q) = .inr (ci, fs)) (hc : classes[ci]? = some (y.cls, T, N))
    (h1 : Cond.methodLink own index y ∈ tbG) (h2 : Cond.instanceMethod y ∈ tbG) (h3 : Cond.selects y.cls y y ∈ tbG) (h4 : Cond.initialized y.cls ∈ tbG) (h5 : Cond.code y b mL ret' ∈ tbG) {n : Nat} (hd : w_okd y n) (hn : As.length = n)
    (hst : st0 = As.reverse ++ .ref (ω'.2.1 q) :: rest) (hw : (rest.map fun v => v.category).sum ≤ 8) (hdg : decode cc pc = .ok (.invokevirtual index, 3)) (hR : f + 1 ≤ R.frames ∧ 8 + (mL + 11) + L ≤ R.locals) (hc0 : cells + 1 ≤ R.cells ∧ slots + 6 ≤ R.slots)
    (kR : ∀ (r : Int32) (τ : Mem) (H1 : Heap) (locs1 : List Loc), post r τ → wS ω A s.heap (mput o ω'.2.2.2 μ τ) H1 locs1 → W p l e R s m args below meth c H1 locs1 (cells + 1) (slots + 6) Q (F0 m (pc + 3) ls (.int r :: rest)))
    (kT : ∀ (K : String) (cK : ClassId) (cell : Cell) (x : Addr) (T1 : State) (locs1 : List Loc), tp K → s.vm.findClass K = some cK → T1.heap[x]? = some cell → cell.cls = cK → cell.vm = .none → wS ω A s.heap μ T1.heap locs1 → Stand p l e R s m args below meth c T1 locs1 (cells + 1) (slots + 6) → ∃ t, Steps p.tables e below ((T1.setTop (F0 m pc ls rest)).pushFrame (.throwing x)) t ∧ Q t) :
    W p l e R s m args below meth c H locs cells slots Q (F0 m pc ls st0) := by
  obtain ⟨hx, hb, hml, ho, hts, -, -⟩ := C
  have hk' : wk ω'.1 cs s := by rw [hs.1]; exact hk
  have hP' := sub_P hs hE.1
  have hD' := sub_D hs hE.2.1
  intro T1 hT X
  obtain ⟨cellB, hcB, hoB, hclB⟩ := va_recv hk'.1 hP' (ci := ci) (q0 := q) hc (by rw [wo_at hq, hf])
  obtain ⟨mk, methM, hnamed, hmethM, hstM, habM⟩ := Cond.instanceMethod_spec (hts _ h2)
  obtain ⟨methM', cM, hmethM', hcM, -, hlM, -, -, -, hsigM⟩ := Cond.code_spec hnamed (hts _ h5)
  cases hmethM.symm.trans hmethM'
  obtain ⟨c2, r2, m2, q1, q2, q3, q4, kP, hkP, hkPi⟩ := Cond.selects_spec (hts _ h3)
  cases hclB.symm.trans q1
  have hnM : y.cls ≠ "java/lang/invoke/MethodHandle" ∧ y.cls ≠ "java/lang/invoke/VarHandle" := ⟨hd.1, hd.2.1⟩
  cases (State.methodFound?_of_named hnamed hnM).symm.trans q2
  cases hnamed.symm.trans q3
  have hselP : selectMethod e.platform s.vm cellB.cls mk = .method mk := by rw [Launch.admits_selectMethod X.admits]; exact q4
  have hlenA : As.length = methM.sig.parameters.length := by
    have h := hd.2.2
    rw [hsigM] at h
    have h' : methM.sig.parameters.length = n := by simpa using h
    rw [hn, h']
  obtain ⟨vm₁, X₁, hstep₁⟩ := X.invokevirtual hx ho (hts _ h1) hnamed hmethM hstM hkP hkPi hnM (a := ω'.2.1 q) (cell := cellB) (by rw [hT]; exact hcB)
    (fun z h => by rw [h] at hoB; cases hoB) hselP hmethM habM hkP hkPi (g := F0 m pc ls st0) rfl (argsL := As) (rest := rest) hlenA hst (by rw [hb]; exact hdg)
  have hW₁ : s.WarmedH vm₁ := X₁.warmed
  have hiP : kP.init = .initialized := Cond.initialized_spec (findClass_of_methodNamed hnamed) hkP (hts _ h4)
  obtain ⟨kP₁, hkP₁, heP₁⟩ := hW₁.alike.2.2 _ _ hkP
  have hws : ∀ w ∈ ms_ws y b mL ret', w.before (Value.ref (ω'.2.1 q) :: As).toArray (T1.setVm vm₁) = true := fun w hw0 =>
    word_at (U := T1.setVm vm₁) hW₁ (gi_of (gi_ms h5) w hw0).2 (hts w (gi_ms h5 w hw0))
  have hXK : xK s0 ((T1.setVm vm₁).calling (F0 m pc ls rest) mk (Value.ref (ω'.2.1 q) :: As).toArray) :=
    hX.on (V := (T1.setVm vm₁).calling (F0 m pc ls rest) mk (Value.ref (ω'.2.1 q) :: As).toArray) hW₁ (by show s.heap.size ≤ T1.heap.size; rw [hT]; exact hE.2.2.1) (fun z z1 z2 => by show T1.heap[z]? = _; rw [hT]; exact hE.2.2.2.1 z z1 z2) hAs
  have hPc : xPc s0 ω' cs (.ref (ω'.2.1 q) :: As) (msub o μ) H.size (Value.ref (ω'.2.1 q) :: As).toArray ((T1.setVm vm₁).calling (F0 m pc ls rest) mk (Value.ref (ω'.2.1 q) :: As).toArray) :=
    ⟨rfl, ⟨by show T1.heap.size = _; rw [hT], by show va_P _ _ _ T1.heap; rw [hT]; exact hP', (hk'.warm (U := T1.setVm vm₁) hW₁).calling _ _ _, hD'.weaken (fun _ _ _ _ => trivial)⟩, hXK, fun k hk0 => hAs _ (hD'.2 k _ (wo_at hk0))⟩
  obtain ⟨oc, t, T2, L2, X2, hL2, e1, e2, ⟨hQ, hF1, hF2⟩, g1, g2⟩ := x_core X₁ (g := F0 m pc ls rest) rfl (hsz.trans hml.symm) (by rw [hb]; exact hdg) (hM H.size) (mk := mk)
    (show (T1.setVm vm₁).methodNamed? y = some mk by
      have z : (s.setVm vm₁).methodNamed? y = some mk := by rw [State.methodNamed?_setVm hW₁.alike]; exact hnamed
      exact z)
    (show vm₁.method? mk = some methM by rw [hW₁.alike.method?]; exact hmethM) hcM hlM (show vm₁.classes[mk.cls]? = some kP₁ from hkP₁) (by rw [heP₁]; exact hiP) _ hws hPc hR.1
    (by have z := lv_room (m := m) (pc := pc) (ls := ls) (rest := rest) hw; have z2 := hR.2; have z3 : (List.map (fun v => v.category) (F0 m pc ls rest).stack).sum = (rest.map fun v => v.category).sum := rfl; rw [z3]; show _ + (_ + 11) + L ≤ _; omega) hc0.1 hc0.2
  have hz : H.size ≤ T2.heap.size := by rw [e1]; have h : T1.heap.size ≤ t.heap.size := hF1; rw [hT] at h; exact h
  have hkp : ∀ z : Nat, z < H.size → ¬ va_A (wo ω' (msub o μ)) H.size z → T2.heap[z]? = H[z]? := fun z z1 z2 => by
    rw [e1]
    have h : t.heap[z]? = T1.heap[z]? := hF2 z (by show z < T1.heap.size; rw [hT]; exact z1) z2
    rw [h, hT]
  have hS2 : va_S A s.heap T2.heap (locs ++ L2) := ⟨Nat.le_trans hE.2.2.1 hz, fun z z1 z2 => by
      rw [hkp z (Nat.lt_of_lt_of_le z1 hE.2.2.1) (fun w => z2 (sub_free hs hE hA z w))]; exact hE.2.2.2.1 z z1 z2, fun z z1 => by
      rcases List.mem_append.mp z1 with h | h
      · exact hE.2.2.2.2 z h
      · exact sub_free hs hE hA _ (hL2 z h)⟩
  rcases hQ with ⟨r, u, hoc, hp, hB⟩ | ⟨x, K, cK, cell, hoc, htp, hfc, hcl, hcc, hcv, hB⟩
  · obtain ⟨t2, a1, b1⟩ := kR r u T2.heap (locs ++ L2) hp (sub_back hs hE (by rw [e1]; exact hB.1) hkp hS2) T2 rfl X2
    exact ⟨t2, hstep₁ _ (fun acts => (g1 _ hoc acts).trans a1), b1⟩
  · have hE2 : wS ω A s.heap μ T2.heap (locs ++ L2) := by
      have h := sub_back hs hE (τ := msub o μ) (H1 := T2.heap) (by rw [e1]; exact hB.1) hkp hS2
      rw [mput_self] at h; exact h
    obtain ⟨t2, a1, b1⟩ := kT K cK cell x T2 (locs ++ L2) htp (by
      have h : vm₁.findClass K = some cK := hfc
      rw [hW₁.alike.findClass] at h; exact h) (by rw [e1]; exact hcl) hcc hcv hE2 X2
    exact ⟨t2, hstep₁ _ (fun acts => (g2 _ hoc acts).trans a1), b1⟩
end SR
