/-! a world: cells at the addresses ad 0 .. ad (N - 1); cell k holds 'cont k' of row k of a memory of ints -/
abbrev Mem : Type := Nat → Nat → Int32
abbrev Wd : Type := va_G × (Nat → Nat) × (Nat → (Nat → Int32) → va_E) × Nat
def wo (ω : Wd) (σ : Mem) : va_W := (List.range ω.2.2.2).map (fun k => (ω.2.1 k, ω.2.2.1 k (σ k)))
theorem wo_at {ω : Wd} {σ : Mem} {k : Nat} (h : k < ω.2.2.2) : (wo ω σ)[k]? = some (ω.2.1 k, ω.2.2.1 k (σ k)) := by
  rw [wo, List.getElem?_map, List.getElem?_range h]; rfl
theorem wo_of {ω : Wd} {σ : Mem} {k : Nat} {x : Nat × va_E} (h : (wo ω σ)[k]? = some x) : k < ω.2.2.2 ∧ x = (ω.2.1 k, ω.2.2.1 k (σ k)) := by
  have hk : k < ω.2.2.2 := by
    have h1 := (List.getElem?_eq_some_iff.mp h).1
    simpa [wo] using h1
  rw [wo_at hk] at h
  exact ⟨hk, (Option.some.inj h).symm⟩
def mrow (σ : Mem) (k : Nat) (r : Nat → Int32) : Mem := fun j => if j = k then r else σ j
theorem mrow_s {σ : Mem} {k : Nat} {r : Nat → Int32} : mrow σ k r k = r := if_pos rfl
theorem mrow_n {σ : Mem} {k j : Nat} {r : Nat → Int32} (h : j ≠ k) : mrow σ k r j = σ j := if_neg h
def mset (σ : Mem) (k i : Nat) (x : Int32) : Mem := mrow σ k (upd (σ k) i x)
theorem wo_set {ω : Wd} {σ : Mem} {k : Nat} {r : Nat → Int32} {e : va_E} (h : k < ω.2.2.2) (he : ω.2.2.1 k r = e) : (wo ω σ).set k (ω.2.1 k, e) = wo ω (mrow σ k r) := by
  subst he
  apply List.ext_getElem?
  intro j
  by_cases hj : j = k
  · subst hj
    rw [wo_at h, mrow_s, List.getElem?_set_self (by simpa [wo] using h)]
  · rw [List.getElem?_set_ne (Ne.symm hj)]
    by_cases hl : j < ω.2.2.2
    · rw [wo_at hl, wo_at hl, mrow_n hj]
    · rw [List.getElem?_eq_none (by simp [wo]; omega), List.getElem?_eq_none (by simp [wo]; omega)]
/-- the world stands in H; since H0 nothing outside A has changed -/
def wS (ω : Wd) (A : Nat → Prop) (H0 : Heap) (σ : Mem) (H : Heap) (locs : List Loc) : Prop := va_P ω.1 classes (wo ω σ) H ∧ va_D A (wo ω σ) ∧ va_S A H0 H locs
abbrev tysL (cs : Nat → ClassId) : List (ClassId × FieldType) := [(cs 0, .int), (cs 1, .array .int), (cs 2, .boolean), (cs 3, .long)]
abbrev nest_S : Cond := .methodLinkNest "EarleyChart$ItemSets" 82 yE_isVariable "EarleyChart"
abbrev nest_T : Cond := .methodLinkNest "EarleyChart$StepTable" 27 yE_isVariable "EarleyChart"
abbrev nest_W : Cond := .methodLinkNest "EarleyChart$Witness" 62 yE_isVariable "EarleyChart"
abbrev nest_G : Cond := .methodLinkNest "EarleyChart" 18 yG_init "EarleyChart"
abbrev nest_I : Cond := .methodLinkNest "EarleyChart" 21 yI_init "EarleyChart"
/-- what the tables say: classes, array classes, calls across the nest -/
def wk (D : va_G) (cs : Nat → ClassId) (U : State) : Prop := va_K D classes (tysL cs) U ∧ va_Nw nest_S U ∧ va_Nw nest_T U ∧ va_Nw nest_W U ∧ va_Nw nest_G U ∧ va_Nw nest_I U
theorem wk.warm {D : va_G} {cs : Nat → ClassId} {s U : State} (h : wk D cs s) (hW : s.WarmedH U.vm) : wk D cs U :=
  ⟨va_K.moved hW.alike h.1, va_Nw.warmM hW h.2.1, va_Nw.warmM hW h.2.2.1, va_Nw.warmM hW h.2.2.2.1, va_Nw.warmM hW h.2.2.2.2.1, va_Nw.warmM hW h.2.2.2.2.2⟩
theorem wk.calling {D : va_G} {cs : Nat → ClassId} {U : State} (h : wk D cs U) (g : JFrame) (mk : MethodId) (a : Array Value) : wk D cs (U.calling g mk a) :=
  ⟨va_K.moved (u := U) (U := U.calling g mk a) (Vm.Alike.refl U.vm) h.1, va_Nw.same rfl (u := U) rfl h.2.1, va_Nw.same rfl (u := U) rfl h.2.2.1, va_Nw.same rfl (u := U) rfl h.2.2.2.1, va_Nw.same rfl (u := U) rfl h.2.2.2.2.1, va_Nw.same rfl (u := U) rfl h.2.2.2.2.2⟩
/-- a method's words: its code and the tables' -/
def ms_ws (y : MethodName) (b : ByteArray) (mL : Nat) (ret : Option FieldType) : List Cond := Cond.code y b mL ret :: tbG
theorem gi_of {ws : List Cond} (h : ∀ w ∈ ws, w ∈ tbG) : GoodIn tbG ws := fun w hw => ⟨h w hw, good_of_word (List.all_eq_true.mp tbG_good w (h w hw))⟩
theorem gi_ms {y : MethodName} {b : ByteArray} {mL : Nat} {ret : Option FieldType} (h : Cond.code y b mL ret ∈ tbG) : ∀ w ∈ ms_ws y b mL ret, w ∈ tbG := fun w hw => (List.mem_cons.mp hw).elim (fun e => e ▸ h) id
abbrev rmF (f L : Nat) : Room := { frames := f, cells := 0, slots := 0, locals := L }
def wPc (ω : Wd) (cs : Nat → ClassId) (As : List Value) (σ : Mem) (sz : Nat) : Array Value → State → Prop := va_Pc As (fun U => U.heap.size = sz ∧ va_P ω.1 classes (wo ω σ) U.heap ∧ wk ω.1 cs U ∧ va_D (fun _ => True) (wo ω σ))
def wB (ω : Wd) (A : Nat → Prop) : Mem → State → Prop := fun σ t => va_P ω.1 classes (wo ω σ) t.heap ∧ va_D A (wo ω σ)
/-- a method that answers an int (or a boolean) and changes the world alone -/
def MetI (l : Launch) (ω : Wd) (cs : Nat → ClassId) (y : MethodName) (b : ByteArray) (mL : Nat) (ret : Option FieldType) (f L : Nat) (As : List Value) (σ : Mem) (post : Int32 → Mem → Prop) : Prop :=
  ∀ sz : Nat, Met l y (ms_ws y b mL ret) (rmF f L) (wPc ω cs As σ sz) (va_Qi post (wB ω (va_A (wo ω σ) sz)) (va_A (wo ω σ) sz)) 0 0 (va_A (wo ω σ) sz)
/-- a method that answers nothing -/
def MetV (l : Launch) (ω : Wd) (cs : Nat → ClassId) (y : MethodName) (b : ByteArray) (mL : Nat) (f L : Nat) (As : List Value) (σ : Mem) (post : Mem → Prop) : Prop :=
  ∀ sz : Nat, Met l y (ms_ws y b mL none) (rmF f L) (wPc ω cs As σ sz) (va_Qv post (wB ω (va_A (wo ω σ) sz)) (va_A (wo ω σ) sz)) 0 0 (va_A (wo ω σ) sz)
theorem wPc_blind {ω : Wd} {cs : Nat → ClassId} {As : List Value} {σ : Mem} {sz : Nat} : FrameBlind (wPc ω cs As σ sz) := by
  intro a U g mk q
  obtain ⟨q0, q1, qP, qK, qD⟩ := q
  exact ⟨q0, q1, qP, qK.calling g mk a, qD⟩
/-- what stands fixed in a method's body -/
def bC (p : Program) (s : State) (m : MethodId) (args : Array Value) (meth : Method) (c : Code) (cc : ByteArray) (nL : Nat) (own : String) (ret : Option FieldType) : Prop :=
  p.tables.exec = Jvm.exec ∧ c.code = cc ∧ c.maxLocals = nL ∧ s.vm.findClass own = some m.cls ∧ (∀ w ∈ tbG, w.before args s = true) ∧ meth.sig.returnType = ret ∧ meth.locks = false
abbrev wQi (ω : Wd) (A : Nat → Prop) (post : Int32 → Mem → Prop) (s : State) (below : List Frame) (args : Array Value) : State → Prop := MQ below (va_Qi post (wB ω A) A) args s 0 0 A
abbrev wQv (ω : Wd) (A : Nat → Prop) (post : Mem → Prop) (s : State) (below : List Frame) (args : Array Value) : State → Prop := MQ below (va_Qv post (wB ω A) A) args s 0 0 A
theorem MetI.start {l : Launch} {ω : Wd} {cs : Nat → ClassId} {y : MethodName} {b : ByteArray} {mL : Nat} {ret : Option FieldType} {f L : Nat} {As : List Value} {σ : Mem} {post : Int32 → Mem → Prop} (hy : plainName y.cls = true) (hn : (lg_sl As).length ≤ mL)
    (body : ∀ (p : Program) (e : Env) (s : State) (m : MethodId) (below : List Frame) (meth : Method) (c : Code) (A : Nat → Prop) (ls : Array Slot), bC p s m As.toArray meth c b mL y.cls ret → wk ω.1 cs s → (∀ q : Nat, s.heap.size ≤ q → A q) → wS ω A s.heap σ s.heap [] → lv_has ls mL (lv_args 0 As) →
      W p l e (rmF f L) s m As.toArray below meth c s.heap [] 0 0 (wQi ω A post s below As.toArray) (F0 m 0 ls [])) : MetI l ω cs y b mL ret f L As σ post := by
  intro sz
  refine Met.ofW (cc := b) (maxL := mL) (ret := ret) hy rfl ?_
  intro p e s m args below meth c s₁ B hml hv
  obtain ⟨rfl, hsz, hP, hK, hD0⟩ := hv
  subst hsz
  have hts := atoms_spec (ws := ms_ws y b mL ret) B.pre
  have hl := lv_entry As (n := mL) hn
  rw [lg_entry_eq]
  exact body p e s m below meth c (va_A (wo ω σ) s.heap.size) _ ⟨B.exec, B.bytes, hml, findClass_of_methodNamed B.named, fun w hw => hts w (List.mem_cons_of_mem _ hw), B.returns, B.notSynchronized⟩ hK (fun q h => Or.inr h) ⟨hP, hD0.self, va_S.rf⟩ hl
theorem MetV.start {l : Launch} {ω : Wd} {cs : Nat → ClassId} {y : MethodName} {b : ByteArray} {mL : Nat} {f L : Nat} {As : List Value} {σ : Mem} {post : Mem → Prop} (hy : plainName y.cls = true) (hn : (lg_sl As).length ≤ mL)
    (body : ∀ (p : Program) (e : Env) (s : State) (m : MethodId) (below : List Frame) (meth : Method) (c : Code) (A : Nat → Prop) (ls : Array Slot), bC p s m As.toArray meth c b mL y.cls none → wk ω.1 cs s → (∀ q : Nat, s.heap.size ≤ q → A q) → wS ω A s.heap σ s.heap [] → lv_has ls mL (lv_args 0 As) →
      W p l e (rmF f L) s m As.toArray below meth c s.heap [] 0 0 (wQv ω A post s below As.toArray) (F0 m 0 ls [])) : MetV l ω cs y b mL f L As σ post := by
  intro sz
  refine Met.ofW (cc := b) (maxL := mL) (ret := none) hy rfl ?_
  intro p e s m args below meth c s₁ B hml hv
  obtain ⟨rfl, hsz, hP, hK, hD0⟩ := hv
  subst hsz
  have hts := atoms_spec (ws := ms_ws y b mL none) B.pre
  have hl := lv_entry As (n := mL) hn
  rw [lg_entry_eq]
  exact body p e s m below meth c (va_A (wo ω σ) s.heap.size) _ ⟨B.exec, B.bytes, hml, findClass_of_methodNamed B.named, fun w hw => hts w (List.mem_cons_of_mem _ hw), B.returns, B.notSynchronized⟩ hK (fun q h => Or.inr h) ⟨hP, hD0.self, va_S.rf⟩ hl
section WR
variable {p : Program} {l : Launch} {e : Env} {R : Room} {s : State} {m : MethodId} {args : Array Value} {below : List Frame} {meth : Method} {c : Code} {H : Heap} {locs : List Loc} {cells slots : Nat} {Q : State → Prop}
variable {cc : ByteArray} {pc nL : Nat} {own : String} {ret : Option FieldType} {ls : Array Slot} {rest : List Value} {ω : Wd} {cs : Nat → ClassId} {A : Nat → Prop} {σ : Mem}
theorem w_get (C : bC p s m args meth c cc nL own ret) (hk : wk ω.1 cs s) (hE : wS ω A s.heap σ H locs) {ref K : String} {T : u_T} {N ci index : Nat} (hin : ∀ w ∈ u_ws K T N, w ∈ tbG) (q : Nat) (hq : q < ω.2.2.2) {fs : List Value} (hf : ω.2.2.1 q (σ q) = .inr (ci, fs)) (hc : classes[ci]? = some (K, T, N)) (k : Nat) (hkN : k < N)
    (hl : Cond.fieldLink own index ref (T k).2.1 (T k).2.2.1 ∈ tbG) (hr : ref = (T k).1) {v : Value} (hv : fs[k]? = some v) (hdg : decode cc pc = .ok (.getfield index, 3))
    (kk : W p l e R s m args below meth c H locs cells slots Q (F0 m (pc + 3) ls (v :: rest))) : W p l e R s m args below meth c H locs cells slots Q (F0 m pc ls (.ref (ω.2.1 q) :: rest)) := by
  obtain ⟨hx, hb, hml, ho, hts, -, -⟩ := C
  subst hr
  exact va_get (D := ω.1) hx hb hts hin ho hk.1 hE.1 q (by rw [wo_at hq, hf]) hc k hkN (hts _ hl) (fun _ h => h) hv hdg kk
theorem w_put (C : bC p s m args meth c cc nL own ret) (hk : wk ω.1 cs s) (hE : wS ω A s.heap σ H locs) {ref K : String} {T : u_T} {N ci index : Nat} (hin : ∀ w ∈ u_ws K T N, w ∈ tbG) {ty0 : Nat → FieldType} (hty : ∀ k, k < N → parseFieldDescriptor (T k).2.2.1 = some (ty0 k)) (hnm : ∀ a, a < N → ∀ b, b < N → a ≠ b → (T a).2.1 ≠ (T b).2.1)
    (q : Nat) (hq : q < ω.2.2.2) {fs : List Value} (hf : ω.2.2.1 q (σ q) = .inr (ci, fs)) (hc : classes[ci]? = some (K, T, N)) (k : Nat) (hkN : k < N)
    (hl : Cond.fieldLink own index ref (T k).2.1 (T k).2.2.1 ∈ tbG) (hr : ref = (T k).1) (hfin : (T k).2.2.2 = false) {x : Int32} (hn : narrow (ty0 k) (.int x) = .int x) (hfit : fits (ty0 k) (.int x) = true) (hlen : k < fs.length) (hu : ω.2.2.1 q (upd (σ q) k x) = .inr (ci, fs.set k (.int x)))
    (hdg : decode cc pc = .ok (.putfield index, 3))
    (kk : ∀ (H1 : Heap) (locs1 : List Loc), wS ω A s.heap (mset σ q k x) H1 locs1 → W p l e R s m args below meth c H1 locs1 cells slots Q (F0 m (pc + 3) ls rest)) : W p l e R s m args below meth c H locs cells slots Q (F0 m pc ls (.int x :: .ref (ω.2.1 q) :: rest)) := by
  obtain ⟨hx, hb, hml, ho, hts, -, -⟩ := C
  subst hr
  refine va_put (D := ω.1) hx hb hts hin ty0 hty hnm ho hk.1 hE.1 hE.2.1 hE.2.2 q (by rw [wo_at hq, hf]) hc k hkN (hts _ hl) (fun _ h => h) hfin (hty k hkN) hn hfit hlen hdg (fun H1 locs1 hP hD hS => ?_)
  rw [wo_set hq hu] at hP hD
  exact kk H1 locs1 ⟨hP, hD, hS⟩
theorem w_iald (C : bC p s m args meth c cc nL own ret) (hk : wk ω.1 cs s) (hE : wS ω A s.heap σ H locs) (q : Nat) (hq : q < ω.2.2.2) {n i : Nat} (hf : ω.2.2.1 q (σ q) = .inl (cs 0, n, .inl (σ q))) (hi : i < n) (hn : n < 2 ^ 31) (hdg : decode cc pc = .ok (.iaload, 1))
    (kk : W p l e R s m args below meth c H locs cells slots Q (F0 m (pc + 1) ls (.int (σ q i) :: rest))) : W p l e R s m args below meth c H locs cells slots Q (F0 m pc ls (.int (nI i) :: .ref (ω.2.1 q) :: rest)) := by
  obtain ⟨hx, hb, hml, ho, hts, -, -⟩ := C
  refine va_iald (D := ω.1) hx hb hk.1 hE.1 q 0 (by rw [wo_at hq, hf]) rfl (vp_in_nI hi hn) hdg ?_
  rw [nI_clamp (by omega)]
  exact kk
theorem w_iast (C : bC p s m args meth c cc nL own ret) (hk : wk ω.1 cs s) (hE : wS ω A s.heap σ H locs) (q : Nat) (hq : q < ω.2.2.2) {n i : Nat} (hf : ∀ r : Nat → Int32, ω.2.2.1 q r = .inl (cs 0, n, .inl r)) (hi : i < n) (hn : n < 2 ^ 31) {x : Int32} (hdg : decode cc pc = .ok (.iastore, 1))
    (kk : ∀ (H1 : Heap) (locs1 : List Loc), wS ω A s.heap (mset σ q i x) H1 locs1 → W p l e R s m args below meth c H1 locs1 cells slots Q (F0 m (pc + 1) ls rest)) : W p l e R s m args below meth c H locs cells slots Q (F0 m pc ls (.int x :: .int (nI i) :: .ref (ω.2.1 q) :: rest)) := by
  obtain ⟨hx, hb, hml, ho, hts, -, -⟩ := C
  refine va_iast (D := ω.1) hx hb hk.1 hE.1 hE.2.1 hE.2.2 q 0 (by rw [wo_at hq, hf]) rfl (vp_in_nI hi hn) hdg (fun H1 locs1 hP hD hS => ?_)
  rw [nI_clamp (by omega), wo_set hq (hf _)] at hP hD
  exact kk H1 locs1 ⟨hP, hD, hS⟩
theorem w_zald (C : bC p s m args meth c cc nL own ret) (hk : wk ω.1 cs s) (hE : wS ω A s.heap σ H locs) (q : Nat) (hq : q < ω.2.2.2) {n i : Nat} (hf : ω.2.2.1 q (σ q) = .inl (cs 2, n, .inl (σ q))) (hi : i < n) (hn : n < 2 ^ 31) (hdg : decode cc pc = .ok (.baload, 1))
    (kk : W p l e R s m args below meth c H locs cells slots Q (F0 m (pc + 1) ls (.int (σ q i) :: rest))) : W p l e R s m args below meth c H locs cells slots Q (F0 m pc ls (.int (nI i) :: .ref (ω.2.1 q) :: rest)) := by
  obtain ⟨hx, hb, hml, ho, hts, -, -⟩ := C
  refine va_zald (D := ω.1) hx hb hk.1 hE.1 q 2 (by rw [wo_at hq, hf]) rfl (vp_in_nI hi hn) hdg ?_
  rw [nI_clamp (by omega)]
  exact kk
/-- a row out of an array of rows -/
theorem w_aald (C : bC p s m args meth c cc nL own ret) (hk : wk ω.1 cs s) (hE : wS ω A s.heap σ H locs) (q : Nat) (hq : q < ω.2.2.2) {n i : Nat} {f : Nat → Option Nat} {b : Nat} (hf : ω.2.2.1 q (σ q) = .inl (cs 1, n, .inr (.inr (.inr (.inr f))))) (hi : i < n) (hn : n < 2 ^ 31) (hfi : f i = some b) (hdg : decode cc pc = .ok (.aaload, 1))
    (kk : W p l e R s m args below meth c H locs cells slots Q (F0 m (pc + 1) ls (.ref b :: rest))) : W p l e R s m args below meth c H locs cells slots Q (F0 m pc ls (.int (nI i) :: .ref (ω.2.1 q) :: rest)) := by
  obtain ⟨hx, hb, hml, ho, hts, -, -⟩ := C
  have hat : va_at ω.1 classes (ω.2.1 q, .inl (cs 1, n, .inr (.inr (.inr (.inr f))))) H := by
    have h := hE.1 q _ (wo_at hq)
    rwa [hf] at h
  have hcl : (nI i).toNatClampNeg = i := nI_clamp (by omega)
  refine W.aald (v := .ref b) (ty := .array .int) hx hb hat ((hk.1.2 1 _ rfl).1 n (fun j => va_rf (f j))) rfl (fun q => by cases q) (by show ¬ (nI i < 0 ∨ (arrV _ _ _).slots.size ≤ _); rw [arrV_size]; exact vp_in_nI hi hn) (by show (arrV _ _ _).slots[_]? = _; rw [hcl, arrV_read _ _ hi, hfi]; rfl) rfl rfl hdg kk
theorem w_reti (C : bC p s m args meth c cc nL own (some .int)) {post : Int32 → Mem → Prop} (hE : wS ω A s.heap σ H locs) {r : Int32} (hp : post r σ) (hdg : decode cc pc = .ok (.ireturn, 1)) :
    W p l e R s m args below meth c H locs 0 0 (wQi ω A post s below args) (F0 m pc ls [.int r]) := by
  obtain ⟨hx, hb, hml, ho, hts, hr, hlocks⟩ := C
  exact W.iret hx hb hr (fun t ht hW => ⟨⟨r, σ, rfl, hp, by rw [ht]; exact hE.1, hE.2.1⟩, hE.2.2.F ht⟩) hE.2.2.2.2 hdg
theorem w_retz (C : bC p s m args meth c cc nL own (some .boolean)) {post : Int32 → Mem → Prop} (hE : wS ω A s.heap σ H locs) {r : Int32} (hn : r = 0 ∨ r = 1) (hp : post r σ) (hdg : decode cc pc = .ok (.ireturn, 1)) :
    W p l e R s m args below meth c H locs 0 0 (wQi ω A post s below args) (F0 m pc ls [.int r]) := by
  obtain ⟨hx, hb, hml, ho, hts, hr, hlocks⟩ := C
  exact W.zret hx hb hr (by rcases hn with rfl | rfl <;> rfl) (fun t ht hW => ⟨⟨r, σ, rfl, hp, by rw [ht]; exact hE.1, hE.2.1⟩, hE.2.2.F ht⟩) hE.2.2.2.2 hdg
theorem w_retv (C : bC p s m args meth c cc nL own none) {post : Mem → Prop} (hE : wS ω A s.heap σ H locs) (hp : post σ) (hdg : decode cc pc = .ok (.return_, 1)) :
    W p l e R s m args below meth c H locs 0 0 (wQv ω A post s below args) (F0 m pc ls []) := by
  obtain ⟨hx, hb, hml, ho, hts, hr, hlocks⟩ := C
  exact W.vret hx hb hr (fun t ht hW => ⟨⟨σ, rfl, hp, by rw [ht]; exact hE.1, hE.2.1⟩, hE.2.2.F ht⟩) hE.2.2.2.2 hdg
/-- the cells that a callee over the world may change are ours to change -/
theorem w_free (hE : wS ω A s.heap σ H locs) (hA : ∀ q : Nat, s.heap.size ≤ q → A q) : ∀ q, va_A (wo ω σ) H.size q → A q := by
  intro q h
  rcases h with ⟨k, e, h⟩ | h
  · exact hE.2.1.2 k _ h
  · exact hA q (Nat.le_trans hE.2.2.1 h)
variable {y : MethodName} {b : ByteArray} {mL f L index : Nat} {ret' : Option FieldType} {a : Nat} {As st0 : List Value}
abbrev w_okd (y : MethodName) (n : Nat) : Prop := y.cls ≠ "java/lang/invoke/MethodHandle" ∧ y.cls ≠ "java/lang/invoke/VarHandle" ∧ (parseMethodDescriptor y.desc).map (fun d => d.parameters.length) = some n
theorem w_runV (C : bC p s m args meth c cc nL own ret) (hk : wk ω.1 cs s) (hE : wS ω A s.heap σ H locs) (hsz : ls.size = nL)
    {q : Nat} {Qc : Array Value → State → Outcome → State → Prop} {free : Addr → Prop} (hM : Met l y (ms_ws y b mL ret') (rmF f L) (wPc ω cs (.ref (ω.2.1 q) :: As) σ H.size) Qc 0 0 free)
    (hq : q < ω.2.2.2) {ci N : Nat} {T : u_T} {fs : List Value} (hf : ω.2.2.1 q (σ q) = .inr (ci, fs)) (hc : classes[ci]? = some (y.cls, T, N))
    (h1 : Cond.methodLink own index y ∈ tbG) (h2 : Cond.instanceMethod y ∈ tbG) (h3 : Cond.selects y.cls y y ∈ tbG) (h4 : Cond.initialized y.cls ∈ tbG) (h5 : Cond.code y b mL ret' ∈ tbG) {n : Nat} (hd : w_okd y n) (hn : As.length = n)
    (hst : st0 = As.reverse ++ .ref (ω.2.1 q) :: rest) (hw : (rest.map fun v => v.category).sum ≤ 8) (hdg : decode cc pc = .ok (.invokevirtual index, 3)) (hR : f + 1 ≤ R.frames ∧ 8 + (mL + 11) + L ≤ R.locals) (hc0 : cells ≤ R.cells ∧ slots ≤ R.slots) :
    va_Run p l e R s m args below meth c H locs cells slots 0 0 (F0 m pc ls st0) rest (Qc (Value.ref (ω.2.1 q) :: As).toArray) free := by
  obtain ⟨hx, hb, hml, ho, hts, -, -⟩ := C
  refine va_runV (Ts := tbG) (own := own) (C := y.cls) ⟨hx, hb, hml, ho, hts⟩ hM (cwV (ret := ret') n hts (gi_of ?_) rfl rfl rfl ⟨rfl, hd⟩ hR) ⟨wPc_blind, va_recv hk.1 hE.1 (ci := ci) (q0 := q) hc (by rw [wo_at hq, hf]), fun U hU hW => ⟨rfl, by rw [hU], by rw [hU]; exact hE.1, hk.warm hW, hE.2.1.weaken (fun _ _ _ _ => trivial)⟩⟩ rfl hn hsz hst (lv_room hw) hdg hc0
  intro w hw
  rcases List.mem_append.mp hw with h | h
  · simp only [List.mem_cons, List.not_mem_nil, or_false] at h
    rcases h with rfl | rfl | rfl | rfl
    · exact h1
    · exact h2
    · exact h3
    · exact h4
  · exact gi_ms h5 w h
theorem w_runS (C : bC p s m args meth c cc nL own ret) (hk : wk ω.1 cs s) (hE : wS ω A s.heap σ H locs) (hsz : ls.size = nL)
    {Qc : Array Value → State → Outcome → State → Prop} {free : Addr → Prop} (hM : Met l y (ms_ws y b mL ret') (rmF f L) (wPc ω cs As σ H.size) Qc 0 0 free)
    (h1 : Cond.methodLink own index y ∈ tbG) (h2 : Cond.static y ∈ tbG) (h4 : Cond.initialized y.cls ∈ tbG) (h5 : Cond.code y b mL ret' ∈ tbG) {n : Nat} (hd : w_okd y n) (hn : As.length = n)
    (hst : st0 = As.reverse ++ rest) (hw : (rest.map fun v => v.category).sum ≤ 8) (hdg : decode cc pc = .ok (.invokestatic index, 3)) (hR : f + 1 ≤ R.frames ∧ 8 + (mL + 11) + L ≤ R.locals) (hc0 : cells ≤ R.cells ∧ slots ≤ R.slots) :
    va_Run p l e R s m args below meth c H locs cells slots 0 0 (F0 m pc ls st0) rest (Qc As.toArray) free := by
  obtain ⟨hx, hb, hml, ho, hts, -, -⟩ := C
  refine va_runS (Ts := tbG) (own := own) ⟨hx, hb, hml, ho, hts⟩ hM (va_cwS (ret := ret') n hts (gi_of ?_) rfl rfl rfl hd hR) ⟨wPc_blind, fun U hU hW => ⟨rfl, by rw [hU], by rw [hU]; exact hE.1, hk.warm hW, hE.2.1.weaken (fun _ _ _ _ => trivial)⟩⟩ rfl hn hsz hst (lv_room hw) hdg hc0
  intro w hw
  rcases List.mem_append.mp hw with h | h
  · simp only [List.mem_cons, List.not_mem_nil, or_false] at h
    rcases h with rfl | rfl | rfl
    · exact h1
    · exact h2
    · exact h4
  · exact gi_ms h5 w h
theorem w_runSN (C : bC p s m args meth c cc nL own ret) (hk : wk ω.1 cs s) (hE : wS ω A s.heap σ H locs) (hsz : ls.size = nL)
    {Qc : Array Value → State → Outcome → State → Prop} {free : Addr → Prop} (hM : Met l y (ms_ws y b mL ret') (rmF f L) (wPc ω cs As σ H.size) Qc 0 0 free) {host : String}
    (h1 : va_Nw (.methodLinkNest own index y host) s) (h2 : Cond.static y ∈ tbG) (h4 : Cond.initialized y.cls ∈ tbG) (h5 : Cond.code y b mL ret' ∈ tbG) {n : Nat} (hd : w_okd y n) (hn : As.length = n)
    (hst : st0 = As.reverse ++ rest) (hw : (rest.map fun v => v.category).sum ≤ 8) (hdg : decode cc pc = .ok (.invokestatic index, 3)) (hR : f + 1 ≤ R.frames ∧ 8 + (mL + 11) + L ≤ R.locals) (hc0 : cells ≤ R.cells ∧ slots ≤ R.slots) :
    va_Run p l e R s m args below meth c H locs cells slots 0 0 (F0 m pc ls st0) rest (Qc As.toArray) free := by
  obtain ⟨hx, hb, hml, ho, hts, -, -⟩ := C
  exact va_runSN (Ts := tbG) (own := own) ⟨hx, hb, hml, ho, hts⟩ hM ⟨va_cnB (ret := ret') n hts (gi_of (gi_ms h5)) rfl rfl rfl h1 (hts _ h4) hd hR, hts _ h2, trivial⟩ ⟨wPc_blind, fun U hU hW => ⟨rfl, by rw [hU], by rw [hU]; exact hE.1, hk.warm hW, hE.2.1.weaken (fun _ _ _ _ => trivial)⟩⟩ rfl hn hsz hst (lv_room hw) hdg hc0
theorem w_ci {post : Int32 → Mem → Prop} (hE : wS ω A s.heap σ H locs) (hA : ∀ q : Nat, s.heap.size ≤ q → A q) {a : Array Value} (hr : va_Run p l e R s m args below meth c H locs cells slots 0 0 (F0 m pc ls st0) rest (va_Qi post (wB ω (va_A (wo ω σ) H.size)) (va_A (wo ω σ) H.size) a) (va_A (wo ω σ) H.size))
    (kk : ∀ (r : Int32) (σ1 : Mem) (H1 : Heap) (locs1 : List Loc), post r σ1 → wS ω A s.heap σ1 H1 locs1 → H.size ≤ H1.size → (∀ q : Nat, q < H.size → ¬ va_A (wo ω σ) H.size q → H1[q]? = H[q]?) → W p l e R s m args below meth c H1 locs1 cells slots Q (F0 m (pc + 3) ls (.int r :: rest))) :
    W p l e R s m args below meth c H locs cells slots Q (F0 m pc ls st0) :=
  va_calli hr hE.2.2 (fun q _ h => w_free hE hA q h) (w_free hE hA) (fun r u t H1 locs1 ht _ hp hB hz1 hk1 hS1 => kk r u H1 locs1 hp ⟨by rw [← ht]; exact hB.1, hB.2.weaken (fun _ _ _ h => w_free hE hA _ h), hS1⟩ hz1 hk1)
theorem w_cv {post : Mem → Prop} (hE : wS ω A s.heap σ H locs) (hA : ∀ q : Nat, s.heap.size ≤ q → A q) {a : Array Value} (hr : va_Run p l e R s m args below meth c H locs cells slots 0 0 (F0 m pc ls st0) rest (va_Qv post (wB ω (va_A (wo ω σ) H.size)) (va_A (wo ω σ) H.size) a) (va_A (wo ω σ) H.size))
    (kk : ∀ (σ1 : Mem) (H1 : Heap) (locs1 : List Loc), post σ1 → wS ω A s.heap σ1 H1 locs1 → H.size ≤ H1.size → (∀ q : Nat, q < H.size → ¬ va_A (wo ω σ) H.size q → H1[q]? = H[q]?) → W p l e R s m args below meth c H1 locs1 cells slots Q (F0 m (pc + 3) ls rest)) :
    W p l e R s m args below meth c H locs cells slots Q (F0 m pc ls st0) :=
  va_callv hr hE.2.2 (fun q _ h => w_free hE hA q h) (w_free hE hA) (fun u t H1 locs1 ht _ hp hB hz1 hk1 hS1 => kk u H1 locs1 hp ⟨by rw [← ht]; exact hB.1, hB.2.weaken (fun _ _ _ h => w_free hE hA _ h), hS1⟩ hz1 hk1)
end WR
/-! the world of an EarleyChart: 58 cells -/
def cE (cs : Nat → ClassId) (ad : Nat → Nat) (k : Nat) (r : Nat → Int32) : va_E :=
  match k with
  | 0 => .inr (5, [.int (r 0), .int (r 1), .ref (ad 1), .ref (ad 2), .ref (ad 3), .ref (ad 4), .ref (ad 5)])
  | 1 => .inr (0, [.ref (ad 6), .ref (ad 7), .ref (ad 8), .ref (ad 9), .int (r 4), .int (r 5)])
  | 2 => .inr (1, [.ref (ad 10), .int (r 1)])
  | 3 => .inr (2, [.ref (ad 1), .ref (ad 11), .ref (ad 12)])
  | 4 => .inr (3, [.ref (ad 1), .ref (ad 2), .ref (ad 13), .ref (ad 14)])
  | 5 => .inr (4, [.ref (ad 1), .ref (ad 4), .ref (ad 15), .int (r 3), .ref (ad 16), .ref (ad 17), .ref (ad 18), .int (r 7)])
  | 6 => .inl (cs 0, 8, .inl r)
  | 7 => .inl (cs 0, 8, .inl r)
  | 8 => .inl (cs 0, 24, .inl r)
  | 9 => .inl (cs 0, 24, .inl r)
  | 10 => .inl (cs 0, 8, .inl r)
  | 11 => .inl (cs 1, 9, .inr (.inr (.inr (.inr (fun i => some (ad (i + 19)))))))
  | 12 => .inl (cs 0, 6, .inl r)
  | 13 => .inl (cs 1, 6, .inr (.inr (.inr (.inr (fun i => some (ad (i + 28)))))))
  | 14 => .inl (cs 1, 24, .inr (.inr (.inr (.inr (fun i => some (ad (i + 34)))))))
  | 15 => .inl (cs 0, 8000, .inl r)
  | 16 => .inl (cs 0, 54, .inl r)
  | 17 => .inl (cs 0, 54, .inl r)
  | 18 => .inl (cs 0, 54, .inl r)
  | k + 19 => if k < 9 then .inl (cs 0, 24, .inl r) else .inl (cs 0, 81, .inl r)
theorem cE_o {cs : Nat → ClassId} {ad : Nat → Nat} {k : Nat} {r : Nat → Int32} (h : k < 9) : cE cs ad (k + 19) r = .inl (cs 0, 24, .inl r) := if_pos h
theorem cE_v {cs : Nat → ClassId} {ad : Nat → Nat} {k : Nat} {r : Nat → Int32} : cE cs ad (k + 28) r = .inl (cs 0, 81, .inl r) := by
  show (if k + 9 < 9 then (.inl (cs 0, 24, .inl r) : va_E) else .inl (cs 0, 81, .inl r)) = _
  rw [if_neg (by omega)]
theorem cE_r {cs : Nat → ClassId} {ad : Nat → Nat} {k : Nat} {r : Nat → Int32} : cE cs ad (k + 34) r = .inl (cs 0, 81, .inl r) := by
  show (if k + 15 < 9 then (.inl (cs 0, 24, .inl r) : va_E) else .inl (cs 0, 81, .inl r)) = _
  rw [if_neg (by omega)]
abbrev wE (D : va_G) (cs : Nat → ClassId) (ad : Nat → Nat) : Wd := (D, ad, cE cs ad, 58)
/-! the world of an EarleyChartModel: 10 cells -/
def cM (cs : Nat → ClassId) (ad : Nat → Nat) (k : Nat) (r : Nat → Int32) : va_E :=
  match k with
  | 0 => .inr (6, [.int (r 0), .int (r 1), .int (r 2), .int (r 3), .ref (ad 1), .ref (ad 2), .ref (ad 3), .int (r 7), .ref (ad 4), .ref (ad 5), .int (r 10), .ref (ad 6), .int (r 12), .ref (ad 7), .int (r 14), .ref (ad 8), .ref (ad 9)])
  | 1 => .inl (cs 0, 8, .inl r)
  | 2 => .inl (cs 0, 8, .inl r)
  | 3 => .inl (cs 0, 32, .inl r)
  | 4 => .inl (cs 0, 9, .inl r)
  | 5 => .inl (cs 2, 3240, .inl r)
  | 6 => .inl (cs 0, 486, .inl r)
  | 7 => .inl (cs 0, 45, .inl r)
  | 8 => .inl (cs 0, 8000, .inl r)
  | _ => .inl (cs 0, 1000, .inl r)
abbrev wM (D : va_G) (cs : Nat → ClassId) (ad : Nat → Nat) : Wd := (D, ad, cM cs ad, 10)
