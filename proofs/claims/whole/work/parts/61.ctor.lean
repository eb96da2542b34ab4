/-! constructors: rows that make cells, over a world as a list -/
theorem xw_over {s0 U : State} {a0 a : Array Value} (h : xK s0 U) {ty : FieldType} (hw : (Cond.arrayOver ty).before a0 s0 = true) : (Cond.arrayOver ty).before a U = true := by
  have h1 : (Cond.arrayOver ty).before a0 (s0.setVm U.vm) = true := by rw [Cond.arrayOver_setVmC h.1.alike]; exact hw
  exact h1
/-- what a call over the last cells leaves beside the rest -/
theorem j_join {D : va_G} {A : Nat → Prop} {wr wc w1 : va_W} {H H1 : Heap} (hP : va_P D classes (wr ++ wc) H) (hD : va_D A (wr ++ wc)) (hA : ∀ q, H.size ≤ q → A q) (hk : ∀ q : Nat, q < H.size → ¬ va_A wc H.size q → H1[q]? = H[q]?) (hP1 : va_P D classes w1 H1) (hD1 : va_D (va_A wc H.size) w1) : va_P D classes (wr ++ w1) H1 ∧ va_D A (wr ++ w1) := by
  have hl : ∀ (i : Nat) (x : Nat × va_E), wr[i]? = some x → (wr ++ wc)[i]? = some x := fun i x h => by
    rw [List.getElem?_append_left (List.getElem?_eq_some_iff.mp h).1]; exact h
  have hr : ∀ (i : Nat) (x : Nat × va_E), wc[i]? = some x → (wr ++ wc)[wr.length + i]? = some x := fun i x h => by
    rw [List.getElem?_append_right (by omega), Nat.add_sub_cancel_left]; exact h
  have hap : ∀ (i : Nat) (x : Nat × va_E), wr[i]? = some x → ¬ va_A wc H.size x.1 := fun i x h z => by
    rcases z with ⟨k, e, z⟩ | z
    · have hi := (List.getElem?_eq_some_iff.mp h).1
      have := hD.1 _ _ _ _ (hl i x h) (hr k _ z) rfl
      omega
    · exact Nat.not_lt.mpr z (hP i x (hl i x h)).lt
  have hAw : ∀ q, va_A wc H.size q → A q := fun q z => by
    rcases z with ⟨k, e, z⟩ | z
    · exact hD.2 _ _ (hr k _ z)
    · exact hA q z
  refine ⟨(fun k x hx => ?_ : va_P D classes (wr ++ w1) H1), fun i j x y hx hy he => ?_, fun k x hx => ?_⟩
  · by_cases hlt : k < wr.length
    · rw [List.getElem?_append_left hlt] at hx
      have h0 := hP k x (hl k x hx)
      exact h0.kept (hk _ h0.lt (hap k x hx))
    · rw [List.getElem?_append_right (by omega)] at hx
      exact hP1 _ x hx
  · by_cases hi : i < wr.length
    · rw [List.getElem?_append_left hi] at hx
      by_cases hj : j < wr.length
      · rw [List.getElem?_append_left hj] at hy
        exact hD.1 _ _ _ _ (hl i x hx) (hl j y hy) he
      · rw [List.getElem?_append_right (by omega)] at hy
        exact absurd (he ▸ hD1.2 _ y hy) (hap i x hx)
    · rw [List.getElem?_append_right (by omega)] at hx
      by_cases hj : j < wr.length
      · rw [List.getElem?_append_left hj] at hy
        exact absurd (he ▸ hD1.2 _ x hx) (hap j y hy)
      · rw [List.getElem?_append_right (by omega)] at hy
        have := hD1.1 _ _ _ _ hx hy he
        omega
  · by_cases hlt : k < wr.length
    · rw [List.getElem?_append_left hlt] at hx
      exact hD.2 k x (hl k x hx)
    · rw [List.getElem?_append_right (by omega)] at hx
      exact hAw _ (hD1.2 _ x hx)
/-- int rows, boolean rows, long rows, of n cells: all 0 -/
abbrev zI (cs : Nat → ClassId) (n : Nat) : va_E := .inl (cs 0, n, .inl (fun _ => 0))
theorem z_cell (cA : ClassId) (n : Nat) : vp_cell cA (n, .inl (fun _ => 0)) = arrV cA n (fun _ => .int 0) := rfl
/-- the contract of a constructor over its own cells wc -/
def MetC (l : Launch) (s0 : State) (D : va_G) (cs : Nat → ClassId) (y : MethodName) (b : ByteArray) (mL f L mc ms : Nat) (As : List Value) (wc : va_W) (post : va_W → Prop) : Prop :=
  ∀ sz : Nat, Met l y (ms_ws y b mL none) { frames := f, cells := mc, slots := ms, locals := L } (va_Pc As (fun U => (U.heap.size = sz ∧ va_P D classes wc U.heap ∧ wk D cs U ∧ va_D (fun _ => True) wc) ∧ xK s0 U ∧ ∀ (k : Nat) (x : Nat × va_E), wc[k]? = some x → s0.heap.size ≤ x.1)) (va_Qv post (fun w t => va_P D classes w t.heap ∧ va_D (va_A wc sz) w) (va_A wc sz)) mc ms (va_A wc sz)
theorem MetC.start {l : Launch} {s0 : State} {D : va_G} {cs : Nat → ClassId} {y : MethodName} {b : ByteArray} {mL f L mc ms : Nat} {As : List Value} {wc : va_W} {post : va_W → Prop} (hy : plainName y.cls = true) (hn : (lg_sl As).length ≤ mL)
    (body : ∀ (p : Program) (e : Env) (s : State) (m : MethodId) (below : List Frame) (meth : Method) (c : Code) (A : Nat → Prop) (ls : Array Slot), bC p s m As.toArray meth c b mL y.cls none → meth.name = y.name → wk D cs s → xK s0 s → (∀ q, A q → s0.heap.size ≤ q) → (∀ q : Nat, s.heap.size ≤ q → A q) → va_P D classes wc s.heap → va_D A wc → va_S A s.heap s.heap [] → lv_has ls mL (lv_args 0 As) →
      W p l e { frames := f, cells := mc, slots := ms, locals := L } s m As.toArray below meth c s.heap [] 0 0 (MQ below (va_Qv post (fun w t => va_P D classes w t.heap ∧ va_D A w) A) As.toArray s mc ms A) (F0 m 0 ls [])) : MetC l s0 D cs y b mL f L mc ms As wc post := by
  intro sz
  refine Met.ofW (cc := b) (maxL := mL) (ret := none) hy rfl ?_
  intro p e s m args below meth c s₁ B hml hv
  obtain ⟨rfl, ⟨hsz, hP, hK, hD0⟩, hX, hO⟩ := hv
  subst hsz
  have hts := atoms_spec (ws := ms_ws y b mL none) B.pre
  have hl := lv_entry As (n := mL) hn
  rw [lg_entry_eq]
  exact body p e s m below meth c (va_A wc s.heap.size) _ ⟨B.exec, B.bytes, hml, findClass_of_methodNamed B.named, fun w hw => hts w (List.mem_cons_of_mem _ hw), B.returns, B.notSynchronized⟩ (name_of_methodNamed B.named B.method).1 hK hX (fun q h => by
    rcases h with ⟨k, e, h⟩ | h
    · exact hO k _ h
    · exact Nat.le_trans hX.2.1 h) (fun q h => Or.inr h) hP hD0.self va_S.rf hl
section CT
variable {p : Program} {l : Launch} {e : Env} {R : Room} {s : State} {m : MethodId} {args : Array Value} {below : List Frame} {meth : Method} {c : Code} {H : Heap} {locs : List Loc} {cells slots : Nat} {Q : State → Prop}
variable {cc : ByteArray} {pc nL : Nat} {own : String} {ret : Option FieldType} {ls : Array Slot} {rest : List Value} {D : va_G} {cs : Nat → ClassId} {A : Nat → Prop} {ws : va_W} {s0 : State} {a0 : Array Value}
/-- new int[n] (boolean[n]: t0 = 2, long[n]: t0 = 3) -/
theorem n_newa (C : bC p s m args meth c cc nL own ret) (hk : wk D cs s) (hP : va_P D classes ws H) (hD : va_D A ws) (hS : va_S A s.heap H locs) (hA : ∀ q, s.heap.size ≤ q → A q) {atype : ArrayType} {ty : FieldType} (hty : newarray.typeOf atype = ty) (harr : Cond.arrayClass ty ∈ tbG) (t0 : Nat) (ht : (tysL cs)[t0]? = some (cs t0, ty)) (hra : va_RA s (cs t0) ty = (s.vm.findClass ("[" ++ ty.toString) = some (cs t0)))
    {N' : Nat} {a1 : vp_A} (ha : ∀ cA : ClassId, vp_cell cA a1 = arrV cA N' (fun _ => defaultValue ty)) (hN : N' < 2 ^ 31) (hbytes : N' * componentBytes ty ≤ 536870912) (hcells : cells + 1 ≤ R.cells) (hslots : slots + N' ≤ R.slots) (hdg : decode cc pc = .ok (.newarray atype, 2))
    (kk : ∀ (q : Nat) (H1 : Heap), va_P D classes (ws ++ [(q, .inl (cs t0, a1))]) H1 → va_D A (ws ++ [(q, .inl (cs t0, a1))]) → va_S A s.heap H1 locs → W p l e R s m args below meth c H1 locs (cells + 1) (slots + N') Q (F0 m (pc + 2) ls (.ref q :: rest))) : W p l e R s m args below meth c H locs cells slots Q (F0 m pc ls (.int (nI N') :: rest)) := by
  obtain ⟨hx, hb, hml, ho, hts, -, -⟩ := C
  refine va_newa (tys := []) hx hb (by rw [hty]; exact hts _ harr) hty ⟨hk.1.1, fun k q h => by simp at h⟩ hP hD hS hA ha (nI_pos hN) (nI_clamp hN) hbytes hcells hslots hdg (fun q cA H1 hK1 hP1 hD1 hS1 => ?_)
  have h1 := (hK1.2 0 (cA, ty) rfl).2
  have h2 := (hk.1.2 t0 _ ht).2
  have e1 : cA = cs t0 := by
    rw [hra] at h2
    have h1' : s.vm.findClass ("[" ++ ty.toString) = some cA := by
      cases ty with
      | object C => obtain ⟨_, _, _, _, _, h4⟩ := h1; exact h4
      | _ => exact h1
    exact Option.some.inj (h1'.symm.trans h2)
  subst e1
  exact kk q H1 hP1 hD1 hS1
theorem n_outer (cA : ClassId) (N h0 : Nat) : ∀ i : Nat, Jvm.Free.Multi.outerC cA N h0 i = arrV cA N (fun j => va_rf (if j < i then some (h0 + 1 + j) else none))
  | 0 => by
    show ({ cls := cA, slots := Array.replicate N .null, vm := .none } : Cell) = _
    rw [arrV_new]
    exact congrArg (arrV cA N) (funext fun j => by simp [va_rf])
  | i + 1 => by
    show (Jvm.Free.Multi.outerC cA N h0 i).setSlot i (.ref (h0 + 1 + i)) = _
    rw [n_outer cA N h0 i, arrV_store]
    refine congrArg (arrV cA N) (funext fun j => ?_)
    by_cases e : j = i
    · subst e; simp [updV, va_rf]
    · by_cases h : j < i
      · simp [updV, e, h, Nat.lt_succ_of_lt h]
      · simp [updV, e, h, show ¬ j < i + 1 by omega]
theorem n_arrV {cA : ClassId} {N : Nat} {f g : Nat → Value} (h : ∀ j, j < N → f j = g j) : arrV cA N f = arrV cA N g := by
  unfold arrV
  congr 1
  apply Array.ext_getElem?
  intro i
  by_cases hi : i < N
  · simp [hi, h i hi]
  · simp [hi]
/-- new int[N][K] -/
theorem n_mna (C : bC p s m args meth c cc nL own ret) (hk : wk D cs s) (hx0 : x0 a0 s0) (hX : xK s0 s) (hP : va_P D classes ws H) (hD : va_D A ws) (hS : va_S A s.heap H locs) (hA : ∀ q, s.heap.size ≤ q → A q) {index N' K' : Nat} (hcl : Cond.classLink own index "[[I" ∈ tbG) (hai : Cond.arrayClass .int ∈ tbG) (hN : N' < 1000) (hK : K' < 1000) (hcells : cells + (1 + N') ≤ R.cells) (hslots : slots + (N' + N' * K') ≤ R.slots) (hdg : decode cc pc = .ok (.multianewarray index 2, 4))
    (kk : ∀ (q : Nat) (r : Nat → Nat) (H1 : Heap), va_P D classes (ws ++ ((q, .inl (cs 1, N', .inr (.inr (.inr (.inr (fun i => some (r i))))))) :: (List.range N').map (fun i => (r i, zI cs K')))) H1 → va_D A (ws ++ ((q, .inl (cs 1, N', .inr (.inr (.inr (.inr (fun i => some (r i))))))) :: (List.range N').map (fun i => (r i, zI cs K')))) → va_S A s.heap H1 locs →
      W p l e R s m args below meth c H1 locs (cells + 1 + N') (slots + N' + N' * K') Q (F0 m (pc + 4) ls (.ref q :: rest))) : W p l e R s m args below meth c H locs cells slots Q (F0 m pc ls (.int (nI K') :: .int (nI N') :: rest)) := by
  obtain ⟨hx, hb, hml, ho, hts, -, -⟩ := C
  intro T hT Xs
  have cN : (nI N').toNatClampNeg = N' := nI_clamp (by omega)
  have cK : (nI K').toNatClampNeg = K' := nI_clamp (by omega)
  obtain ⟨vm₁, cA, comp, -, fA, fC, -, -, X', step⟩ := Xs.multianewarray2F hx ho (ty := .int) (hts _ hcl) (xw_over hX (hx0.1 _ (List.mem_of_getElem? (i := 85) (by decide +kernel)))) (hts _ hai) (g := F0 m pc ls (.int (nI K') :: .int (nI N') :: rest)) rfl (by rw [hb]; exact hdg) rfl (nI_pos (by omega)) (nI_pos (by omega)) (by rw [cN]; omega) (by rw [cK]; show K' * 4 ≤ _; omega) (by rw [cK]; omega) rfl rfl (by rw [cN]; exact hcells) (by rw [cN, cK]; exact hslots)
  rw [cN, cK] at X' step
  have e1 : cA = cs 1 := Option.some.inj (fA.symm.trans (hk.1.2 1 _ rfl).2)
  have e0 : comp = cs 0 := Option.some.inj (fC.symm.trans (hk.1.2 0 _ rfl).2)
  subst e1 e0
  generalize hF : Jvm.Free.Multi.fill (T.setVm vm₁) (cs 1) (cs 0) N' K' (defaultValue .int) N' = F at X' step
  have hTh : (T.setVm vm₁).heap = H := hT
  obtain ⟨f1, f2, -, -⟩ := Jvm.Free.Multi.fill_facts (T.setVm vm₁) (cs 1) (cs 0) N' K' (defaultValue .int) N'
  rw [hF, hTh] at f1 f2
  have hold : ∀ x : Nat, x < H.size → F.heap[x]? = H[x]? := fun x hx9 => by
    have h := Jvm.Free.Multi.fill_old (T.setVm vm₁) (cs 1) (cs 0) N' K' (defaultValue .int) (a := x) (by rw [hTh]; exact hx9) N'
    rw [hF, hTh] at h
    exact h
  have hrow : ∀ j : Nat, j < N' → F.heap[H.size + 1 + j]? = some (vp_cell (cs 0) (K', .inl (fun _ => 0))) := fun j hj => by
    have h := Jvm.Free.Multi.fill_inner (T.setVm vm₁) (cs 1) (cs 0) N' K' (defaultValue .int) N' j hj
    rw [hF, hTh] at h
    rw [h, z_cell]
    exact congrArg some (arrV_new (cs 0) K' (.int 0))
  have hout : Jvm.Free.Multi.outerC (cs 1) N' H.size N' = vp_cell (cs 1) (N', .inr (.inr (.inr (.inr (fun i => some (H.size + 1 + i)))))) := by
    rw [n_outer]
    exact n_arrV (cA := cs 1) (N := N') (f := fun j => va_rf (if j < N' then some (H.size + 1 + j) else none)) (g := fun j => va_rf (some (H.size + 1 + j))) (fun j hj => by show va_rf _ = va_rf _; rw [if_pos hj])
  rw [hout] at f2
  have hPn : va_P D classes (ws ++ ((H.size, .inl (cs 1, N', .inr (.inr (.inr (.inr (fun i => some (H.size + 1 + i))))))) :: (List.range N').map (fun i => (H.size + 1 + i, zI cs K')))) F.heap := by
    intro k x hx9
    by_cases h : k < ws.length
    · rw [List.getElem?_append_left h] at hx9
      have h0 := hP k x hx9
      exact h0.kept (hold _ h0.lt)
    · rw [List.getElem?_append_right (by omega)] at hx9
      generalize k - ws.length = j at hx9
      cases j with
      | zero => cases hx9; exact f2
      | succ j =>
        rw [List.getElem?_cons_succ, List.getElem?_map] at hx9
        by_cases hj : j < N'
        · rw [List.getElem?_range hj] at hx9
          cases hx9
          exact hrow j hj
        · rw [List.getElem?_eq_none (by simpa using hj)] at hx9
          cases hx9
  have hDn : va_D A (ws ++ ((H.size, .inl (cs 1, N', .inr (.inr (.inr (.inr (fun i => some (H.size + 1 + i))))))) :: (List.range N').map (fun i => (H.size + 1 + i, zI cs K')))) := by
    refine ⟨fun i j x y hx9 hy9 he => ?_, fun k x hx9 => ?_⟩
    · have hpos : ∀ (k : Nat) (z : Nat × va_E), (ws ++ ((H.size, .inl (cs 1, N', .inr (.inr (.inr (.inr (fun i => some (H.size + 1 + i))))))) :: (List.range N').map (fun i => (H.size + 1 + i, zI cs K'))))[k]? = some z → (k < ws.length ∧ ws[k]? = some z ∧ z.1 < H.size) ∨ (ws.length ≤ k ∧ z.1 = H.size + (k - ws.length)) := fun k z hz => by
        by_cases h : k < ws.length
        · rw [List.getElem?_append_left h] at hz
          exact Or.inl ⟨h, hz, (hP k z hz).lt⟩
        · rw [List.getElem?_append_right (by omega)] at hz
          refine Or.inr ⟨by omega, ?_⟩
          generalize k - ws.length = j at hz
          cases j with
          | zero => cases hz; rfl
          | succ j =>
            rw [List.getElem?_cons_succ, List.getElem?_map] at hz
            by_cases hj : j < N'
            · rw [List.getElem?_range hj] at hz
              cases hz
              show H.size + 1 + j = _; omega
            · rw [List.getElem?_eq_none (by simpa using hj)] at hz
              cases hz
      rcases hpos i x hx9 with ⟨i1, i2, i3⟩ | ⟨i1, i2⟩ <;> rcases hpos j y hy9 with ⟨j1, j2, j3⟩ | ⟨j1, j2⟩
      · exact hD.1 i j x y i2 j2 he
      · omega
      · omega
      · omega
    · by_cases h : k < ws.length
      · rw [List.getElem?_append_left h] at hx9
        exact hD.2 k x hx9
      · rw [List.getElem?_append_right (by omega)] at hx9
        refine hA _ (Nat.le_trans hS.1 ?_)
        generalize k - ws.length = j at hx9
        cases j with
        | zero => cases hx9; exact Nat.le_refl _
        | succ j =>
          rw [List.getElem?_cons_succ, List.getElem?_map] at hx9
          by_cases hj : j < N'
          · rw [List.getElem?_range hj] at hx9
            cases hx9
            show H.size ≤ H.size + 1 + j; omega
          · rw [List.getElem?_eq_none (by simpa using hj)] at hx9
            cases hx9
  obtain ⟨t, a1, b1⟩ := kk H.size (fun i => H.size + 1 + i) F.heap hPn hDn ⟨by rw [f1]; have := hS.1; omega, fun x h1 h2 => (hold x (Nat.lt_of_lt_of_le h1 hS.1)).trans (hS.2.1 x h1 h2), hS.2.2⟩ F rfl X'
  refine ⟨t, step t ?_, b1⟩
  rw [hT]
  exact a1
theorem n_pre {wr wc : va_W} {As : List Value} (hk : wk D cs s) (hX : xK s0 s) (hAs : ∀ q, A q → s0.heap.size ≤ q) (hP : va_P D classes (wr ++ wc) H) (hD : va_D A (wr ++ wc)) (hS : va_S A s.heap H locs) : PreS s H (va_Pc As (fun U => (U.heap.size = H.size ∧ va_P D classes wc U.heap ∧ wk D cs U ∧ va_D (fun _ => True) wc) ∧ xK s0 U ∧ ∀ (k : Nat) (x : Nat × va_E), wc[k]? = some x → s0.heap.size ≤ x.1)) As := by
  have hr : ∀ (i : Nat) (x : Nat × va_E), wc[i]? = some x → (wr ++ wc)[wr.length + i]? = some x := fun i x h => by
    rw [List.getElem?_append_right (by omega), Nat.add_sub_cancel_left]; exact h
  refine ⟨fun a U g mk q => ?_, fun U hU hW => ⟨rfl, ⟨by rw [hU], fun k x h => by rw [hU]; exact hP _ x (hr k x h), hk.warm hW, fun i j x y h1 h2 he => ?_, fun _ _ _ => trivial⟩, hX.on hW (A := A) (by rw [hU]; exact hS.1) (fun q h1 h2 => by rw [hU]; exact hS.2.1 q h1 h2) hAs, fun k x h => hAs _ (hD.2 _ _ (hr k x h))⟩⟩
  · obtain ⟨q0, ⟨q1, qP, qK, qD⟩, qX, qO⟩ := q
    exact ⟨q0, ⟨q1, qP, qK.calling g mk a, qD⟩, qX, qO⟩
  · have := hD.1 _ _ _ _ (hr i x h1) (hr j y h2) he
    omega
variable {y : MethodName} {b : ByteArray} {mL f L mc ms index : Nat} {As st0 : List Value} {wr wc : va_W} {post : va_W → Prop}
theorem n_back (hP : va_P D classes (wr ++ wc) H) (hD : va_D A (wr ++ wc)) (hS : va_S A s.heap H locs) (hA : ∀ q, s.heap.size ≤ q → A q) {a : Array Value} (hr : va_Run p l e R s m args below meth c H locs cells slots mc ms (F0 m pc ls st0) rest (va_Qv post (fun w t => va_P D classes w t.heap ∧ va_D (va_A wc H.size) w) (va_A wc H.size) a) (va_A wc H.size))
    (kk : ∀ (w : va_W) (H1 : Heap) (locs1 : List Loc), post w → va_P D classes (wr ++ w) H1 → va_D A (wr ++ w) → va_S A s.heap H1 locs1 → W p l e R s m args below meth c H1 locs1 (cells + mc) (slots + ms) Q (F0 m (pc + 3) ls rest)) : W p l e R s m args below meth c H locs cells slots Q (F0 m pc ls st0) := by
  have hr2 : ∀ (i : Nat) (x : Nat × va_E), wc[i]? = some x → (wr ++ wc)[wr.length + i]? = some x := fun i x h => by
    rw [List.getElem?_append_right (by omega), Nat.add_sub_cancel_left]; exact h
  have hF : ∀ q, va_A wc H.size q → A q := fun q h => by
    rcases h with ⟨k, e, h⟩ | h
    · exact hD.2 _ _ (hr2 k _ h)
    · exact hA q (Nat.le_trans hS.1 h)
  refine va_callv hr hS (fun q _ h => hF q h) hF (fun w t H1 locs1 ht _ hp hB hz1 hk1 hS1 => ?_)
  obtain ⟨h1, h2⟩ := j_join hP hD (fun q h => hA q (Nat.le_trans hS.1 h)) hk1 (by rw [← ht]; exact hB.1) hB.2
  exact kk w H1 locs1 hp h1 h2 hS1
theorem n_ctor (C : bC p s m args meth c cc nL own ret) (hk : wk D cs s) (hX : xK s0 s) (hAs : ∀ q, A q → s0.heap.size ≤ q) (hP : va_P D classes (wr ++ wc) H) (hD : va_D A (wr ++ wc)) (hS : va_S A s.heap H locs) (hA : ∀ q, s.heap.size ≤ q → A q) (hsz : ls.size = nL) {q : Nat} (hM : MetC l s0 D cs y b mL f L mc ms (.ref q :: As) wc post)
    (h1 : Cond.methodLink own index y ∈ tbG) (h2 : Cond.instanceMethod y ∈ tbG) (h4 : Cond.initialized y.cls ∈ tbG) (h5 : Cond.code y b mL none ∈ tbG) (hy1 : y.name = "<init>") {n : Nat} (hd : w_okd y n) (hn : As.length = n) (hst : st0 = As.reverse ++ .ref q :: rest) (hw : (rest.map fun v => v.category).sum ≤ 8) (hdg : decode cc pc = .ok (.invokespecial index, 3)) (hR : f + 1 ≤ R.frames ∧ 8 + (mL + 11) + L ≤ R.locals) (hc0 : cells + mc ≤ R.cells ∧ slots + ms ≤ R.slots)
    (kk : ∀ (w : va_W) (H1 : Heap) (locs1 : List Loc), post w → va_P D classes (wr ++ w) H1 → va_D A (wr ++ w) → va_S A s.heap H1 locs1 → W p l e R s m args below meth c H1 locs1 (cells + mc) (slots + ms) Q (F0 m (pc + 3) ls rest)) : W p l e R s m args below meth c H locs cells slots Q (F0 m pc ls st0) := by
  obtain ⟨hx, hb, hml, ho, hts, -, -⟩ := C
  exact n_back hP hD hS hA (va_runI (Ts := tbG) (own := own) ⟨hx, hb, hml, ho, hts⟩ (hM H.size) (cwI n hts (gi_of (gi_ms h5)) rfl rfl rfl (hts _ h4) (hts _ h1) (hts _ h2) hy1 hd hR) (n_pre hk hX hAs hP hD hS) rfl hn hsz hst (lv_room hw) hdg hc0) kk
theorem n_ctorN (C : bC p s m args meth c cc nL own ret) (hk : wk D cs s) (hX : xK s0 s) (hAs : ∀ q, A q → s0.heap.size ≤ q) (hP : va_P D classes (wr ++ wc) H) (hD : va_D A (wr ++ wc)) (hS : va_S A s.heap H locs) (hA : ∀ q, s.heap.size ≤ q → A q) (hsz : ls.size = nL) {q : Nat} (hM : MetC l s0 D cs y b mL f L mc ms (.ref q :: As) wc post)
    {host : String} (h1 : va_Nw (.methodLinkNest own index y host) s) (h2 : Cond.instanceMethod y ∈ tbG) (h4 : Cond.initialized y.cls ∈ tbG) (h5 : Cond.code y b mL none ∈ tbG) (hy1 : y.name = "<init>") {n : Nat} (hd : w_okd y n) (hn : As.length = n) (hst : st0 = As.reverse ++ .ref q :: rest) (hw : (rest.map fun v => v.category).sum ≤ 8) (hdg : decode cc pc = .ok (.invokespecial index, 3)) (hR : f + 1 ≤ R.frames ∧ 8 + (mL + 11) + L ≤ R.locals) (hc0 : cells + mc ≤ R.cells ∧ slots + ms ≤ R.slots)
    (kk : ∀ (w : va_W) (H1 : Heap) (locs1 : List Loc), post w → va_P D classes (wr ++ w) H1 → va_D A (wr ++ w) → va_S A s.heap H1 locs1 → W p l e R s m args below meth c H1 locs1 (cells + mc) (slots + ms) Q (F0 m (pc + 3) ls rest)) : W p l e R s m args below meth c H locs cells slots Q (F0 m pc ls st0) := by
  obtain ⟨hx, hb, hml, ho, hts, -, -⟩ := C
  exact n_back hP hD hS hA (va_runIN (Ts := tbG) (own := own) ⟨hx, hb, hml, ho, hts⟩ (hM H.size) ⟨va_cnB (ret := none) n hts (gi_of (gi_ms h5)) rfl rfl rfl h1 (hts _ h4) hd hR, hy1, hts _ h2⟩ (n_pre hk hX hAs hP hD hS) rfl hn hsz hst (lv_room hw) hdg hc0) kk
/-- how many there are: x if it is 1 .. 6, else 4 -/
def vO (x : Int32) : Nat := if x < nI 1 ∨ nI 6 < x then 4 else x.toNatClampNeg
theorem vO_le (x : Int32) : 1 ≤ vO x ∧ vO x ≤ 6 := by
  unfold vO
  by_cases h : x < nI 1 ∨ nI 6 < x
  · rw [if_pos h]; omega
  · rw [if_neg h]
    have h1 : ¬ x < nI 1 := fun q => h (Or.inl q)
    have h2 : ¬ nI 6 < x := fun q => h (Or.inr q)
    obtain ⟨j, hj, rfl⟩ := nI_of (x := x) (fun q => h1 (Int32.lt_trans q (by decide)))
    rw [nI_clamp hj]
    constructor
    · rcases Nat.lt_or_ge j 1 with z | z
      · exact absurd ((nI_ltI hj (by decide)).mpr z) h1
      · exact z
    · rcases Nat.lt_or_ge 6 j with z | z
      · exact absurd ((nI_ltI (by decide) hj).mpr z) h2
      · exact z
theorem vO_eq {x : Int32} (h1 : ¬ x < nI 1) (h2 : ¬ nI 6 < x) : x = nI (vO x) := by
  unfold vO
  rw [if_neg (by intro h; rcases h with h | h; exact h1 h; exact h2 h)]
  obtain ⟨j, hj, rfl⟩ := nI_of (x := x) (fun q => h1 (Int32.lt_trans q (by decide)))
  rw [nI_clamp hj]
theorem n_sel (hx : p.tables.exec = Jvm.exec) (hb : c.code = cc) {k : Fin 4} {i : Nat} {x : Int32} (hi : (k : Nat) = i) (hl : ls[i]? = some (.val (.int x)))
    (d0 : decode cc pc = .ok (.iload_n k, 1)) (d1 : decode cc (pc + 1) = .ok (.iconst 1, 1)) (d2 : decode cc (pc + 2) = .ok (.if_icmp .lt 13, 3)) (d5 : decode cc (pc + 5) = .ok (.iload_n k, 1)) (d6 : decode cc (pc + 6) = .ok (.bipush 6, 2)) (d8 : decode cc (pc + 8) = .ok (.if_icmp .gt 7, 3)) (d11 : decode cc (pc + 11) = .ok (.iload_n k, 1)) (d12 : decode cc (pc + 12) = .ok (.goto 4, 3)) (d15 : decode cc (pc + 15) = .ok (.iconst 4, 1))
    (K : W p l e R s m args below meth c H locs cells slots Q (F0 m (pc + 16) ls (.int (nI (vO x)) :: rest))) : W p l e R s m args below meth c H locs cells slots Q (F0 m pc ls rest) := by
  have K4 : x < nI 1 ∨ nI 6 < x → W p l e R s m args below meth c H locs cells slots Q (F0 m (pc + 15) ls rest) := fun h =>
    lv_iconst (v := nI (vO x)) hx hb d15 (by unfold vO; rw [if_pos h]; decide) K
  refine lv_iload_n hx hb d0 hi hl ?_
  refine lv_iconst (v := nI 1) hx hb d1 (by decide) ?_
  refine lv_icmp_lt (tgt := pc + 15) hx hb d2 (by omega) (fun h1 => K4 (Or.inl h1)) (fun h1 => ?_)
  refine lv_iload_n hx hb d5 hi hl ?_
  refine lv_bipush (v := nI 6) hx hb d6 (by decide) ?_
  refine lv_icmp_gt (tgt := pc + 15) hx hb d8 (by omega) (fun h2 => K4 (Or.inr h2)) (fun h2 => ?_)
  refine lv_iload_n hx hb d11 hi hl ?_
  refine lv_goto (tgt := pc + 16) hx hb d12 (by omega) ?_
  exact w_top (vO_eq h1 h2) K
end CT
