/-! the law: a call of a wrapper; a cell of the script -/
section LA
variable {p : Program} {l : Launch} {e : Env} {R : Room} {s : State} {m : MethodId} {args : Array Value} {below : List Frame} {meth : Method} {c : Code} {H : Heap} {locs : List Loc} {cells slots : Nat} {Q : State → Prop}
variable {cc : ByteArray} {pc nL : Nat} {own : String} {ret : Option FieldType} {ls : Array Slot} {rest : List Value} {ω : Wd} {cs : Nat → ClassId} {A : Nat → Prop} {μ : Mem} {D : va_G} {ws : va_W}
variable {y : MethodName} {b : ByteArray} {mL f L index : Nat} {As st0 : List Value} {a0 : Array Value} {s0 : State} {tbl : List (Nat × Nat × Nat × Nat)}
theorem l_callL {post : Int32 → Mem → Prop} (C : bC p s m args meth c cc nL own ret) (hk : wk ω.1 cs s) (hE : wS ω A s.heap μ H locs) (hA : ∀ q : Nat, s.heap.size ≤ q → A q) (hx0 : x0 a0 s0) (hX : xK s0 s) (hAs : ∀ q, A q → s0.heap.size ≤ q) (hsz : ls.size = nL)
    (hM : MetL l s0 ω cs y b mL tbl f L As μ post) (h1 : Cond.methodLink own index y ∈ tbG) (h2 : Cond.static y ∈ tbG) (h4 : Cond.initialized y.cls ∈ tbG) (h5 : Cond.codeWith y b mL (some .int) tbl ∈ tables_1) {n : Nat} (hd : w_okd y n) (hn : As.length = n)
    (hst : st0 = As.reverse ++ rest) (hw : (rest.map fun v => v.category).sum ≤ 8) (hdg : decode cc pc = .ok (.invokestatic index, 3)) (hR : f + 1 ≤ R.frames ∧ 8 + (mL + 11) + L ≤ R.locals) (hc0 : cells + 1 ≤ R.cells ∧ slots + 6 ≤ R.slots)
    (kk : ∀ (r : Int32) (τ : Mem) (H1 : Heap) (locs1 : List Loc), post r τ → wS ω A s.heap τ H1 locs1 → W p l e R s m args below meth c H1 locs1 (cells + 1) (slots + 6) Q (F0 m (pc + 3) ls (.int r :: rest))) :
    W p l e R s m args below meth c H locs cells slots Q (F0 m pc ls st0) := by
  obtain ⟨hx, hb, hml, ho, hts, -, -⟩ := C
  intro T1 hT X
  have hcw : (Cond.codeWith y b mL (some .int) tbl).before args s = true := xw_tab hX rfl (hx0.1 _ h5)
  obtain ⟨mk, methM, cM, hnamed, hmethM, hcM, -, hlM, -, -, -, hsigM⟩ := Cond.codeWith_spec hcw
  have hstatic : methM.isStatic = true := Cond.static_spec hnamed hmethM (hts _ h2)
  obtain ⟨kP, hkP, -⟩ := className_of_methodNamed hnamed
  have hiP : kP.init = .initialized := Cond.initialized_spec (findClass_of_methodNamed hnamed) hkP (hts _ h4)
  have hlenA : As.length = methM.sig.parameters.length := by
    have h := hd.2.2
    rw [hsigM] at h
    have h' : methM.sig.parameters.length = n := by simpa using h
    rw [hn, h']
  obtain ⟨vm₁, X₁, hstep₁⟩ := X.invokestatic hx ho (hts _ h1) hnamed hmethM hstatic hkP hiP ⟨hd.1, hd.2.1⟩ (g := F0 m pc ls st0) rfl (argsL := As) (rest := rest) hlenA hst (by rw [hb]; exact hdg)
  have hW₁ : s.WarmedH vm₁ := X₁.warmed
  obtain ⟨kP₁, hkP₁, heP₁⟩ := hW₁.alike.2.2 _ _ hkP
  have hws : ∀ w ∈ Cond.codeWith y b mL (some .int) tbl :: tbG, w.before As.toArray (T1.setVm vm₁) = true := fun w hw0 => by
    rcases List.mem_cons.mp hw0 with rfl | h
    · exact word_at (U := T1.setVm vm₁) hW₁ (Or.inl rfl) hcw
    · exact word_at (U := T1.setVm vm₁) hW₁ (good_of_word (List.all_eq_true.mp tbG_good w h)) (hts w h)
  have hXK : xK s0 ((T1.setVm vm₁).calling (F0 m pc ls rest) mk As.toArray) :=
    hX.on (V := (T1.setVm vm₁).calling (F0 m pc ls rest) mk As.toArray) hW₁ (by show s.heap.size ≤ T1.heap.size; rw [hT]; exact hE.2.2.1) (fun z z1 z2 => by show T1.heap[z]? = _; rw [hT]; exact hE.2.2.2.1 z z1 z2) hAs
  have hPc : xPc s0 ω cs As μ H.size As.toArray ((T1.setVm vm₁).calling (F0 m pc ls rest) mk As.toArray) :=
    ⟨rfl, ⟨by show T1.heap.size = _; rw [hT], by show va_P _ _ _ T1.heap; rw [hT]; exact hE.1, (hk.warm (U := T1.setVm vm₁) hW₁).calling _ _ _, hE.2.1.weaken (fun _ _ _ _ => trivial)⟩, hXK, fun k hk0 => hAs _ (hE.2.1.2 k _ (wo_at hk0))⟩
  obtain ⟨oc, t, T2, L2, X2, hL2, e1, e2, ⟨hQ, hF1, hF2⟩, g1, g2⟩ := x_core X₁ (g := F0 m pc ls rest) rfl (hsz.trans hml.symm) (by rw [hb]; exact hdg) (hM H.size) (mk := mk)
    (show (T1.setVm vm₁).methodNamed? y = some mk by
      have z : (s.setVm vm₁).methodNamed? y = some mk := by rw [State.methodNamed?_setVm hW₁.alike]; exact hnamed
      exact z)
    (show vm₁.method? mk = some methM by rw [hW₁.alike.method?]; exact hmethM) hcM hlM (show vm₁.classes[mk.cls]? = some kP₁ from hkP₁) (by rw [heP₁]; exact hiP) _ hws hPc hR.1
    (by have z := lv_room (m := m) (pc := pc) (ls := ls) (rest := rest) hw; have z2 := hR.2; have z3 : (List.map (fun v => v.category) (F0 m pc ls rest).stack).sum = (rest.map fun v => v.category).sum := rfl; rw [z3]; show _ + (_ + 11) + L ≤ _; omega) hc0.1 hc0.2
  have hz : H.size ≤ T2.heap.size := by rw [e1]; have h : T1.heap.size ≤ t.heap.size := hF1; rw [hT] at h; exact h
  have hkp : ∀ z : Nat, z < H.size → ¬ va_A (wo ω μ) H.size z → T2.heap[z]? = H[z]? := fun z z1 z2 => by
    rw [e1]
    have h : t.heap[z]? = T1.heap[z]? := hF2 z (by show z < T1.heap.size; rw [hT]; exact z1) z2
    rw [h, hT]
  have hS2 : va_S A s.heap T2.heap (locs ++ L2) := ⟨Nat.le_trans hE.2.2.1 hz, fun z z1 z2 => by
      rw [hkp z (Nat.lt_of_lt_of_le z1 hE.2.2.1) (fun w => z2 (w_free hE hA z w))]; exact hE.2.2.2.1 z z1 z2, fun z z1 => by
      rcases List.mem_append.mp z1 with h | h
      · exact hE.2.2.2.2 z h
      · exact w_free hE hA _ (hL2 z h)⟩
  rcases hQ with ⟨r, u, hoc, hp, hB⟩ | ⟨x, K, cK, cell, hoc, htp, -⟩
  · obtain ⟨t2, a1, b1⟩ := kk r u T2.heap (locs ++ L2) hp ⟨by rw [e1]; exact hB.1, hB.2.weaken (fun _ _ _ h => w_free hE hA _ h), hS2⟩ T2 rfl X2
    exact ⟨t2, hstep₁ _ (fun acts => (g1 _ hoc acts).trans a1), b1⟩
  · exact htp.elim
/-- a cell of the script, or 0 -/
def cv (xs : Nat → Int32) (L k : Nat) : Int32 := if k < L then xs k else 0
theorem l_sld (hx : p.tables.exec = Jvm.exec) (hb : c.code = cc) {sb L j : Nat} {xs : Nat → Int32} (hXs : va_X sb L xs s s.heap) (hbl : sb < s.heap.size) (hbA : ¬ A sb) (hS : va_S A s.heap H locs) (hj : j < L) (hL : L < 2 ^ 31) (hdg : decode cc pc = .ok (.iaload, 1))
    (kk : W p l e R s m args below meth c H locs cells slots Q (F0 m (pc + 1) ls (.int (xs j) :: rest))) : W p l e R s m args below meth c H locs cells slots Q (F0 m pc ls (.int (nI j) :: .ref sb :: rest)) := by
  refine va_sld hx hb hXs hbl hbA hS (vp_in_nI hj hL) hdg ?_
  rw [nI_clamp (by omega)]
  exact kk
def cPc (sb L : Nat) (xs : Nat → Int32) (k : Nat) : Array Value → State → Prop := va_Pc [.ref sb, .int (nI k)] (fun U => va_X sb L xs U U.heap ∧ sb < U.heap.size)
def cQ (xs : Nat → Int32) (L k : Nat) : Array Value → State → Outcome → State → Prop := va_Qi (S := Unit) (fun r _ => r = cv xs L k) (fun _ _ => True) (fun _ => False)
theorem c_L_cell (l : Launch) (sb L : Nat) (xs : Nat → Int32) (k : Nat) (hL : L < 2 ^ 31) (hk : k < 2 ^ 31) : Met l yL_cell (ms_ws yL_cell bL_cell 2 (some .int)) (rmF 0 0) (cPc sb L xs k) (cQ xs L k) 0 0 (fun _ => False) := by
  refine Met.ofW (cc := bL_cell) (maxL := 2) (ret := some .int) (by decide) rfl ?_
  intro p e s m args below meth c s₁ B hml hv
  obtain ⟨rfl, hXs, hbl⟩ := hv
  have hx := B.exec
  have hb := B.bytes
  have hS : va_S (fun _ => False) s.heap s.heap [] := va_S.rf
  have hl := lv_entry [.ref sb, .int (nI k)] (n := 2) (Nat.le_of_ble_eq_true rfl)
  rw [lg_entry_eq]
  generalize (lg_sl [.ref sb, .int (nI k)] ++ List.replicate (2 - (lg_sl [.ref sb, .int (nI k)]).length) Slot.unset).toArray = ls at hl ⊢
  have hl : lv_has ls 2 [(0, .ref sb), (1, .int (nI k))] := hl
  have hend : ∀ {r : Int32}, r = cv xs L k → W p l e (rmF 0 0) s m ([.ref sb, .int (nI k)] : List Value).toArray below meth c s.heap [] 0 0 (MQ below (cQ xs L k) ([.ref sb, .int (nI k)] : List Value).toArray s 0 0 (fun _ => False)) (F0 m 13 ls [.int r]) := fun hr =>
    W.iret hx hb B.returns (fun t ht hW => ⟨⟨_, (), rfl, hr, trivial⟩, hS.F ht⟩) (fun q hq => by cases hq) dL_cell_13
  refine lv_iload_n hx hb dL_cell_0 rfl (lv_at hl 1 rfl) ?_
  refine lv_aload_n hx hb dL_cell_1 rfl (lv_at hl 0 rfl) ?_
  refine va_slen hx hb hXs hbl (fun h => h) hS dL_cell_2 ?_
  refine lv_icmp_ge (tgt := 12) hx hb dL_cell_3 (by decide) (fun h1 => ?_) (fun h1 => ?_)
  · have h1 : L ≤ k := (nI_leI hL hk).mp h1
    refine lv_iconst (v := 0) hx hb dL_cell_12 (by decide) ?_
    exact hend (by unfold cv; rw [if_neg (by omega)])
  · have h1 : ¬ L ≤ k := fun q => h1 ((nI_leI hL hk).mpr q)
    refine lv_aload_n hx hb dL_cell_6 rfl (lv_at hl 0 rfl) ?_
    refine lv_iload_n hx hb dL_cell_7 rfl (lv_at hl 1 rfl) ?_
    refine l_sld hx hb hXs hbl (fun h => h) hS (by omega) hL dL_cell_8 ?_
    refine lv_goto (tgt := 13) hx hb dL_cell_9 (by decide) ?_
    exact hend (by unfold cv; rw [if_pos (by omega)])
theorem l_cell (C : bC p s m args meth c cc nL "EarleyChartLaw" ret) {sb L k : Nat} {xs : Nat → Int32} (hXs : va_X sb L xs s s.heap) (hbl : sb < s.heap.size) (hbA : ¬ A sb) (hL : L < 2 ^ 31) (hk2 : k < 2 ^ 31) (hP : va_P D classes ws H) (hS : va_S A s.heap H locs) (hsz : ls.size = nL)
    (hst : st0 = [.int (nI k), .ref sb] ++ rest) (hw : (rest.map fun v => v.category).sum ≤ 8) (hdg : decode cc pc = .ok (.invokestatic 49, 3)) (hR : 1 ≤ R.frames ∧ 21 ≤ R.locals) (hc0 : cells ≤ R.cells ∧ slots ≤ R.slots)
    (kk : ∀ (H1 : Heap) (locs1 : List Loc), va_P D classes ws H1 → va_S A s.heap H1 locs1 → W p l e R s m args below meth c H1 locs1 cells slots Q (F0 m (pc + 3) ls (.int (cv xs L k) :: rest))) :
    W p l e R s m args below meth c H locs cells slots Q (F0 m pc ls st0) := by
  obtain ⟨hx, hb, hml, ho, hts, -, -⟩ := C
  have hr := va_runS (p := p) (l := l) (e := e) (R := R) (s := s) (m := m) (args := args) (below := below) (meth := meth) (c := c) (H := H) (locs := locs) (cells := cells) (slots := slots) (g := F0 m pc ls st0) (rest := rest) (As := [.ref sb, .int (nI k)]) (Ts := tbG) (own := "EarleyChartLaw") (index := 49) ⟨hx, hb, hml, ho, hts⟩ (c_L_cell l sb L xs k hL hk2) (va_cwS (ret := some .int) 2 hts (gi_of (fun w hw => by
      rcases List.mem_append.mp hw with h | h
      · simp only [List.mem_cons, List.not_mem_nil, or_false] at h
        rcases h with rfl | rfl | rfl
        · exact tw_300
        · exact tw_301
        · exact tw_0
      · exact gi_ms tw_302 w h)) rfl rfl rfl (by decide +kernel) ⟨by show 0 + 1 ≤ _; omega, by show 8 + (2 + 11) + 0 ≤ _; omega⟩)
    ⟨fun a U g mk q => ⟨q.1, va_X.moved (u := U) (U := U.calling g mk a) (Vm.Alike.refl U.vm) q.2.1, q.2.2⟩, fun U hU hW => ⟨rfl, va_X.moved hW.alike (by rw [hU]; exact hXs.kept (hS.2.1 sb hbl hbA)), by rw [hU]; exact Nat.lt_of_lt_of_le hbl hS.1⟩⟩ rfl rfl hsz hst (lv_room hw) hdg hc0
  refine va_calli hr hS (fun q _ h => h.elim) (fun q h => h.elim) (fun r u t H1 locs1 ht _ hp hB hz1 hk1 hS1 => ?_)
  subst hp
  exact kk H1 locs1 (hP.kept (fun k x hx9 => hk1 x.1 ((hP k x hx9).lt) (fun z => z))) hS1
end LA
