/-! throws: words of the law's start at a later state; the throw of a made exception; the call of a method that may throw; the catch -/
/-- since s0 the tables are warmer and no old cell has changed -/
def xK (s0 U : State) : Prop := s0.WarmedH U.vm ∧ s0.heap.size ≤ U.heap.size ∧ ∀ q : Nat, q < s0.heap.size → U.heap[q]? = s0.heap[q]?
theorem xK.old {s0 U : State} (h : xK s0 U) {q : Nat} {cell : Cell} (hc : s0.heap[q]? = some cell) : U.heap[q]? = some cell := by
  rw [h.2.2 q (Array.getElem?_eq_some_iff.mp hc).1]; exact hc
theorem xK.on {s0 U V : State} (h : xK s0 U) (hW : U.WarmedH V.vm) {A : Nat → Prop} (hz : U.heap.size ≤ V.heap.size) (hk : ∀ q : Nat, q < U.heap.size → ¬ A q → V.heap[q]? = U.heap[q]?) (hA : ∀ q, A q → s0.heap.size ≤ q) : xK s0 V :=
  ⟨State.WarmedH.trans h.1 hW, Nat.le_trans h.2.1 hz, fun q hq => by rw [hk q (Nat.lt_of_lt_of_le hq h.2.1) (fun z => Nat.not_lt.mpr (hA q z) hq)]; exact h.2.2 q hq⟩
/-- what the law's start says -/
def xN : List Cond := [.isRef (.static "java/lang/Throwable" "UNASSIGNED_STACK" "[Ljava/lang/StackTraceElement;"), .isRef (.static "java/lang/Throwable" "SUPPRESSED_SENTINEL" "Ljava/util/List;"), .not (.castable "java/lang/IllegalArgumentException" "java/lang/IllegalStateException"), .not (.castable "java/lang/IndexOutOfBoundsException" "java/lang/IllegalArgumentException")]
def x0 (a0 : Array Value) (s0 : State) : Prop := (∀ w ∈ tables_1, w.before a0 s0 = true) ∧ ∀ w ∈ xN, w.before a0 s0 = true
section XW
variable {a0 a : Array Value} {s0 U : State}
theorem xw_tab (h : xK s0 U) {w : Cond} (hg : (w.onTables && w.keeps) = true) (hw : w.before a0 s0 = true) : w.before a U = true := word_at h.1 (Or.inl hg) hw
theorem xw_dec (h : xK s0 U) {x : MethodName} (hw : (Cond.declares x).before a0 s0 = true) : (Cond.declares x).before a U = true := by
  obtain ⟨m, meth, h1, h2, h3, h4⟩ := Cond.declares_spec hw
  have e1 : U.methodNamed? x = some m := by
    have q : (s0.setVm U.vm).methodNamed? x = some m := by rw [State.methodNamed?_setVm h.1.alike]; exact h1
    exact q
  have e2 : U.vm.method? m = some meth := by rw [h.1.alike.method?]; exact h2
  simp [Cond.before, Cond.holds, Cond.value, e1, e2, h3, h4]
theorem xw_cast (h : xK s0 U) {A B : String} (hw : (Cond.castable A B).before a0 s0 = true) : (Cond.castable A B).before a U = true := by
  obtain ⟨c, t, h1, h2, h3⟩ := Cond.castable_spec hw
  simp [Cond.before, Cond.holds, Cond.value, h.1.alike.findClass, h1, h2, h.1.alike.assignable, h3]
theorem xw_lst (h : xK s0 U) {O f d : String} (hw : (Cond.laysStatic O f d).before a0 s0 = true) : (Cond.laysStatic O f d).before a U = true := by
  obtain ⟨c, k, i, fd, aS, cell, hc, hi, hst, ha, hcell, hs, hcls, hlt, hty⟩ := Cond.laysStatic_spec (Cond.laysStatic_setVm h.1.alike hw)
  exact Cond.laysStatic_of (s := U) hc hi hst ha (h.old hcell) hs hcls hlt hty
theorem xw_ref (h : xK s0 U) {O f d : String} (hl : (Cond.laysStatic O f d).before a0 s0 = true) (hw : (Cond.isRef (.static O f d)).before a0 s0 = true) : (Cond.isRef (.static O f d)).before a U = true := by
  obtain ⟨c, k, i, fd, aS, cell, hc, hi, hst, ha, hcell, hs, hcls, hlt, hty⟩ := Cond.laysStatic_spec hl
  obtain ⟨u, hu⟩ := Cond.staticRefV hi hst ha hcell hs hw
  obtain ⟨k', hi', hek⟩ := State.fieldFound?_setVm h.1.alike hi
  have hi2 : U.fieldFound? O f d = some (c, k', i, fd) := hi'
  have he : (Term.static O f d).eval a U none [] U = some u.v := by
    simp [Term.eval, State.fieldNamed?, hi2, hst, show k'.statics = some aS by rw [hek]; exact ha, h.old hcell, hs, hu]
  have hr := u.2
  simp only [Cond.before, Cond.holds, Cond.value, he]
  generalize u.v = v at hr
  cases v <;> simp [Value.isRef] at hr ⊢
theorem xw_str (h : xK s0 U) {O t : String} {i : Nat} (hw : (Cond.stringRef O i t).before a0 s0 = true) : (Cond.stringRef O i t).before a U = true :=
  Cond.stringRef_warmed h.1 hw
theorem x_nocast {A B : String} (hw : (Cond.not (.castable A B)).before a0 s0 = true) : ∃ c t, s0.vm.findClass A = some c ∧ s0.vm.findClass B = some t ∧ s0.vm.assignable c t = false := by
  simp only [Cond.before, Cond.holds, Cond.value] at hw
  cases hc : s0.vm.findClass A with
  | none => simp [hc] at hw
  | some c =>
    cases ht : s0.vm.findClass B with
    | none => simp [hc, ht] at hw
    | some t => exact ⟨c, t, rfl, rfl, by simpa [hc, ht] using hw⟩
end XW
