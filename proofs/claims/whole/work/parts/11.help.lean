section WH
variable {p : Program} {l : Launch} {e : Env} {R : Room} {s : State} {m : MethodId} {args : Array Value} {below : List Frame} {meth : Method} {c : Code} {H : Heap} {locs : List Loc} {cells slots : Nat} {Q : State → Prop}
variable {cc : ByteArray} {pc nL : Nat} {own : String} {ret : Option FieldType} {ls : Array Slot} {rest : List Value} {ω : Wd} {cs : Nat → ClassId} {A : Nat → Prop} {σ : Mem}
theorem w_top {x y : Int32} (h : x = y) (kk : W p l e R s m args below meth c H locs cells slots Q (F0 m pc ls (.int y :: rest))) : W p l e R s m args below meth c H locs cells slots Q (F0 m pc ls (.int x :: rest)) := h ▸ kk
theorem w_alen (C : bC p s m args meth c cc nL own ret) (hk : wk ω.1 cs s) (hE : wS ω A s.heap σ H locs) (q : Nat) (hq : q < ω.2.2.2) {n : Nat} (hf : ω.2.2.1 q (σ q) = .inl (cs 0, n, .inl (σ q))) (hdg : decode cc pc = .ok (.arraylength, 1))
    (kk : W p l e R s m args below meth c H locs cells slots Q (F0 m (pc + 1) ls (.int (nI n) :: rest))) : W p l e R s m args below meth c H locs cells slots Q (F0 m pc ls (.ref (ω.2.1 q) :: rest)) := by
  obtain ⟨hx, hb, hml, ho, hts, -, -⟩ := C
  have hat : va_at ω.1 classes (ω.2.1 q, .inl (cs 0, n, .inl (σ q))) H := by
    have h := hE.1 q _ (wo_at hq)
    rwa [hf] at h
  exact W.alen (n := nI n) (ty := .int) hx hb hat ((hk.1.2 0 _ rfl).1 n (fun j => .int (σ q j))) (by show (arrV _ _ _).slots.size.toInt32 = _; rw [arrV_size]; rfl) rfl rfl hdg kk
theorem w_zast (C : bC p s m args meth c cc nL own ret) (hk : wk ω.1 cs s) (hE : wS ω A s.heap σ H locs) (q : Nat) (hq : q < ω.2.2.2) {n i : Nat} (hf : ∀ r : Nat → Int32, ω.2.2.1 q r = .inl (cs 2, n, .inl r)) (hi : i < n) (hn : n < 2 ^ 31) {x : Int32} (hx1 : x = 0 ∨ x = 1) (hdg : decode cc pc = .ok (.bastore, 1))
    (kk : ∀ (H1 : Heap) (locs1 : List Loc), wS ω A s.heap (mset σ q i x) H1 locs1 → W p l e R s m args below meth c H1 locs1 cells slots Q (F0 m (pc + 1) ls rest)) : W p l e R s m args below meth c H locs cells slots Q (F0 m pc ls (.int x :: .int (nI i) :: .ref (ω.2.1 q) :: rest)) := by
  obtain ⟨hx, hb, hml, ho, hts, -, -⟩ := C
  refine va_zast (D := ω.1) hx hb hk.1 hE.1 hE.2.1 hE.2.2 q 2 (by rw [wo_at hq, hf]) rfl (vp_in_nI hi hn) hdg (fun H1 locs1 hP hD hS => ?_)
  have e : vp_nar .boolean x = x := by rcases hx1 with rfl | rfl <;> rfl
  rw [e, nI_clamp (by omega), wo_set hq (hf _)] at hP hD
  exact kk H1 locs1 ⟨hP, hD, hS⟩
end WH
theorem w_sub {a b c : Nat} (h : b ≤ a) (e : a - b = c) : nI a - nI b = nI c := by rw [pk_sub h, e]
theorem w_z0 {n : Nat} (h : n < 2 ^ 31) (c : nI n = 0) : n = 0 := (nI_eq h (by decide)).mp (c.trans nI_0.symm)
theorem w_n0 {n : Nat} (_ : n < 2 ^ 31) (c : ¬ nI n = 0) : n ≠ 0 := fun e => c (by rw [e]; exact nI_0)
theorem w_lt0 {n : Nat} (h : n < 2 ^ 31) (c : nI n < 0) : False := nI_pos h c
theorem w_nlt0 {n : Nat} (_ : n < 2 ^ 31) (_ : ¬ nI n < 0) : True := trivial
theorem w_ge0 {n : Nat} (_ : n < 2 ^ 31) (_ : 0 ≤ nI n) : True := trivial
theorem w_nge0 {n : Nat} (h : n < 2 ^ 31) (c : ¬ 0 ≤ nI n) : False := c (nI_pos' h)
theorem w_gt0 {n : Nat} (h : n < 2 ^ 31) (c : 0 < nI n) : 0 < n := (nI_ltI (by decide) h).mp (nI_0.symm ▸ c)
theorem w_ngt0 {n : Nat} (h : n < 2 ^ 31) (c : ¬ 0 < nI n) : n = 0 := by
  rcases Nat.eq_zero_or_pos n with h0 | h0
  · exact h0
  · exact absurd (nI_0 ▸ (nI_ltI (by decide) h).mpr h0) c
theorem w_le0 {n : Nat} (h : n < 2 ^ 31) (c : nI n ≤ 0) : n = 0 := by
  have := (nI_leI h (by decide : 0 < 2 ^ 31)).mp (nI_0.symm ▸ c); omega
theorem w_nle0 {n : Nat} (h : n < 2 ^ 31) (c : ¬ nI n ≤ 0) : 0 < n := by
  rcases Nat.eq_zero_or_pos n with h0 | h0
  · exact absurd (by rw [h0, nI_0]; exact Int32.le_refl 0) c
  · exact h0
/-- a boolean as the machine has it -/
def zb (b : Bool) : Int32 := if b then nI 1 else nI 0
theorem zb_t : zb true = nI 1 := rfl
theorem zb_f : zb false = nI 0 := rfl
theorem zb_01 (b : Bool) : zb b = 0 ∨ zb b = 1 := by cases b; exact Or.inl rfl; exact Or.inr rfl
theorem zb_eq0 {b : Bool} (h : zb b = 0) : b = false := by cases b; rfl; exact absurd h (by decide)
theorem zb_ne0 {b : Bool} (h : ¬ zb b = 0) : b = true := by cases b; exact absurd rfl h; rfl
/-- is it the number of a variable, 0 .. 5 -/
def isV (x : Int32) : Bool := !decide (x < 0) && !decide (nI 6 ≤ x)
/-- the bits of a mask, counted as the library counts them -/
def popc (x : Int32) : Int32 :=
  let a := x - ((x.toUInt32 >>> ((nI 1).toUInt32 &&& Int32.toUInt32 31)).toInt32 &&& 1431655765)
  let b := (a &&& 858993459) + ((a.toUInt32 >>> ((nI 2).toUInt32 &&& Int32.toUInt32 31)).toInt32 &&& 858993459)
  let d := (b + (b.toUInt32 >>> ((nI 4).toUInt32 &&& Int32.toUInt32 31)).toInt32) &&& 252645135
  let e := d + (d.toUInt32 >>> ((nI 8).toUInt32 &&& Int32.toUInt32 31)).toInt32
  let f := e + (e.toUInt32 >>> ((nI 16).toUInt32 &&& Int32.toUInt32 31)).toInt32
  f &&& nI 63
