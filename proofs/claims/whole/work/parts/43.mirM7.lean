theorem pm1_ge {P : Nat} (h : ¬ nI P - nI 1 < 0) : 1 ≤ P := by
  cases P with
  | zero => exact absurd (by decide) h
  | succ u => omega
theorem pm1_lt {P : Nat} (hP : P ≤ 8) (h : nI P - nI 1 < 0) : P = 0 := by
  cases P with
  | zero => rfl
  | succ u => rw [w_sub (c := u) (by omega) (by omega)] at h; exact absurd h (nI_pos (by omega))
theorem filP_n {σ τ : Mem} {P k q : Nat} (h : filP σ P k τ) (h0 : q ≠ 0) (h5 : q ≠ 5) : τ q = σ q := by
  obtain ⟨N, rfl, -⟩ := h
  exact mhc_n h5 h0
theorem filQ_n {σ τ : Mem} {P k q : Nat} (h : filQ σ P k τ) (h0 : q ≠ 0) (h5 : q ≠ 5) : τ q = σ q := by
  rw [filP_n h h0 h5]; unfold mCh; rw [mset_n h0, mset_n h0]
/-- addRhs can't now -/
def rhsC (σ : Mem) (P n : Nat) : Prop := 0 < n ∨ P = 0 ∨ 4 ≤ mn σ (P - 1) ∨ 16 ≤ allN (mn σ) P
theorem allN_le {f : Nat → Nat} : ∀ P, (∀ p, p < P → f p ≤ 4) → allN f P ≤ 4 * P
  | 0, _ => Nat.le_refl _
  | P + 1, h => by rw [allN]; have := allN_le P (fun p hp => h p (by omega)); have := h P (by omega); omega
theorem dn_ltI {c i : Nat} (hc : c < 2 ^ 30) (hi : i < 2 ^ 30) : dn c < nI i ↔ c ≤ i := by
  cases c with
  | zero => exact ⟨fun _ => Nat.zero_le _, fun _ => by
      have h : (dn 0) < 0 := by decide
      exact Int32.lt_of_lt_of_le h (nI_pos' (by omega))⟩
  | succ c => exact (nI_ltI (by omega) (by omega)).trans (by omega)
theorem dn_succ (a : Nat) : dn a + nI 1 = nI a := by
  cases a with
  | zero => decide
  | succ a => exact nI_add a 1
theorem it_done {f : Nat → Int32} {b i a : Nat} (h1 : ¬ cntH f b a ≤ i) (h2 : a = 0 ∨ cntH f b (a - 1) ≤ i) (h3 : a ≤ 360) : 1 ≤ a ∧ itP f b i (a - 1) := by
  rcases h2 with h | h
  · rw [h] at h1; exact absurd (Nat.zero_le _) h1
  · cases a with
    | zero => exact absurd (Nat.zero_le _) h1
    | succ a =>
      rw [Nat.add_sub_cancel] at h ⊢
      rw [cntH] at h1
      by_cases e : f (b + a) = 0
      · rw [if_pos e] at h1; exact absurd h h1
      · rw [if_neg e] at h1; exact ⟨by omega, by omega, e, by omega⟩
theorem it_lt {f : Nat → Int32} {b i a : Nat} (h1 : cntH f b a ≤ i) (h2 : i < cntH f b 360) (h3 : a ≤ 360) : a < 360 := by
  rcases Nat.lt_or_ge a 360 with q | q
  · exact q
  · rw [show a = 360 by omega] at h1; omega
/-- what the steps row is behind work() -/
theorem wrkP_ex {σ τ : Mem} {P n : Nat} {s r : Nat → Nat} (h : wrkP σ P n s r τ) (hs : leN s) (hr : leN r) : ∃ κ s' r', τ = msr κ s' r' ∧ leN s' ∧ leN r' ∧ (∀ q, q ≠ 0 → κ q = σ q) ∧ (∀ f, f ≠ 12 → κ 0 f = σ 0 f) := by
  rcases h with ⟨-, e⟩ | ⟨-, N, e, -, hl⟩
  · exact ⟨σ, s, r, e, hs, hr, fun _ _ => rfl, fun _ _ => rfl⟩
  · exact ⟨_, _, _, e, hl.1, hl.2, fun q h => mset_n h, fun f h => mset_i h⟩
/-- what steps(..) and nullable(..) of the model ask of its cells -/
def mJ (σ : Mem) (P n V T : Nat) (s r : Nat → Nat) : Prop := mI (msr σ s r) P n V T ∧ leN s ∧ leN r
theorem mI_of_msr {σ : Mem} {P n V T : Nat} {s r : Nat → Nat} (h : mI (msr σ s r) P n V T) : mI σ P n V T := by
  obtain ⟨hg, hn8, hn7, hvb, hV6, hV, hT6, hT⟩ := h
  have e0 : msr σ s r 0 = σ 0 := msr_n (by decide) (by decide)
  have e5 : msr σ s r 5 = σ 5 := msr_n (by decide) (by decide)
  rw [e0] at hn7 hV hT hvb
  rw [e5] at hvb
  exact ⟨mG_of hg (by rw [e0]) (msr_n (by decide) (by decide)).symm (msr_n (by decide) (by decide)).symm (msr_n (by decide) (by decide)).symm, hn8, hn7, hvb, hV6, hV, hT6, hT⟩
theorem isKn_of2 {n : Nat} {i j : Int32} (hn : n ≤ 8) (h1 : ¬ i < 0) (h2 : ¬ j < i) (h3 : j ≤ nI n) : i = nI i.toNatClampNeg ∧ j = nI j.toNatClampNeg ∧ i.toNatClampNeg ≤ j.toNatClampNeg ∧ j.toNatClampNeg ≤ n := by
  obtain ⟨a, ha, rfl⟩ := nI_of h1
  have h4 : ¬ j < 0 := fun q => h2 (Int32.lt_of_lt_of_le q (nI_pos' ha))
  obtain ⟨b, hb, rfl⟩ := nI_of h4
  rw [nI_clamp ha, nI_clamp hb]
  refine ⟨rfl, rfl, ?_, (nI_leI hb (by omega)).mp h3⟩
  rcases Nat.lt_or_ge b a with q | q
  · exact absurd ((nI_ltI hb ha).mpr q) h2
  · exact q
def strC (n : Nat) (i j : Int32) : Bool := !decide (i < 0) && (!decide (j < i) && !decide (nI n < j))
def stpV (κ : Mem) (s : Nat → Nat) (y i j : Nat) : Int32 := if 1000000 ≤ stN κ s y i j then (-1) else nI (stN κ s y i j)
theorem lv_chg {ls : Array Slot} {n : Nat} {l : List (Nat × Value)} (k : Nat) {i : Nat} {x y : Int32} (e : x = y) (hk : l[k]? = some (i, .int x)) (h : lv_has ls n l) : lv_has ls n (l.set k (i, .int y)) := by
  subst e
  have e2 : l.set k (i, .int x) = l := by
    apply List.ext_getElem?
    intro j
    by_cases hj : j = k
    · subst hj; rw [List.getElem?_set_self (List.getElem?_eq_some_iff.mp hk).1, hk]
    · rw [List.getElem?_set_ne (Ne.symm hj)]
  rw [e2]; exact h
