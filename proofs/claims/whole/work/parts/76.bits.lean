/-! masks of origins -/
theorem nI_or (a b : Nat) : nI a ||| nI b = nI (a ||| b) := by
  apply Int32.toBitVec_inj.mp
  rw [Int32.toBitVec_or]
  show BitVec.ofNat 32 a ||| BitVec.ofNat 32 b = BitVec.ofNat 32 (a ||| b)
  apply BitVec.eq_of_getLsbD_eq
  intro i hi
  simp [BitVec.getLsbD_ofNat, Nat.testBit_or, hi]
def msk (x : Int32) : Nat := x.toNatClampNeg
/-- every place of a row of slots is a mask of 9 bits -/
def gR (r : Nat → Int32) : Prop := ∀ t, t < 24 → r t = nI (msk (r t)) ∧ msk (r t) < 512
def bt (r : Nat → Int32) (t o : Nat) : Prop := (msk (r t)).testBit o = true
theorem msk_nI {m : Nat} (h : m < 2 ^ 31) : msk (nI m) = m := nI_clamp h
theorem bitK_eq : ∀ k, k < 9 → bitK k = nI (2 ^ k) := by decide +kernel
theorem bitJ_eq : ∀ m, m < 512 → ∀ o, o < 9 → (bitJ (nI m) o = 0 ↔ m.testBit o = false) := by decide +kernel
theorem or_lt {a b : Nat} (ha : a < 512) (hb : b < 512) : a ||| b < 512 := Nat.or_lt_two_pow (n := 9) ha hb
theorem pow_lt9 : ∀ k, k < 9 → 2 ^ k < 512 := by decide
theorem gR_upd {r : Nat → Int32} {t m : Nat} (h : gR r) (hm : m < 512) : gR (upd r t (nI m)) := fun t' ht' => by
  by_cases e : t' = t
  · subst e; simp only [upd, if_pos]; rw [msk_nI (by omega)]; exact ⟨rfl, hm⟩
  · simp only [upd, if_neg e]; exact h t' ht'
/-- bits are added -/
theorem gR_or {r : Nat → Int32} {t m : Nat} (h : gR r) (ht : t < 24) (hm : m < 512) : gR (upd r t (r t ||| nI m)) ∧ ∀ t' o, bt (upd r t (r t ||| nI m)) t' o ↔ bt r t' o ∨ (t' = t ∧ m.testBit o = true) := by
  have e1 : r t ||| nI m = nI (msk (r t) ||| m) := by rw [← nI_or, ← (h t ht).1]
  have hl := or_lt (h t ht).2 hm
  rw [e1]
  refine ⟨gR_upd h hl, fun t' o => ?_⟩
  unfold bt
  by_cases e : t' = t
  · subst e
    simp only [upd, if_pos, true_and]
    rw [msk_nI (by omega), Nat.testBit_or, Bool.or_eq_true]
  · simp only [upd, if_neg e, false_and, or_false, e, if_false]
theorem bit_ex {m : Nat} (hm : m < 512) (h : m ≠ 0) : ∃ o, o < 9 ∧ m.testBit o = true := by
  have hh : ∀ m, m < 512 → m ≠ 0 → ∃ o, o < 9 ∧ m.testBit o = true := by
    intro m hm h
    refine Classical.byContradiction fun q => h ?_
    apply Nat.eq_of_testBit_eq
    intro i
    rw [Nat.zero_testBit]
    by_cases hi : i < 9
    · cases hb : m.testBit i with
      | false => rfl
      | true => exact absurd ⟨i, hi, hb⟩ q
    · exact Nat.testBit_lt_two_pow (Nat.lt_of_lt_of_le (show m < 2 ^ 9 from hm) (Nat.pow_le_pow_right (by decide : 0 < 2) (by omega : 9 ≤ i)))
  exact hh m hm h
theorem bt_lt {r : Nat → Int32} {t o : Nat} (h : gR r) (ht : t < 24) (hb : bt r t o) : o < 9 := by
  refine Nat.not_le.mp fun q => ?_
  have h1 := (h t ht).2
  have := Nat.testBit_lt_two_pow (x := msk (r t)) (i := o) (Nat.lt_of_lt_of_le (show msk (r t) < 2 ^ 9 from h1) (Nat.pow_le_pow_right (by decide : 0 < 2) q))
  unfold bt at hb; rw [this] at hb; cases hb
theorem gR_0 {f : Nat → Int32} : gR (fillR f (nI 0) 24) ∧ ∀ t o, t < 24 → ¬ bt (fillR f (nI 0) 24) t o := by
  have e : ∀ t, t < 24 → fillR f (nI 0) 24 t = nI 0 := fun t ht => by unfold fillR; rw [if_pos ht]
  refine ⟨fun t ht => ?_, fun t o ht h => ?_⟩
  · rw [e t ht, msk_nI (by decide)]; exact ⟨rfl, by decide⟩
  · unfold bt at h; rw [e t ht, msk_nI (by decide), Nat.zero_testBit] at h; cases h
/-- how many of 9 bits -/
def cb (m : Nat) : Nat → Nat
  | 0 => 0
  | o + 1 => cb m o + (if m.testBit o = true then 1 else 0)
theorem popc_eq : ∀ m, m < 512 → popc (nI m) = nI (cb m 9) := by decide +kernel
theorem cb_n (m : Nat) : ∀ n, cb m n ≤ n
  | 0 => Nat.le_refl _
  | n + 1 => by rw [cb]; have := cb_n m n; split <;> omega
theorem cb_le {a b : Nat} (h : ∀ o, a.testBit o = true → b.testBit o = true) : ∀ n, cb a n ≤ cb b n
  | 0 => Nat.le_refl _
  | n + 1 => by
    rw [cb, cb]
    have ih := cb_le h n
    by_cases hq : a.testBit n = true
    · rw [if_pos hq, if_pos (h n hq)]; omega
    · rw [if_neg hq]; split <;> omega
theorem cb_lt {a b o : Nat} (h : ∀ o, a.testBit o = true → b.testBit o = true) (h1 : ¬ a.testBit o = true) (h2 : b.testBit o = true) : ∀ n, o < n → cb a n < cb b n
  | 0, h0 => absurd h0 (Nat.not_lt_zero _)
  | n + 1, h0 => by
    rw [cb, cb]
    by_cases e : o = n
    · subst e
      rw [if_neg h1, if_pos h2]; have := cb_le h o; omega
    · have ih := cb_lt h h1 h2 n (by omega)
      by_cases hq : a.testBit n = true
      · rw [if_pos hq, if_pos (h n hq)]; omega
      · rw [if_neg hq]; split <;> omega
/-- how many items a row has -/
def szN (r : Nat → Int32) : Nat → Nat
  | 0 => 0
  | t + 1 => szN r t + cb (msk (r t)) 9
theorem szN_n (r : Nat → Int32) : ∀ S, szN r S ≤ 9 * S
  | 0 => Nat.le_refl _
  | S + 1 => by rw [szN]; have := szN_n r S; have := cb_n (msk (r S)) 9; omega
theorem sizF_eq {r : Nat → Int32} (h : gR r) : ∀ S, S ≤ 24 → sizF r S = nI (szN r S)
  | 0, _ => rfl
  | S + 1, hS => by rw [sizF, szN, sizF_eq h S (by omega), (h S (by omega)).1, popc_eq _ (h S (by omega)).2, nI_add, msk_nI (by have := (h S (by omega)).2; omega)]
theorem szN_le {r r' : Nat → Int32} : ∀ S, (∀ t o, t < S → bt r t o → bt r' t o) → szN r S ≤ szN r' S
  | 0, _ => Nat.le_refl _
  | S + 1, h => by rw [szN, szN]; have := szN_le S (fun t o ht => h t o (by omega)); have := cb_le (fun o => h S o (by omega)) 9; omega
theorem szN_lt {r r' : Nat → Int32} {t o : Nat} (ho : o < 9) (h1 : ¬ bt r t o) (h2 : bt r' t o) : ∀ S, t < S → (∀ t o, t < S → bt r t o → bt r' t o) → szN r S < szN r' S
  | 0, h, _ => absurd h (Nat.not_lt_zero _)
  | S + 1, ht, h => by
    rw [szN, szN]
    by_cases e : t = S
    · subst e
      have := szN_le t (fun t' o' ht' => h t' o' (by omega)); have := cb_lt (fun o => h t o (by omega)) h1 h2 9 ho; omega
    · have := szN_lt ho h1 h2 S (by omega) (fun t' o' ht' => h t' o' (by omega)); have := cb_le (fun o => h S o (by omega)) 9; omega
