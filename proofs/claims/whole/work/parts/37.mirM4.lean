/-! the model's steps: rows of natural numbers -/
def nR (f : Nat → Nat) : Nat → Int32 := fun i => nI (f i)
def updN (f : Nat → Nat) (k x : Nat) : Nat → Nat := fun j => if j = k then x else f j
theorem upd_nR {f : Nat → Nat} {k x : Nat} : upd (nR f) k (nI x) = nR (updN f k x) := by
  funext j; unfold upd nR updN; by_cases h : j = k <;> simp [h]
def msr (σ : Mem) (s r : Nat → Nat) : Mem := mrow (mrow σ 6 (nR s)) 7 (nR r)
theorem msr_6 {σ : Mem} {s r : Nat → Nat} : msr σ s r 6 = nR s := by unfold msr; rw [mrow_n (by decide), mrow_s]
theorem msr_7 {σ : Mem} {s r : Nat → Nat} : msr σ s r 7 = nR r := mrow_s
theorem msr_n {σ : Mem} {s r : Nat → Nat} {q : Nat} (h6 : q ≠ 6) (h7 : q ≠ 7) : msr σ s r q = σ q := by unfold msr; rw [mrow_n h7, mrow_n h6]
theorem msr_set7 {σ : Mem} {s r : Nat → Nat} {i x : Nat} : mset (msr σ s r) 7 i (nI x) = msr σ s (updN r i x) := by
  unfold msr; rw [mset_mrow, upd_nR]
theorem msr_set6 {σ : Mem} {s r : Nat → Nat} {i x : Nat} : mset (msr σ s r) 6 i (nI x) = msr σ (updN s i x) r := by
  funext j
  unfold mset msr
  by_cases h6 : j = 6
  · subst h6; rw [mrow_s, mrow_n (by decide), mrow_s, mrow_n (by decide), mrow_s, upd_nR]
  · rw [mrow_n h6]
    by_cases h7 : j = 7
    · subst h7; rw [mrow_s, mrow_s]
    · rw [mrow_n h7, mrow_n h6, mrow_n h7, mrow_n h6]
theorem msr_id {σ : Mem} {s r : Nat → Nat} (h6 : σ 6 = nR s) (h7 : σ 7 = nR r) : σ = msr σ s r := by
  unfold msr; rw [← h6, mrow_id, ← h7, mrow_id]
theorem mG_msr {σ : Mem} {P : Nat} {s r : Nat → Nat} (h : mG σ P) : mG (msr σ s r) P := mG_of h (congrFun (msr_n (by decide) (by decide)) _) (msr_n (by decide) (by decide)) (msr_n (by decide) (by decide)) (msr_n (by decide) (by decide))
def stN (σ : Mem) (s : Nat → Nat) (y i j : Nat) : Nat := if 100 ≤ y then (if j = i + 1 then (if σ 4 j = nI y then 0 else 1000000) else 1000000) else s (81 * y + 9 * i + j)
theorem stN_le {σ : Mem} {s : Nat → Nat} {y i j : Nat} (h : ∀ c, s c ≤ 1000000) : stN σ s y i j ≤ 1000000 := by
  unfold stN
  split
  · split
    · split <;> omega
    · omega
  · exact h _
def bsN (σ : Mem) (s : Nat → Nat) (p d : Nat) (r : Nat → Nat) (a : Nat) : Nat → Nat
  | 0 => 1000000
  | c + 1 => if stN σ s (mr σ (4 * p + d)) a (a + c) + r (9 * (d + 1) + (a + c)) < bsN σ s p d r a c then stN σ s (mr σ (4 * p + d)) a (a + c) + r (9 * (d + 1) + (a + c)) else bsN σ s p d r a c
theorem bsN_le {σ : Mem} {s : Nat → Nat} {p d : Nat} {r : Nat → Nat} {a : Nat} : ∀ c, bsN σ s p d r a c ≤ 1000000
  | 0 => Nat.le_refl _
  | c + 1 => by
    rw [bsN]
    have := bsN_le (σ := σ) (s := s) (p := p) (d := d) (r := r) (a := a) c
    split <;> omega
def rwB (L j : Nat) (r : Nat → Nat) : Nat → Nat → Nat
  | 0 => r
  | a + 1 => updN (rwB L j r a) (9 * L + a) (if a = j then 0 else 1000000)
def rwA (σ : Mem) (s : Nat → Nat) (p d j : Nat) (r : Nat → Nat) : Nat → Nat → Nat
  | 0 => r
  | a + 1 => updN (rwA σ s p d j r a) (9 * d + a) (bsN σ s p d (rwA σ s p d j r a) a (j + 1 - a))
def rwD (σ : Mem) (s : Nat → Nat) (p j : Nat) : Nat → (Nat → Nat) → Nat → Nat
  | 0, r => r
  | d + 1, r => rwD σ s p j d (rwA σ s p d j r (j + 1))
def rowN (σ : Mem) (s : Nat → Nat) (p j : Nat) (r : Nat → Nat) : Nat → Nat := rwD σ s p j (mn σ p) (rwB (mn σ p) j r (j + 1))
def leN (f : Nat → Nat) : Prop := ∀ c, f c ≤ 1000000
theorem leN_upd {f : Nat → Nat} {k x : Nat} (h : leN f) (hx : x ≤ 1000000) : leN (updN f k x) := fun c => by
  unfold updN; split
  · exact hx
  · exact h c
theorem leN_rwB {L j : Nat} {r : Nat → Nat} (h : leN r) : ∀ a, leN (rwB L j r a)
  | 0 => h
  | a + 1 => by rw [rwB]; exact leN_upd (leN_rwB h a) (by split <;> omega)
theorem leN_rwA {σ : Mem} {s : Nat → Nat} {p d j : Nat} {r : Nat → Nat} (h : leN r) : ∀ a, leN (rwA σ s p d j r a)
  | 0 => h
  | a + 1 => by rw [rwA]; exact leN_upd (leN_rwA h a) (bsN_le _)
theorem leN_rwD {σ : Mem} {s : Nat → Nat} {p j : Nat} : ∀ (d : Nat) {r : Nat → Nat}, leN r → leN (rwD σ s p j d r)
  | 0, _, h => h
  | d + 1, _, h => by rw [rwD]; exact leN_rwD d (leN_rwA h _)
theorem leN_row {σ : Mem} {s : Nat → Nat} {p j : Nat} {r : Nat → Nat} (h : leN r) : leN (rowN σ s p j r) := leN_rwD _ (leN_rwB h _)
theorem stN_msr {σ : Mem} {s s' r' : Nat → Nat} {y i j : Nat} : stN (msr σ s' r') s y i j = stN σ s y i j := by unfold stN; rw [msr_n (by decide) (by decide)]
theorem mr_msr {σ : Mem} {s' r' : Nat → Nat} : mr (msr σ s' r') = mr σ := by funext i; unfold mr; rw [msr_n (by decide) (by decide)]
theorem mn_msr {σ : Mem} {s' r' : Nat → Nat} : mn (msr σ s' r') = mn σ := by funext i; unfold mn; rw [msr_n (by decide) (by decide)]
