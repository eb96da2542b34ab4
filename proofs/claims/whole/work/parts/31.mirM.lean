/-! the model: its has-row and its 'changed' go together -/
abbrev HC : Type := (Nat → Int32) × Int32
def mhc (σ : Mem) (x : HC) : Mem := mrow (mset σ 0 10 x.2) 5 x.1
theorem mhc_mhc {σ : Mem} {x y : HC} : mhc (mhc σ x) y = mhc σ y := by
  funext j i
  unfold mhc mset mrow upd
  by_cases h5 : j = 5
  · simp [h5]
  · by_cases h0 : j = 0
    · subst h0
      by_cases h : i = 10 <;> simp [h]
    · simp [h5, h0]
theorem mhc_id {σ : Mem} : mhc σ (σ 5, σ 0 10) = σ := by
  funext j i
  unfold mhc mset mrow upd
  by_cases h5 : j = 5
  · simp [h5]
  · by_cases h0 : j = 0
    · subst h0
      by_cases h : i = 10 <;> simp [h]
    · simp [h5, h0]
theorem mhc_5 {σ : Mem} {x : HC} : mhc σ x 5 = x.1 := mrow_s
theorem mhc_10 {σ : Mem} {x : HC} : mhc σ x 0 10 = x.2 := by simp [mhc, mset, mrow, upd]
theorem mhc_n {σ : Mem} {x : HC} {q : Nat} (h5 : q ≠ 5) (h0 : q ≠ 0) : mhc σ x q = σ q := by unfold mhc; rw [mrow_n h5, mset_n h0]
theorem mhc_0 {σ : Mem} {x : HC} {f : Nat} (h : f ≠ 10) : mhc σ x 0 f = σ 0 f := by unfold mhc; rw [mrow_n (by decide), mset_i h]
def ml (σ : Mem) (p : Nat) : Nat := (σ 1 p).toNatClampNeg
def mn (σ : Mem) (p : Nat) : Nat := (σ 2 p).toNatClampNeg
def mr (σ : Mem) (i : Nat) : Nat := (σ 3 i).toNatClampNeg
/-- the model's cells hold P productions -/
def mG (σ : Mem) (P : Nat) : Prop := P ≤ 8 ∧ σ 0 3 = nI P ∧ ∀ p, p < P → σ 1 p = nI (ml σ p) ∧ ml σ p < 6 ∧ σ 2 p = nI (mn σ p) ∧ mn σ p ≤ 4 ∧ ∀ d, d < mn σ p → σ 3 (4 * p + d) = nI (mr σ (4 * p + d)) ∧ (mr σ (4 * p + d) < 6 ∨ (100 ≤ mr σ (4 * p + d) ∧ mr σ (4 * p + d) < 106))
theorem mG_of {σ τ : Mem} {P : Nat} (h : mG σ P) (h0 : τ 0 3 = σ 0 3) (h1 : τ 1 = σ 1) (h2 : τ 2 = σ 2) (h3 : τ 3 = σ 3) : mG τ P := by
  unfold mG ml mn mr at *
  rw [h0, h1, h2, h3]
  exact h
theorem mG_mhc {σ : Mem} {P : Nat} {x : HC} (h : mG σ P) : mG (mhc σ x) P := mG_of h (mhc_0 (by decide)) (mhc_n (by decide) (by decide)) (mhc_n (by decide) (by decide)) (mhc_n (by decide) (by decide))
/-- the place of an item in the has-row -/
def ix (k p d o : Nat) : Nat := 360 * k + 45 * p + 9 * d + o
theorem ix_lt {k p d o : Nat} (hk : k < 9) (hp : p < 8) (hd : d < 5) (ho : o < 9) : ix k p d o < 3240 := by unfold ix; omega
def putH (x : HC) (i : Nat) : HC := (upd x.1 i (nI 1), zb (!decide (x.2 = 0) || decide (x.1 i = 0)))
/-- the row holds booleans, the flag is one -/
def bH (x : HC) : Prop := (∀ i, x.1 i = 0 ∨ x.1 i = 1) ∧ (x.2 = 0 ∨ x.2 = 1)
theorem bH_put {x : HC} {i : Nat} (h : bH x) : bH (putH x i) := by
  refine ⟨fun j => ?_, zb_01 _⟩
  by_cases e : j = i
  · right; simp [putH, upd, e]; rfl
  · have := h.1 j; simp [putH, upd, e]; exact this
/-- the symbol behind a dot, or -1 -/
def bhF (σ : Mem) (p d : Nat) : Int32 := if d < mn σ p then σ 3 (4 * p + d) else (-1)
/-- how many of n places from b on hold something -/
def cntH (f : Nat → Int32) (b : Nat) : Nat → Nat
  | 0 => 0
  | i + 1 => if f (b + i) = 0 then cntH f b i else cntH f b i + 1
theorem cntH_le {f : Nat → Int32} {b : Nat} : ∀ n, cntH f b n ≤ n
  | 0 => Nat.le_refl _
  | n + 1 => by
    rw [cntH]
    have := cntH_le (f := f) (b := b) n
    split <;> omega
def allN (f : Nat → Nat) : Nat → Nat
  | 0 => 0
  | i + 1 => allN f i + f i
