theorem isV_of {x : Int32} (h : isV x = true) : x = nI x.toNatClampNeg ∧ x.toNatClampNeg < 6 := by
  have h1 : ¬ x < 0 := fun q => by simp [isV, q] at h
  have h2 : ¬ nI 6 ≤ x := fun q => by simp [isV, q] at h
  obtain ⟨j, hj, rfl⟩ := nI_of h1
  rw [nI_clamp hj]
  exact ⟨rfl, by
    rcases Nat.lt_or_ge j 6 with q | q
    · exact q
    · exact absurd ((nI_leI (by decide) hj).mpr q) h2⟩
theorem mset_34 {σ : Mem} {u i q : Nat} {x : Int32} (h : q < 28) : mset σ (u + 34) i x q = σ q := mrow_n (by omega)
theorem mset_28 {σ : Mem} {u i q : Nat} {x : Int32} (h : q < 28) : mset σ (u + 28) i x q = σ q := mrow_n (by omega)
theorem gS_mset {σ : Mem} {P S q i : Nat} {x : Int32} (h : gS σ P S) (hq : 10 ≤ q) : gS (mset σ q i x) P S := gS_mrow h hq
/-- the steps of a symbol over a stretch, as the table has them; n tokens are fed -/
def symS (σ : Mem) (n : Nat) (x : Int32) (i j : Nat) : Int32 := if isV x = true then σ (x.toNatClampNeg + 28) (i * 9 + j) else if (decide (j = i + 1) && (decide (i < n) && decide (σ 10 i = x))) = true then nI 0 else (-1)
def splitS (σ : Mem) (n S t i m j : Nat) : Int32 := if symS σ n (σ 8 t) i m = (-1) then (-1) else if t + 1 < S then (if σ (t + 1 + 34) (m * 9 + j) = (-1) then (-1) else symS σ n (σ 8 t) i m + σ (t + 1 + 34) (m * 9 + j)) else (-1)
def fewer (x k : Int32) : Bool := decide (k = -1) || decide (x < k)
def leastF (σ : Mem) (n S t i j : Nat) : Nat → Int32
  | 0 => (-1)
  | c + 1 => if splitS σ n S t i (i + c) j = (-1) then leastF σ n S t i j c else if fewer (splitS σ n S t i (i + c) j) (leastF σ n S t i j c) = true then splitS σ n S t i (i + c) j else leastF σ n S t i j c
def leastS (σ : Mem) (n S t i j : Nat) : Int32 := if σ 8 t = (-1) then (if i = j then nI 0 else (-1)) else leastF σ n S t i j (j + 1 - i)
/-- one less than t, as the machine counts down -/
def dn : Nat → Int32
  | 0 => (-1)
  | t + 1 => nI t
theorem dn_lt {t : Nat} (ht : t < 2 ^ 31) (h : dn t < 0) : t = 0 := by
  cases t with
  | zero => rfl
  | succ t => exact absurd h (nI_pos (by omega))
theorem dn_ge {t : Nat} (h : ¬ dn t < 0) : ∃ u, t = u + 1 := by
  cases t with
  | zero => exact absurd (by decide) h
  | succ t => exact ⟨t, rfl⟩
theorem dn_pred (u : Nat) : nI u + (-1) = dn u := by
  cases u with
  | zero => decide
  | succ t => exact pk_m1 t
theorem dn_sub {S : Nat} : nI S - nI 1 = dn S := by
  cases S with
  | zero => decide
  | succ t => exact w_sub (by omega) (by omega)
def low1 (n S i j t : Nat) (μ : Mem) : Mem := mset μ (t + 34) (i * 9 + j) (leastS μ n S t i j)
def lowC (n S i j t : Nat) (μ : Mem) : Bool := decide (t - gf μ (gp μ t) = 0) && (!decide (leastS μ n S t i j = (-1)) && fewer (leastS μ n S t i j + nI 1) (low1 n S i j t μ (gv μ (gp μ t) + 28) (i * 9 + j)))
def lowS (n S i j t : Nat) (μ : Mem) : Mem := if lowC n S i j t μ = true then mset (low1 n S i j t μ) (gv μ (gp μ t) + 28) (i * 9 + j) (leastS μ n S t i j + nI 1) else low1 n S i j t μ
def lowF (n S i j : Nat) : Nat → Bool → Mem → Bool × Mem
  | 0, b, μ => (b, μ)
  | t + 1, b, μ => lowF n S i j t (b || lowC n S i j t μ) (lowS n S i j t μ)
/-- what the table's methods ask of the cells -/
def tS (σ : Mem) (P S n : Nat) : Prop := gS σ P S ∧ n ≤ 8 ∧ σ 2 1 = nI n
theorem tS_of {σ τ : Mem} {P S n : Nat} (h : tS σ P S n) (he : ∀ q, q < 19 → τ q = σ q) : tS τ P S n :=
  ⟨gS_of h.1 (he 1 (by decide)) (he 6 (by decide)) (he 7 (by decide)) (he 8 (by decide)) (he 9 (by decide)), h.2.1, by rw [he 2 (by decide)]; exact h.2.2⟩
theorem low1_lo {n S i j t : Nat} {μ : Mem} {q : Nat} (h : q < 28) : low1 n S i j t μ q = μ q := mset_34 h
theorem lowS_lo {n S i j t : Nat} {μ : Mem} {q : Nat} (h : q < 28) : lowS n S i j t μ q = μ q := by
  unfold lowS
  split
  · rw [mset_28 h, low1_lo h]
  · exact low1_lo h
theorem lowF_lo {n S i j : Nat} : ∀ (t : Nat) (b : Bool) (μ : Mem) {q : Nat}, q < 28 → (lowF n S i j t b μ).2 q = μ q
  | 0, _, _, _, _ => rfl
  | t + 1, b, μ, q, h => by rw [lowF, lowF_lo t _ _ h, lowS_lo h]
def initC (c : Nat) (σ : Mem) : Nat → Mem
  | 0 => σ
  | v + 1 => mset (initC c σ v) (v + 28) c (-1)
theorem initC_lo {c : Nat} {σ : Mem} : ∀ (v : Nat) {q : Nat}, q < 28 → initC c σ v q = σ q
  | 0, _, _ => rfl
  | v + 1, q, h => by rw [initC, mset_28 h, initC_lo v h]
def strF (n S i j : Nat) : Nat → Mem → Mem
  | 0, μ => μ
  | k + 1, μ => if (lowF n S i j S false μ).1 = true then strF n S i j k (lowF n S i j S false μ).2 else (lowF n S i j S false μ).2
theorem strF_lo {n S i j : Nat} : ∀ (k : Nat) (μ : Mem) {q : Nat}, q < 28 → strF n S i j k μ q = μ q
  | 0, _, _, _ => rfl
  | k + 1, μ, q, h => by
    rw [strF]
    split
    · rw [strF_lo k _ h, lowF_lo _ _ _ h]
    · rw [lowF_lo _ _ _ h]
theorem strF_t {n S i j k : Nat} {μ : Mem} (hk : k < 1000) (h : (lowF n S i j S false μ).1 = true) : strF n S i j (1000 - k) μ = strF n S i j (1000 - (k + 1)) (lowF n S i j S false μ).2 := by
  rw [show 1000 - k = (1000 - (k + 1)) + 1 by omega, strF, if_pos h]
theorem strF_f {n S i j k : Nat} {μ : Mem} (hk : k < 1000) (h : (lowF n S i j S false μ).1 = false) : strF n S i j (1000 - k) μ = (lowF n S i j S false μ).2 := by
  rw [show 1000 - k = (1000 - (k + 1)) + 1 by omega, strF, if_neg (by rw [h]; decide)]
def fstr (n S i j : Nat) (σ : Mem) : Mem := strF n S i j 1000 (initC (i * 9 + j) σ 6)
theorem fstr_lo {n S i j : Nat} {σ : Mem} {q : Nat} (h : q < 28) : fstr n S i j σ q = σ q := by rw [fstr, strF_lo _ _ h, initC_lo _ h]
def upF (n S j : Nat) : Nat → Mem → Mem
  | 0, μ => μ
  | i + 1, μ => upF n S j i (fstr n S i j μ)
theorem upF_lo {n S j : Nat} : ∀ (i : Nat) (μ : Mem) {q : Nat}, q < 28 → upF n S j i μ q = μ q
  | 0, _, _, _ => rfl
  | i + 1, μ, q, h => by rw [upF, upF_lo i _ h, fstr_lo h]
