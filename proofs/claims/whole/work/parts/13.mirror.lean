theorem wS_eq {ω : Wd} {A : Nat → Prop} {H0 : Heap} {σ τ : Mem} {H : Heap} {locs : List Loc} (h : σ = τ) (hE : wS ω A H0 σ H locs) : wS ω A H0 τ H locs := h ▸ hE
theorem mset_mrow {σ : Mem} {q i : Nat} {r : Nat → Int32} {x : Int32} : mset (mrow σ q r) q i x = mrow σ q (upd r i x) := by
  funext j
  unfold mset mrow
  by_cases h : j = q <;> simp [h]
theorem mrow_mrow {σ : Mem} {q : Nat} {r r' : Nat → Int32} : mrow (mrow σ q r) q r' = mrow σ q r' := by
  funext j
  unfold mrow
  by_cases h : j = q <;> simp [h]
theorem mrow_id {σ : Mem} {q : Nat} : mrow σ q (σ q) = σ := by
  funext j
  unfold mrow
  by_cases h : j = q <;> simp [h]
theorem mset_def {σ : Mem} {q i : Nat} {x : Int32} : mset σ q i x = mrow σ q (upd (σ q) i x) := rfl
theorem mrow_lo {σ : Mem} {k q : Nat} {r : Nat → Int32} (h : q < 19) : mrow σ (k + 19) r q = σ q := mrow_n (by omega)
/-! the grammar's numbers, as they stand in the cells -/
def gv (σ : Mem) (p : Nat) : Nat := (σ 6 p).toNatClampNeg
def gf (σ : Mem) (p : Nat) : Nat := (σ 7 p).toNatClampNeg
def gp (σ : Mem) (t : Nat) : Nat := (σ 9 t).toNatClampNeg
def gy (σ : Mem) (t : Nat) : Nat := (σ 8 t).toNatClampNeg
/-- the grammar's cells hold P productions with S slots -/
def gS (σ : Mem) (P S : Nat) : Prop := P ≤ 8 ∧ S ≤ 24 ∧ σ 1 4 = nI P ∧ σ 1 5 = nI S ∧ (∀ p, p < P → σ 6 p = nI (gv σ p) ∧ gv σ p < 6 ∧ σ 7 p = nI (gf σ p) ∧ gf σ p < S) ∧ (∀ t, t < S → σ 9 t = nI (gp σ t) ∧ gp σ t < P ∧ gf σ (gp σ t) ≤ t) ∧ (∀ t, t < S → σ 8 t = -1 ∨ (t + 1 < S ∧ σ 8 t = nI (gy σ t) ∧ gy σ t < 200))
theorem gS_of {σ τ : Mem} {P S : Nat} (h : gS σ P S) (h1 : τ 1 = σ 1) (h6 : τ 6 = σ 6) (h7 : τ 7 = σ 7) (h8 : τ 8 = σ 8) (h9 : τ 9 = σ 9) : gS τ P S := by
  unfold gS gv gf gp gy at *
  rw [h1, h6, h7, h8, h9]
  exact h
theorem gS_mrow {σ : Mem} {P S q : Nat} {r : Nat → Int32} (h : gS σ P S) (hq : 10 ≤ q) : gS (mrow σ q r) P S :=
  gS_of h (mrow_n (by omega)) (mrow_n (by omega)) (mrow_n (by omega)) (mrow_n (by omega)) (mrow_n (by omega))
/-! what the loops compute -/
def fillR (f : Nat → Int32) (v : Int32) (n : Nat) : Nat → Int32 := fun j => if j < n then v else f j
theorem fillR_0 {f : Nat → Int32} {v : Int32} : fillR f v 0 = f := by funext j; simp [fillR]
theorem fillR_s {f : Nat → Int32} {v : Int32} {n : Nat} : upd (fillR f v n) n v = fillR f v (n + 1) := by
  funext j
  unfold upd fillR
  by_cases h : j = n
  · simp [h]
  · by_cases h2 : j < n
    · simp [h, h2, Nat.lt_succ_of_lt h2]
    · simp [h, h2, show ¬ j < n + 1 by omega]
/-- the bit of place k -/
def bitK (k : Nat) : Int32 := nI 1 <<< (nI k &&& 31)
def predR (l6 : Nat → Int32) (f7 : Nat → Nat) (k : Nat) (v : Int32) (r : Nat → Int32) : Nat → Nat → Int32
  | 0 => r
  | p + 1 => if l6 p = v then upd (predR l6 f7 k v r p) (f7 p) (predR l6 f7 k v r p (f7 p) ||| bitK k) else predR l6 f7 k v r p
/-- bit j of a mask -/
def bitJ (x : Int32) (j : Nat) : Int32 := (x >>> (nI j &&& 31)) &&& nI 1
def orgF (σ : Mem) (mask : Int32) (t : Nat) : Nat → Int32
  | 0 => nI 0
  | j + 1 => if bitJ mask j = 0 then orgF σ mask t j else orgF σ mask t j ||| σ (j + 19) t
def sizF (r : Nat → Int32) : Nat → Int32
  | 0 => nI 0
  | i + 1 => sizF r i + popc (r i)
def gathR (σ : Mem) (r : Nat → Int32) : Nat → Nat → Int32
  | 0 => fillR (σ 12) (nI 0) 6
  | t + 1 => if σ 8 t = -1 then upd (gathR σ r t) (gv σ (gp σ t)) (gathR σ r t (gv σ (gp σ t)) ||| r t) else gathR σ r t
