theorem closeS_n {k P S q : Nat} {σ : Mem} (h1 : q ≠ 12) (h2 : q ≠ k + 19) : closeS k P S σ q = σ q := by unfold closeS; rw [mrow_n h2, mrow_n h1]
theorem closeM_n {k P S q : Nat} (h1 : q ≠ 12) (h2 : q ≠ k + 19) : ∀ (n : Nat) (σ : Mem), closeM k P S n σ q = σ q
  | 0, _ => rfl
  | n + 1, σ => by
    rw [closeM]
    split
    · rw [closeM_n h1 h2 n, closeS_n h1 h2]
    · exact closeS_n h1 h2
/-- set 0 made anew -/
def mfM (P S : Nat) (σ : Mem) : Mem := if P = 0 then mrow σ (0 + 19) (fillR (σ (0 + 19)) (nI 0) 24) else closeM 0 P S 1000 (mrow σ (0 + 19) (predR (σ 6) (gf σ) 0 (σ 6 0) (fillR (σ (0 + 19)) (nI 0) 24) P))
theorem mfM_n {P S q : Nat} {σ : Mem} (h1 : q ≠ 12) (h2 : q ≠ 0 + 19) : mfM P S σ q = σ q := by
  unfold mfM
  split
  · exact mrow_n h2
  · rw [closeM_n h1 h2, mrow_n h2]
theorem tS_set {σ τ : Mem} {P S n : Nat} (h : tS σ P S n) (he : ∀ q, q < 10 → q ≠ 5 → τ q = σ q) : tS τ P S n :=
  ⟨gS_of h.1 (he 1 (by decide) (by decide)) (he 6 (by decide) (by decide)) (he 7 (by decide) (by decide)) (he 8 (by decide) (by decide)) (he 9 (by decide) (by decide)), h.2.1, by rw [he 2 (by decide) (by decide)]; exact h.2.2⟩
/-- after a change of the grammar: no witness, set 0, the stretches that end at place 0 -/
def gcM (P S n : Nat) (σ : Mem) : Mem := upF n S 0 (0 + 1) (mfM P S (mset σ 5 3 (nI 0)))
def isVn (V : Nat) (x : Int32) : Bool := !decide (x < 0) && !decide (nI V ≤ x)
def isTn (T : Nat) (x : Int32) : Bool := !decide (x < nI 100) && !decide (nI (100 + T) ≤ x)
def isKn (n : Nat) (x : Int32) : Bool := !decide (x < 0) && !decide (nI n < x)
