theorem mn_mhc {σ : Mem} {x : HC} : mn (mhc σ x) = mn σ := by funext p; unfold mn; rw [mhc_n (by decide) (by decide)]
theorem vH_mhc {σ : Mem} {P k : Nat} {x y : HC} (h : vH σ P k x) : vH (mhc σ y) P k x := by
  refine ⟨h.1, fun j a b c => ?_⟩
  obtain ⟨p, d, o, h1, h2, h3, h4⟩ := h.2 j a b c
  exact ⟨p, d, o, h1, by rw [mn_mhc]; exact h2, h3, h4⟩
theorem prH_mhc {σ : Mem} {k : Nat} {v : Int32} {x y : HC} : ∀ q, prH (mhc σ y) k v x q = prH σ k v x q
  | 0 => rfl
  | q + 1 => by rw [prH, prH, prH_mhc q, mhc_n (by decide) (by decide)]
theorem cdH_mhc {σ : Mem} {k p q o : Nat} {x y : HC} : ∀ e, cdH (mhc σ y) k p q o x e = cdH σ k p q o x e
  | 0 => rfl
  | e + 1 => by rw [cdH, cdH, cdH_mhc e, bhF_mhc, mhc_n (by decide) (by decide)]
theorem cqH_mhc {σ : Mem} {k p o : Nat} {x y : HC} : ∀ q, cqH (mhc σ y) k p o x q = cqH σ k p o x q
  | 0 => rfl
  | q + 1 => by rw [cqH, cqH, cqH_mhc q, cdH_mhc, mn_mhc]
theorem brH_mhc {σ : Mem} {P k p d o : Nat} {x y : HC} : brH (mhc σ y) P k p d o x = brH σ P k p d o x := by
  unfold brH; rw [bhF_mhc, cqH_mhc, prH_mhc]
theorem wh_back {σ : Mem} {P k : Nat} {x0 x : HC} (hx : ¬ x.2 = 0) (h : ∃ N0, ∀ N, whH σ P k (N0 + N) x0 = whH σ P k N x) : ∃ N0, ∀ N, whH σ P k (N0 + N) x0 = whH σ P k N (swH σ P k (flH x (nI 0)) 360) := by
  obtain ⟨N0, h⟩ := h
  refine ⟨N0 + 1, fun N => ?_⟩
  rw [show N0 + 1 + N = N0 + (N + 1) by omega, h, whH, if_neg hx]
theorem wh_exit {σ : Mem} {P k : Nat} {x0 x : HC} (hx : x.2 = 0) (h : ∃ N0, ∀ N, whH σ P k (N0 + N) x0 = whH σ P k N x) : ∃ N, mhc σ x = mhc σ (whH σ P k N x0) ∧ (whH σ P k N x0).2 = 0 := by
  obtain ⟨N0, h⟩ := h
  have h0 := h 0
  rw [Nat.add_zero, whH] at h0
  exact ⟨N0, by rw [h0], by rw [h0]; exact hx⟩
/-- set k made anew by the model: τ is what its loops come to -/
def filP (σ : Mem) (P k : Nat) (τ : Mem) : Prop := ∃ N, τ = mhc σ (whH σ P k N (flH (spH σ k (clH k (σ 5, σ 0 10) 360) P) (nI 1))) ∧ (whH σ P k N (flH (spH σ k (clH k (σ 5, σ 0 10) 360) P) (nI 1))).2 = 0
