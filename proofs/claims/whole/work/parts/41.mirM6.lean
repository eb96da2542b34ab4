/-- the model's cells, but for its sets and its steps -/
def mI (σ : Mem) (P n V T : Nat) : Prop := mG σ P ∧ n ≤ 8 ∧ σ 0 7 = nI n ∧ bH (σ 5, σ 0 10) ∧ V ≤ 6 ∧ σ 0 0 = nI V ∧ T ≤ 6 ∧ σ 0 1 = nI T
theorem isVn_of {V : Nat} {x : Int32} (hV : V ≤ 6) (h : isVn V x = true) : x = nI x.toNatClampNeg ∧ x.toNatClampNeg < V := by
  have h1 : ¬ x < 0 := fun q => by simp [isVn, q] at h
  have h2 : ¬ nI V ≤ x := fun q => by simp [isVn, q] at h
  obtain ⟨j, hj, rfl⟩ := nI_of h1
  rw [nI_clamp hj]
  exact ⟨rfl, by
    rcases Nat.lt_or_ge j V with q | q
    · exact q
    · exact absurd ((nI_leI (by omega) hj).mpr q) h2⟩
theorem isTn_of {T : Nat} {x : Int32} (hT : T ≤ 6) (h : isTn T x = true) : x = nI x.toNatClampNeg ∧ 100 ≤ x.toNatClampNeg ∧ x.toNatClampNeg < 100 + T := by
  have h1 : ¬ x < nI 100 := fun q => by simp [isTn, q] at h
  have h2 : ¬ nI (100 + T) ≤ x := fun q => by simp [isTn, q] at h
  have h0 : ¬ x < 0 := fun q => h1 (Int32.lt_trans q (by decide))
  obtain ⟨j, hj, rfl⟩ := nI_of h0
  rw [nI_clamp hj]
  refine ⟨rfl, ?_, ?_⟩
  · rcases Nat.lt_or_ge j 100 with q | q
    · exact absurd ((nI_ltI hj (by decide)).mpr q) h1
    · exact q
  · rcases Nat.lt_or_ge j (100 + T) with q | q
    · exact q
    · exact absurd ((nI_leI (by omega) hj).mpr q) h2
def mAdd (σ : Mem) (P : Nat) (x : Int32) : Mem := mset (mset (mset (mset σ 0 2 (nI 0)) 1 P x) 2 P (nI 0)) 0 3 (nI (P + 1))
def mCh (σ : Mem) : Mem := mset (mset σ 0 14 (nI 0)) 0 12 (nI 0)
theorem mG_ch {σ : Mem} {P : Nat} (h : mG σ P) : mG (mCh σ) P := mG_of h (by unfold mCh; rw [mset_i (by decide), mset_i (by decide)]) (by unfold mCh; rw [mset_n (by decide), mset_n (by decide)]) (by unfold mCh; rw [mset_n (by decide), mset_n (by decide)]) (by unfold mCh; rw [mset_n (by decide), mset_n (by decide)])
theorem bH_ch {σ : Mem} (h : bH (σ 5, σ 0 10)) : bH (mCh σ 5, mCh σ 0 10) := by
  unfold mCh
  rw [mset_n (by decide), mset_n (by decide), mset_i (by decide), mset_i (by decide)]
  exact h
theorem mAdd_lo {σ : Mem} {P q p : Nat} {x : Int32} (hq : q = 1 ∨ q = 2) (hp : p ≠ P) : mAdd σ P x q p = σ q p := by
  unfold mAdd
  rcases hq with rfl | rfl
  · rw [mset_n (by decide), mset_n (by decide), mset_i hp, mset_n (by decide)]
  · rw [mset_n (by decide), mset_i hp, mset_n (by decide), mset_n (by decide)]
theorem mG_add {σ : Mem} {P y : Nat} (h : mG σ P) (hP : P < 8) (hy : y < 6) : mG (mAdd σ P (nI y)) (P + 1) := by
  refine ⟨by omega, mset_s, fun p hp => ?_⟩
  have h3 : mAdd σ P (nI y) 3 = σ 3 := by unfold mAdd; rw [mset_n (by decide), mset_n (by decide), mset_n (by decide), mset_n (by decide)]
  by_cases e : p = P
  · subst e
    have e1 : mAdd σ p (nI y) 1 p = nI y := by unfold mAdd; rw [mset_n (by decide), mset_n (by decide), mset_s]
    have e2 : mAdd σ p (nI y) 2 p = nI 0 := by unfold mAdd; rw [mset_n (by decide), mset_s]
    have m1 : ml (mAdd σ p (nI y)) p = y := by unfold ml; rw [e1, nI_clamp (by omega)]
    have m2 : mn (mAdd σ p (nI y)) p = 0 := by unfold mn; rw [e2, nI_clamp (by decide)]
    rw [m1, m2, e1, e2]
    exact ⟨rfl, hy, rfl, Nat.zero_le _, fun d hd => absurd hd (Nat.not_lt_zero _)⟩
  · have e1 := mAdd_lo (σ := σ) (x := nI y) (Or.inl rfl : 1 = 1 ∨ 1 = 2) e
    have e2 := mAdd_lo (σ := σ) (x := nI y) (Or.inr rfl : 2 = 1 ∨ 2 = 2) e
    have m1 : ml (mAdd σ P (nI y)) p = ml σ p := by unfold ml; rw [e1]
    have m2 : mn (mAdd σ P (nI y)) p = mn σ p := by unfold mn; rw [e2]
    have m3 : mr (mAdd σ P (nI y)) = mr σ := by funext i; unfold mr; rw [h3]
    rw [m1, m2, m3, e1, e2, h3]
    exact h.2.2 p (by omega)
theorem bH_add {σ : Mem} {P : Nat} {x : Int32} (h : bH (σ 5, σ 0 10)) : bH (mAdd σ P x 5, mAdd σ P x 0 10) := by
  unfold mAdd
  rw [mset_n (by decide), mset_n (by decide), mset_n (by decide), mset_n (by decide), mset_i (by decide), mset_n (by decide), mset_n (by decide), mset_i (by decide)]
  exact h
/-- one more symbol for the last production -/
def mRhs (σ : Mem) (q L : Nat) (x : Int32) : Mem := mset (mset (mset σ 0 2 (nI 0)) 3 (4 * q + L) x) 2 q (nI (L + 1))
theorem mG_rhs {σ : Mem} {P q y : Nat} (h : mG σ P) (hq : q < P) (hL : mn σ q < 4) (hy : y < 6 ∨ (100 ≤ y ∧ y < 106)) : mG (mRhs σ q (mn σ q) (nI y)) P := by
  have h1 : mRhs σ q (mn σ q) (nI y) 1 = σ 1 := by unfold mRhs; rw [mset_n (by decide), mset_n (by decide), mset_n (by decide)]
  have m1 : ml (mRhs σ q (mn σ q) (nI y)) = ml σ := by funext i; unfold ml; rw [h1]
  refine ⟨h.1, by unfold mRhs; rw [mset_n (by decide), mset_n (by decide), mset_i (by decide)]; exact h.2.1, fun p hp => ?_⟩
  obtain ⟨g1, g2, g3, g4, g5⟩ := h.2.2 p hp
  have r3 : ∀ i, i ≠ 4 * q + mn σ q → mRhs σ q (mn σ q) (nI y) 3 i = σ 3 i := fun i hi => by unfold mRhs; rw [mset_n (by decide), mset_i hi, mset_n (by decide)]
  have r3' : mRhs σ q (mn σ q) (nI y) 3 (4 * q + mn σ q) = nI y := by unfold mRhs; rw [mset_n (by decide), mset_s]
  by_cases e : p = q
  · subst e
    have e2 : mRhs σ p (mn σ p) (nI y) 2 p = nI (mn σ p + 1) := mset_s
    have m2 : mn (mRhs σ p (mn σ p) (nI y)) p = mn σ p + 1 := by rw [mn, e2, nI_clamp (by omega)]
    rw [m1, m2, h1, e2]
    refine ⟨g1, g2, rfl, by omega, fun d hd => ?_⟩
    by_cases ed : d = mn σ p
    · subst ed
      have m3 : mr (mRhs σ p (mn σ p) (nI y)) (4 * p + mn σ p) = y := by unfold mr; rw [r3', nI_clamp (by omega)]
      rw [m3, r3']; exact ⟨rfl, hy⟩
    · have m3 : mr (mRhs σ p (mn σ p) (nI y)) (4 * p + d) = mr σ (4 * p + d) := by unfold mr; rw [r3 _ (by omega)]
      rw [m3, r3 _ (by omega)]; exact g5 d (by omega)
  · have e2 : mRhs σ q (mn σ q) (nI y) 2 p = σ 2 p := by unfold mRhs; rw [mset_i e, mset_n (by decide), mset_n (by decide)]
    have m2 : mn (mRhs σ q (mn σ q) (nI y)) p = mn σ p := by rw [mn, e2]; rfl
    rw [m1, m2, h1, e2]
    refine ⟨g1, g2, g3, g4, fun d hd => ?_⟩
    have m3 : mr (mRhs σ q (mn σ q) (nI y)) (4 * p + d) = mr σ (4 * p + d) := by unfold mr; rw [r3 _ (by omega)]
    rw [m3, r3 _ (by omega)]; exact g5 d hd
theorem bH_rhs {σ : Mem} {q L : Nat} {x : Int32} (h : bH (σ 5, σ 0 10)) : bH (mRhs σ q L x 5, mRhs σ q L x 0 10) := by
  unfold mRhs
  rw [mset_n (by decide), mset_n (by decide), mset_n (by decide), mset_n (by decide), mset_n (by decide), mset_i (by decide)]
  exact h
/-- a token is fed -/
def mFed (σ : Mem) (n : Nat) (x : Int32) : Mem := mset (mset (mset σ 0 2 (nI 0)) 0 7 (nI (n + 1))) 4 (n + 1) x
theorem mG_fed {σ : Mem} {P n : Nat} {x : Int32} (h : mG σ P) : mG (mFed σ n x) P := mG_of h (by unfold mFed; rw [mset_n (by decide), mset_i (by decide), mset_i (by decide)]) (by unfold mFed; rw [mset_n (by decide), mset_n (by decide), mset_n (by decide)]) (by unfold mFed; rw [mset_n (by decide), mset_n (by decide), mset_n (by decide)]) (by unfold mFed; rw [mset_n (by decide), mset_n (by decide), mset_n (by decide)])
theorem bH_fed {σ : Mem} {n : Nat} {x : Int32} (h : bH (σ 5, σ 0 10)) : bH (mFed σ n x 5, mFed σ n x 0 10) := by
  unfold mFed
  rw [mset_n (by decide), mset_n (by decide), mset_n (by decide), mset_n (by decide), mset_i (by decide), mset_i (by decide)]
  exact h
def accF (σ : Mem) (n : Nat) : Nat → Bool
  | 0 => false
  | p + 1 => accF σ n p || (decide (ml σ p = ml σ 0) && !decide (σ 5 (ix n p (mn σ p) 0) = 0))
def filQ (σ : Mem) (P k : Nat) (τ : Mem) : Prop := filP (mCh σ) P k τ
/-- the place of the item with i others before it -/
def itP (f : Nat → Int32) (b : Nat) (i : Nat) (a : Nat) : Prop := a < 360 ∧ ¬ f (b + a) = 0 ∧ cntH f b a = i
theorem mI_thr {σ : Mem} {P n V T : Nat} {x : Int32} (h : mI σ P n V T) : mI (mset σ 0 2 x) P n V T := by
  obtain ⟨hg, hn8, hn7, hvb, hV6, hV, hT6, hT⟩ := h
  exact ⟨mG_of hg (mset_i (by decide)) (mset_n (by decide)) (mset_n (by decide)) (mset_n (by decide)), hn8, by rw [mset_i (by decide)]; exact hn7, by rw [mset_n (by decide), mset_i (by decide)]; exact hvb, hV6, by rw [mset_i (by decide)]; exact hV, hT6, by rw [mset_i (by decide)]; exact hT⟩
theorem accF_thr {σ : Mem} {n : Nat} {x : Int32} : ∀ p, accF (mset σ 0 2 x) n p = accF σ n p
  | 0 => rfl
  | p + 1 => by
    rw [accF, accF, accF_thr p]
    unfold ml mn
    rw [mset_n (by decide), mset_n (by decide), mset_n (by decide)]
theorem filP_0 {σ τ : Mem} {P k f : Nat} (h : filP σ P k τ) (hf : f ≠ 10) : τ 0 f = σ 0 f := by
  obtain ⟨N, rfl, -⟩ := h
  exact mhc_0 hf
theorem filQ_03 {σ τ : Mem} {P k : Nat} {x : Int32} (h : filQ σ P k τ) (hx : σ 0 3 = x) : τ 0 3 = x := by
  rw [filP_0 h (by decide)]; unfold mCh; rw [mset_i (by decide), mset_i (by decide)]; exact hx
theorem filP_07 {σ τ : Mem} {P k : Nat} {x : Int32} (h : filP σ P k τ) (hx : σ 0 7 = x) : τ 0 7 = x := by rw [filP_0 h (by decide)]; exact hx
theorem mChFed_07 {σ : Mem} {n : Nat} {x : Int32} : mCh (mFed σ n x) 0 7 = nI (n + 1) := by
  unfold mCh mFed; rw [mset_i (by decide), mset_i (by decide), mset_n (by decide), mset_s]
theorem isKn_of {n : Nat} {x : Int32} (hn : n ≤ 8) (h1 : ¬ x < 0) (h2 : x ≤ nI n) : x = nI x.toNatClampNeg ∧ x.toNatClampNeg ≤ n := by
  obtain ⟨j, hj, rfl⟩ := nI_of h1
  rw [nI_clamp hj]
  exact ⟨rfl, (nI_leI hj (by omega)).mp h2⟩
theorem isVn_of2 {V : Nat} {x : Int32} (hV : V ≤ 8000) (h1 : ¬ x < 0) (h2 : x < nI V) : x = nI x.toNatClampNeg ∧ x.toNatClampNeg < V := by
  obtain ⟨j, hj, rfl⟩ := nI_of h1
  rw [nI_clamp hj]
  exact ⟨rfl, (nI_ltI hj (by omega)).mp h2⟩
