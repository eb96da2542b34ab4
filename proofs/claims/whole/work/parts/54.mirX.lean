theorem xd_n0 : decode prog_18_method_4_code 0 = .ok (.aload_n 0, 1) := by decide +kernel
theorem xd_n1 : decode prog_18_method_4_code 1 = .ok (.aload_n 1, 1) := by decide +kernel
theorem xd_n2 : decode prog_18_method_4_code 2 = .ok (.invokespecial 13, 3) := by decide +kernel
theorem xd_n5 : decode prog_18_method_4_code 5 = .ok (.return_, 1) := by decide +kernel
/-! the class's changes of grammar and input -/
def addE (σ : Mem) (P S : Nat) (v : Int32) : Mem := mset (mset (mset (mset (mset (mset σ 6 P v) 7 P (nI S)) 1 4 (nI (P + 1))) 8 S (-1)) 9 S (nI P)) 1 5 (nI (S + 1))
def appE (σ : Mem) (P S : Nat) (v : Int32) : Mem := mset (mset (mset (mset σ 8 (S - 1) v) 8 S (-1)) 9 S (nI (P - 1))) 1 5 (nI (S + 1))
theorem gS_add {σ : Mem} {P S y : Nat} (h : gS σ P S) (hP : P < 8) (hS : S < 24) (hy : y < 6) : gS (addE σ P S (nI y)) (P + 1) (S + 1) := by
  obtain ⟨-, -, h3, h4, h5, h6, h7⟩ := h
  have e6 : ∀ p, addE σ P S (nI y) 6 p = if p = P then nI y else σ 6 p := fun p => by simp [addE, mset, mrow, upd]
  have e7 : ∀ p, addE σ P S (nI y) 7 p = if p = P then nI S else σ 7 p := fun p => by simp [addE, mset, mrow, upd]
  have e8 : ∀ t, addE σ P S (nI y) 8 t = if t = S then -1 else σ 8 t := fun t => by simp [addE, mset, mrow, upd]
  have e9 : ∀ t, addE σ P S (nI y) 9 t = if t = S then nI P else σ 9 t := fun t => by simp [addE, mset, mrow, upd]
  have ev : ∀ p, gv (addE σ P S (nI y)) p = if p = P then y else gv σ p := fun p => by
    unfold gv; rw [e6]; split
    · rw [nI_clamp (by omega)]
    · rfl
  have ef : ∀ p, gf (addE σ P S (nI y)) p = if p = P then S else gf σ p := fun p => by
    unfold gf; rw [e7]; split
    · rw [nI_clamp (by omega)]
    · rfl
  have ep : ∀ t, gp (addE σ P S (nI y)) t = if t = S then P else gp σ t := fun t => by
    unfold gp; rw [e9]; split
    · rw [nI_clamp (by omega)]
    · rfl
  have ey : ∀ t, t ≠ S → gy (addE σ P S (nI y)) t = gy σ t := fun t ht => by
    unfold gy; rw [e8, if_neg ht]
  refine ⟨by omega, by omega, by simp [addE, mset, mrow, upd], by simp [addE, mset, mrow, upd], fun p hp => ?_, fun t ht => ?_, fun t ht => ?_⟩
  · rw [e6, e7, ev, ef]
    by_cases e : p = P
    · simp only [if_pos e]; exact ⟨trivial, hy, trivial, by omega⟩
    · simp only [if_neg e]; have := h5 p (by omega); exact ⟨this.1, this.2.1, this.2.2.1, by omega⟩
  · rw [e9, ep]
    by_cases e : t = S
    · simp only [if_pos e]; rw [ef, if_pos rfl]; exact ⟨trivial, by omega, by omega⟩
    · simp only [if_neg e]; have := h6 t (by omega); rw [ef, if_neg (by omega)]; exact ⟨this.1, by omega, this.2.2⟩
  · rw [e8]
    by_cases e : t = S
    · rw [if_pos e]; exact Or.inl rfl
    · rw [if_neg e, ey t e]
      rcases h7 t (by omega) with q | ⟨q1, q2, q3⟩
      · exact Or.inl q
      · exact Or.inr ⟨by omega, q2, q3⟩
theorem gS_app {σ : Mem} {P S y : Nat} (h : gS σ P S) (hP : 0 < P) (h0 : 0 < S) (hS : S < 24) (hy : y < 200) : gS (appE σ P S (nI y)) P (S + 1) := by
  obtain ⟨h1, -, h3, h4, h5, h6, h7⟩ := h
  have e6 : appE σ P S (nI y) 6 = σ 6 := by funext p; simp [appE, mset, mrow]
  have e7 : appE σ P S (nI y) 7 = σ 7 := by funext p; simp [appE, mset, mrow]
  have e8 : ∀ t, appE σ P S (nI y) 8 t = if t = S then -1 else if t = S - 1 then nI y else σ 8 t := fun t => by simp [appE, mset, mrow, upd]
  have e9 : ∀ t, appE σ P S (nI y) 9 t = if t = S then nI (P - 1) else σ 9 t := fun t => by simp [appE, mset, mrow, upd]
  have ev : gv (appE σ P S (nI y)) = gv σ := by funext p; unfold gv; rw [e6]
  have ef : gf (appE σ P S (nI y)) = gf σ := by funext p; unfold gf; rw [e7]
  have ep : ∀ t, gp (appE σ P S (nI y)) t = if t = S then P - 1 else gp σ t := fun t => by
    unfold gp; rw [e9]; split
    · rw [nI_clamp (by omega)]
    · rfl
  refine ⟨h1, by omega, by simp [appE, mset, mrow, upd]; exact h3, by simp [appE, mset, mrow, upd], fun p hp => ?_, fun t ht => ?_, fun t ht => ?_⟩
  · rw [e6, e7, ev, ef]; have := h5 p hp; exact ⟨this.1, this.2.1, this.2.2.1, by omega⟩
  · rw [e9, ep, ef]
    by_cases e : t = S
    · simp only [if_pos e]; have := h5 (P - 1) (by omega); exact ⟨trivial, by omega, by omega⟩
    · simp only [if_neg e]; exact h6 t (by omega)
  · rw [e8]
    by_cases e : t = S
    · rw [if_pos e]; exact Or.inl rfl
    · by_cases e' : t = S - 1
      · have ey : gy (appE σ P S (nI y)) t = y := by unfold gy; rw [e8, if_neg e, if_pos e', nI_clamp (by omega)]
        rw [if_neg e, if_pos e', ey]; exact Or.inr ⟨by omega, rfl, hy⟩
      · have ey : gy (appE σ P S (nI y)) t = gy σ t := by unfold gy; rw [e8, if_neg e, if_neg e']
        rw [if_neg e, if_neg e', ey]
        rcases h7 t (by omega) with q | ⟨q1, q2, q3⟩
        · exact Or.inl q
        · exact Or.inr ⟨by omega, q2, q3⟩
theorem gcM_n {P S n q : Nat} {σ : Mem} (h5 : q ≠ 5) (h12 : q ≠ 12) (h19 : q < 19) : gcM P S n σ q = σ q := by
  unfold gcM; rw [upF_lo _ _ (by omega), mfM_n h12 (by omega), mset_n h5]
theorem addE_2 {σ : Mem} {P S : Nat} {v : Int32} : addE σ P S v 2 = σ 2 := by funext i; simp [addE, mset, mrow]
theorem appE_2 {σ : Mem} {P S : Nat} {v : Int32} : appE σ P S v 2 = σ 2 := by funext i; simp [appE, mset, mrow]
theorem tS_add {σ : Mem} {P S n y : Nat} (h : tS σ P S n) (hP : P < 8) (hS : S < 24) (hy : y < 6) : tS (addE σ P S (nI y)) (P + 1) (S + 1) n := ⟨gS_add h.1 hP hS hy, h.2.1, by rw [addE_2]; exact h.2.2⟩
theorem tS_app {σ : Mem} {P S n y : Nat} (h : tS σ P S n) (hP : 0 < P) (h0 : 0 < S) (hS : S < 24) (hy : y < 200) : tS (appE σ P S (nI y)) P (S + 1) n := ⟨gS_app h.1 hP h0 hS hy, h.2.1, by rw [appE_2]; exact h.2.2⟩
def fedE (σ : Mem) (n : Nat) (x : Int32) : Mem := mset (mset (mset σ 5 3 (nI 0)) 10 n x) 2 1 (nI (n + 1))
def nxE (σ : Mem) (P S n : Nat) (x : Int32) : Mem := closeM (n + 1) P S 1000 (mrow (fedE σ n x) (n + 1 + 19) (nextR (fedE σ n x) (n + 1) x (S - 1)))
def feedE (σ : Mem) (P S n : Nat) (x : Int32) : Mem := upF (n + 1) S (n + 1) (n + 1 + 1) (nxE σ P S n x)
theorem fedE_n {σ : Mem} {n q : Nat} {x : Int32} (h5 : q ≠ 5) (h10 : q ≠ 10) (h2 : q ≠ 2) : fedE σ n x q = σ q := by unfold fedE; rw [mset_n h2, mset_n h10, mset_n h5]
theorem fedE_21 {σ : Mem} {n : Nat} {x : Int32} : fedE σ n x 2 1 = nI (n + 1) := mset_s
theorem gS_fed {σ : Mem} {P S n : Nat} {x : Int32} (h : gS σ P S) : gS (fedE σ n x) P S := gS_of h (fedE_n (by decide) (by decide) (by decide)) (fedE_n (by decide) (by decide) (by decide)) (fedE_n (by decide) (by decide) (by decide)) (fedE_n (by decide) (by decide) (by decide)) (fedE_n (by decide) (by decide) (by decide))
theorem nxE_n {σ : Mem} {P S n q : Nat} {x : Int32} (h12 : q ≠ 12) (h19 : q < 19) : nxE σ P S n x q = fedE σ n x q := by
  unfold nxE; rw [closeM_n h12 (by omega), mrow_n (by omega)]
theorem nxE_21 {σ : Mem} {P S n : Nat} {x : Int32} : nxE σ P S n x 2 1 = nI (n + 1) := by rw [nxE_n (by decide) (by decide), fedE_21]
theorem tS_nx {σ : Mem} {P S n : Nat} {x : Int32} (h : gS σ P S) (hn : n < 8) : tS (nxE σ P S n x) P S (n + 1) :=
  ⟨gS_of (gS_fed (n := n) (x := x) h) (nxE_n (by decide) (by decide)) (nxE_n (by decide) (by decide)) (nxE_n (by decide) (by decide)) (nxE_n (by decide) (by decide)) (nxE_n (by decide) (by decide)), by omega, nxE_21⟩
theorem feedE_n {σ : Mem} {P S n q : Nat} {x : Int32} (h : q < 28) : feedE σ P S n x q = nxE σ P S n x q := upF_lo _ _ h
theorem feedE_21 {σ : Mem} {P S n : Nat} {x : Int32} : feedE σ P S n x 2 1 = nI (n + 1) := by rw [feedE_n (by decide), nxE_21]
theorem tS_feed {σ : Mem} {P S n : Nat} {x : Int32} (h : gS σ P S) (hn : n < 8) : tS (feedE σ P S n x) P S (n + 1) := tS_of (tS_nx h hn) (fun q hq => feedE_n (by omega))
def tellE (σ : Mem) (P S n : Nat) : Mem := tellF P S n 1000000 (openM (mset (mset σ 5 3 (nI 0)) 5 7 (nI 0)) P n (σ 6 0) 0 n 0 0)
theorem isKn_t {n : Nat} {x : Int32} (hn : n ≤ 8) (h : isKn n x = true) : x = nI x.toNatClampNeg ∧ x.toNatClampNeg ≤ n := by
  refine isKn_of hn (fun q => by simp [isKn, q] at h) ?_
  have : ¬ nI n < x := fun q => by simp [isKn, q] at h
  exact Int32.not_lt.mp this
/-- the class's cells, as its methods ask them -/
def eI (σ : Mem) (P S n V T : Nat) : Prop := tS σ P S n ∧ P ≤ S ∧ S ≤ P + 16 ∧ V ≤ 6 ∧ σ 0 0 = nI V ∧ T ≤ 6 ∧ σ 0 1 = nI T
theorem eI_f {σ : Mem} {P S n V T : Nat} (h : eI σ P S n V T) : 0 < P → σ 7 (P - 1) = nI (gf σ (P - 1)) ∧ gf σ (P - 1) + 1 ≤ S := fun h0 => by
  have := h.1.1.2.2.2.2.1 (P - 1) (by omega)
  exact ⟨this.2.2.1, by omega⟩
