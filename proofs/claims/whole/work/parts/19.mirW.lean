def lowPC (σ : Mem) (n : Nat) (v : Int32) (i j p : Nat) : Bool := !decide (symS σ n v i j = (-1)) && (decide (σ 6 p = v) && decide (σ (gf σ p + 34) (i * 9 + j) = symS σ n v i j - nI 1))
def lowPF (σ : Mem) (n : Nat) (v : Int32) (i j : Nat) : Nat → Nat → Int32
  | 0, _ => (-1)
  | k + 1, p => if lowPC σ n v i j p = true then nI p else lowPF σ n v i j k (p + 1)
def lowP (σ : Mem) (P n : Nat) (v : Int32) (i j : Nat) : Int32 := lowPF σ n v i j P 0
theorem lowPF_of {σ : Mem} {n : Nat} {v : Int32} {i j : Nat} : ∀ (k p : Nat), lowPF σ n v i j k p = (-1) ∨ ∃ q, p ≤ q ∧ q < p + k ∧ lowPF σ n v i j k p = nI q ∧ lowPC σ n v i j q = true
  | 0, p => Or.inl rfl
  | k + 1, p => by
    rw [lowPF]
    by_cases h : lowPC σ n v i j p = true
    · rw [if_pos h]; exact Or.inr ⟨p, Nat.le_refl _, by omega, rfl, h⟩
    · rw [if_neg h]
      rcases lowPF_of k (p + 1) with e | ⟨q, h1, h2, h3, h4⟩
      · exact Or.inl e
      · exact Or.inr ⟨q, by omega, by omega, h3, h4⟩
theorem lowP_of {σ : Mem} {P n : Nat} {v : Int32} {i j : Nat} (hP : P ≤ 8) (h : ¬ lowP σ P n v i j = (-1)) : lowP σ P n v i j = nI (lowP σ P n v i j).toNatClampNeg ∧ (lowP σ P n v i j).toNatClampNeg < P := by
  rcases lowPF_of (σ := σ) (n := n) (v := v) (i := i) (j := j) P 0 with e | ⟨q, h1, h2, h3, h4⟩
  · exact absurd e h
  · have e : lowP σ P n v i j = nI q := h3
    rw [e, nI_clamp (by omega)]
    exact ⟨rfl, by omega⟩
def shC (σ : Mem) (n S t i j m : Nat) : Bool := !decide (σ (t + 34) (i * 9 + j) = (-1)) && decide (splitS σ n S t i m j = σ (t + 34) (i * 9 + j))
def shF (σ : Mem) (n S t i j : Nat) : Nat → Nat → Nat
  | 0, m => m
  | k + 1, m => if shC σ n S t i j m = true then m else shF σ n S t i j k (m + 1)
def shE (σ : Mem) (n S t i j : Nat) : Nat := shF σ n S t i j (j - i) i
theorem shF_in {σ : Mem} {n S t i j : Nat} : ∀ (k m : Nat), m ≤ shF σ n S t i j k m ∧ shF σ n S t i j k m ≤ m + k
  | 0, m => ⟨Nat.le_refl _, Nat.le_refl _⟩
  | k + 1, m => by
    rw [shF]
    split
    · exact ⟨Nat.le_refl _, by omega⟩
    · have := shF_in (σ := σ) (n := n) (S := S) (t := t) (i := i) (j := j) k (m + 1)
      omega
theorem shE_in {σ : Mem} {n S t i j : Nat} (h : i ≤ j) : i ≤ shE σ n S t i j ∧ shE σ n S t i j ≤ j := by
  have := shF_in (σ := σ) (n := n) (S := S) (t := t) (i := i) (j := j) (j - i) i
  unfold shE
  omega
def openM (σ : Mem) (P n : Nat) (v : Int32) (i j d c : Nat) : Mem :=
  if lowP σ P n v i j = (-1) then σ else if d < 54 then (if c < 8000 then
    mset (mset (mset (mset (mset (mset σ 15 c (lowP σ P n v i j)) 5 3 (nI (c + 1))) 16 d (σ 7 (lowP σ P n v i j).toNatClampNeg)) 17 d (nI i)) 18 d (nI j)) 5 7 (nI (d + 1))
  else mset σ 5 7 (nI 0)) else σ
def go1 (σ : Mem) (n S d t a b : Nat) : Mem := mset (mset σ 16 d (nI (t + 1))) 17 d (nI (shE σ n S t a b))
def goM (σ : Mem) (P S n d t a b c : Nat) : Mem := if σ 8 t = (-1) then mset σ 5 7 (nI d) else if isV (σ 8 t) = true then openM (go1 σ n S d t a b) P n (σ 8 t) a (shE σ n S t a b) (d + 1) c else go1 σ n S d t a b
/-- what the witness's stack holds: slots of the grammar, each with a stretch of the input -/
def wI (μ : Mem) (P S n d c : Nat) : Prop := tS μ P S n ∧ d ≤ 54 ∧ c ≤ 8000 ∧ μ 5 7 = nI d ∧ μ 5 3 = nI c ∧ ∀ e, e < d → ∃ t a b, t < S ∧ a ≤ b ∧ b ≤ n ∧ μ 16 e = nI t ∧ μ 17 e = nI a ∧ μ 18 e = nI b
def wd (μ : Mem) : Nat := (μ 5 7).toNatClampNeg
def wc (μ : Mem) : Nat := (μ 5 3).toNatClampNeg
def goT (P S n : Nat) (μ : Mem) : Mem := goM μ P S n (wd μ - 1) (μ 16 (wd μ - 1)).toNatClampNeg (μ 17 (wd μ - 1)).toNatClampNeg (μ 18 (wd μ - 1)).toNatClampNeg (wc μ)
def tellF (P S n : Nat) : Nat → Mem → Mem
  | 0, μ => μ
  | k + 1, μ => if 0 < wd μ then tellF P S n k (goT P S n μ) else μ
theorem tS_low {σ τ : Mem} {P S n : Nat} (h : tS σ P S n) (he : ∀ q, q ≠ 5 → q < 15 → τ q = σ q) : tS τ P S n :=
  ⟨gS_of h.1 (he 1 (by decide) (by decide)) (he 6 (by decide) (by decide)) (he 7 (by decide) (by decide)) (he 8 (by decide) (by decide)) (he 9 (by decide) (by decide)), h.2.1, by rw [he 2 (by decide) (by decide)]; exact h.2.2⟩
theorem mset_n {σ : Mem} {q k i : Nat} {x : Int32} (h : q ≠ k) : mset σ k i x q = σ q := mrow_n h
theorem mset_s {σ : Mem} {k i : Nat} {x : Int32} : mset σ k i x k i = x := by simp [mset, mrow, upd]
theorem mset_i {σ : Mem} {k i j : Nat} {x : Int32} (h : j ≠ i) : mset σ k i x k j = σ k j := by simp [mset, mrow, upd, h]
theorem openM_tS {σ : Mem} {P S n i j d c : Nat} {v : Int32} (h : tS σ P S n) : tS (openM σ P n v i j d c) P S n := by
  refine tS_low h (fun q h5 h15 => ?_)
  unfold openM
  split
  · rfl
  · split
    · split
      · rw [mset_n h5, mset_n (by omega), mset_n (by omega), mset_n (by omega), mset_n h5, mset_n (by omega)]
      · rw [mset_n h5]
    · rfl
theorem openM_wI {σ : Mem} {P S n i j d c : Nat} {v : Int32} (h : wI σ P S n d c) (hij : i ≤ j) (hj : j ≤ n) : ∃ d1 c1, wI (openM σ P n v i j d c) P S n d1 c1 := by
  obtain ⟨hT, h1, h2, h3, h4, h5⟩ := h
  have hT' := openM_tS (i := i) (j := j) (d := d) (c := c) (v := v) hT
  by_cases e1 : lowP σ P n v i j = (-1)
  · exact ⟨d, c, by unfold openM; rw [if_pos e1]; exact ⟨hT, h1, h2, h3, h4, h5⟩⟩
  · by_cases e2 : d < 54
    · by_cases e3 : c < 8000
      · refine ⟨d + 1, c + 1, hT', by omega, by omega, ?_⟩
        unfold openM
        rw [if_neg e1, if_pos e2, if_pos e3]
        refine ⟨mset_s, ?_, ?_⟩
        · rw [mset_i (by decide), mset_n (by decide), mset_n (by decide), mset_n (by decide), mset_s]
        · intro e he
          obtain ⟨hl1, hl2⟩ := lowP_of hT.1.1 e1
          have hf := (hT.1.2.2.2.2.1 _ hl2).2.2
          by_cases ed : e = d
          · subst ed
            refine ⟨gf σ (lowP σ P n v i j).toNatClampNeg, i, j, hf.2, hij, hj, ?_, ?_, ?_⟩
            · rw [mset_n (by decide), mset_n (by decide), mset_n (by decide), mset_s]; exact hf.1
            · rw [mset_n (by decide), mset_n (by decide), mset_s]
            · rw [mset_n (by decide), mset_s]
          · obtain ⟨t, a, b, q1, q2, q3, q4, q5, q6⟩ := h5 e (by omega)
            refine ⟨t, a, b, q1, q2, q3, ?_, ?_, ?_⟩
            · rw [mset_n (by decide), mset_n (by decide), mset_n (by decide), mset_i ed, mset_n (by decide), mset_n (by decide)]; exact q4
            · rw [mset_n (by decide), mset_n (by decide), mset_i ed, mset_n (by decide), mset_n (by decide), mset_n (by decide)]; exact q5
            · rw [mset_n (by decide), mset_i ed, mset_n (by decide), mset_n (by decide), mset_n (by decide), mset_n (by decide)]; exact q6
      · refine ⟨0, c, hT', by omega, h2, ?_⟩
        unfold openM
        rw [if_neg e1, if_pos e2, if_neg e3]
        exact ⟨mset_s, by rw [mset_i (by decide)]; exact h4, fun e he => absurd he (Nat.not_lt_zero _)⟩
    · exact ⟨d, c, by unfold openM; rw [if_neg e1, if_neg e2]; exact ⟨hT, h1, h2, h3, h4, h5⟩⟩
theorem go1_tS {σ : Mem} {P S n d t a b : Nat} (h : tS σ P S n) : tS (go1 σ n S d t a b) P S n :=
  tS_low h (fun q _ h15 => by unfold go1; rw [mset_n (by omega), mset_n (by omega)])
theorem goM_wI {σ : Mem} {P S n d c t a b : Nat} (h : wI σ P S n (d + 1) c) (ht : σ 16 d = nI t) (ha : σ 17 d = nI a) (hb : σ 18 d = nI b) (htS : t < S) (hab : a ≤ b) (hbn : b ≤ n) : ∃ d1 c1, wI (goM σ P S n d t a b c) P S n d1 c1 := by
  obtain ⟨hT, h1, h2, h3, h4, h5⟩ := h
  unfold goM
  by_cases e1 : σ 8 t = (-1)
  · rw [if_pos e1]
    refine ⟨d, c, tS_low hT (fun q h5 _ => mset_n h5), by omega, h2, mset_s, by rw [mset_i (by decide)]; exact h4, fun e he => ?_⟩
    obtain ⟨t', a', b', q1, q2, q3, q4, q5, q6⟩ := h5 e (by omega)
    exact ⟨t', a', b', q1, q2, q3, by rw [mset_n (by decide)]; exact q4, by rw [mset_n (by decide)]; exact q5, by rw [mset_n (by decide)]; exact q6⟩
  · rw [if_neg e1]
    have hm := shE_in (σ := σ) (n := n) (S := S) (t := t) hab
    have hg : wI (go1 σ n S d t a b) P S n (d + 1) c := by
      refine ⟨go1_tS hT, h1, h2, by unfold go1; rw [mset_n (by decide), mset_n (by decide)]; exact h3, by unfold go1; rw [mset_n (by decide), mset_n (by decide)]; exact h4, fun e he => ?_⟩
      unfold go1
      by_cases ed : e = d
      · subst ed
        rcases hT.1.2.2.2.2.2.2 t htS with q | ⟨q, -, -⟩
        · exact absurd q e1
        · exact ⟨t + 1, shE σ n S t a b, b, q, hm.2, hbn, by rw [mset_n (by decide), mset_s], mset_s, by rw [mset_n (by decide), mset_n (by decide)]; exact hb⟩
      · obtain ⟨t', a', b', q1, q2, q3, q4, q5, q6⟩ := h5 e he
        exact ⟨t', a', b', q1, q2, q3, by rw [mset_n (by decide), mset_i ed]; exact q4, by rw [mset_i ed, mset_n (by decide)]; exact q5, by rw [mset_n (by decide), mset_n (by decide)]; exact q6⟩
    by_cases e2 : isV (σ 8 t) = true
    · rw [if_pos e2]
      exact openM_wI hg hm.1 (by omega)
    · rw [if_neg e2]
      exact ⟨d + 1, c, hg⟩
theorem goT_eq {μ : Mem} {P S n d c t a b : Nat} (h : wI μ P S n (d + 1) c) (ht : μ 16 d = nI t) (ha : μ 17 d = nI a) (hb : μ 18 d = nI b) (htS : t < S) (hab : a ≤ b) (hbn : b ≤ n) : goM μ P S n d t a b c = goT P S n μ := by
  obtain ⟨hT, h1, h2, h3, h4, -⟩ := h
  have hS := hT.1.2.1
  have hn := hT.2.1
  have e1 : wd μ = d + 1 := by unfold wd; rw [h3, nI_clamp (by omega)]
  have e2 : wc μ = c := by unfold wc; rw [h4, nI_clamp (by omega)]
  unfold goT
  rw [e1, e2, Nat.add_sub_cancel, ht, ha, hb, nI_clamp (by omega), nI_clamp (by omega), nI_clamp (by omega)]
theorem tellF_stop {P S n : Nat} {μ : Mem} (h : ¬ 0 < wd μ) : ∀ k, tellF P S n k μ = μ
  | 0 => rfl
  | k + 1 => by rw [tellF, if_neg h]
