theorem mset_msr {σ : Mem} {s r : Nat → Nat} {q i : Nat} {x : Int32} (h6 : q ≠ 6) (h7 : q ≠ 7) : mset (msr σ s r) q i x = msr (mset σ q i x) s r := by
  funext j
  unfold mset msr
  by_cases e : j = q
  · subst e; rw [mrow_s, mrow_n h7, mrow_n h6, mrow_n h7, mrow_n h6, mrow_s]
  · rw [mrow_n e]
    by_cases e7 : j = 7
    · subst e7; rw [mrow_s, mrow_s]
    · rw [mrow_n e7, mrow_n e7]
      by_cases e6 : j = 6
      · subst e6; rw [mrow_s, mrow_s]
      · rw [mrow_n e6, mrow_n e6, mrow_n e]
abbrev WT : Type := Bool × (Nat → Nat) × (Nat → Nat)
def fillN (f : Nat → Nat) (v n : Nat) : Nat → Nat := fun j => if j < n then v else f j
theorem fillN_0 {f : Nat → Nat} {v : Nat} : fillN f v 0 = f := by funext j; simp [fillN]
theorem fillN_s {f : Nat → Nat} {v n : Nat} : updN (fillN f v n) n v = fillN f v (n + 1) := by
  funext j
  unfold updN fillN
  by_cases h : j = n
  · simp [h]
  · by_cases h2 : j < n
    · simp [h, h2, Nat.lt_succ_of_lt h2]
    · simp [h, h2, show ¬ j < n + 1 by omega]
theorem leN_fill {f : Nat → Nat} {n : Nat} (h : leN f) : leN (fillN f 1000000 n) := fun c => by unfold fillN; split; exact Nat.le_refl _; exact h c
def wcl (σ : Mem) (p i j : Nat) : Nat := 81 * ml σ p + 9 * i + j
def wiN (σ : Mem) (p j : Nat) (r : Nat → Nat) (x : Bool × (Nat → Nat)) : Nat → Bool × (Nat → Nat)
  | 0 => x
  | i + 1 => ((wiN σ p j r x i).1 || decide (r i + 1 < (wiN σ p j r x i).2 (wcl σ p i j)), updN (wiN σ p j r x i).2 (wcl σ p i j) (if r i + 1 < (wiN σ p j r x i).2 (wcl σ p i j) then r i + 1 else (wiN σ p j r x i).2 (wcl σ p i j)))
def wjS (σ : Mem) (p j : Nat) (x : WT) : WT := ((wiN σ p j (rowN σ x.2.1 p j x.2.2) (x.1, x.2.1) (j + 1)).1, (wiN σ p j (rowN σ x.2.1 p j x.2.2) (x.1, x.2.1) (j + 1)).2, rowN σ x.2.1 p j x.2.2)
def wjN (σ : Mem) (p : Nat) (x : WT) : Nat → WT
  | 0 => x
  | j + 1 => wjS σ p j (wjN σ p x j)
def wpN (σ : Mem) (n : Nat) (x : WT) : Nat → WT
  | 0 => x
  | p + 1 => wjN σ p (wpN σ n x p) (n + 1)
def wkN (σ : Mem) (P n : Nat) : Nat → WT → WT
  | 0, x => x
  | N + 1, x => if x.1 = true then wkN σ P n N (wpN σ n (false, x.2.1, x.2.2) P) else x
def lW (x : WT) : Prop := leN x.2.1 ∧ leN x.2.2
def oW (x y : WT) : Prop := (∀ c, y.2.1 c ≤ x.2.1 c) ∧ (y.1 = true → x.1 = true ∨ ∃ c, c < 486 ∧ y.2.1 c < x.2.1 c) ∧ (lW x → lW y)
theorem oW_rf {x : WT} : oW x x := ⟨fun _ => Nat.le_refl _, fun h => Or.inl h, id⟩
theorem oW_tr {x y z : WT} (h1 : oW x y) (h2 : oW y z) : oW x z := by
  refine ⟨fun c => Nat.le_trans (h2.1 c) (h1.1 c), fun h => ?_, fun h => h2.2.2 (h1.2.2 h)⟩
  rcases h2.2.1 h with q | ⟨c, hc, q⟩
  · rcases h1.2.1 q with q | ⟨c, hc, q⟩
    · exact Or.inl q
    · exact Or.inr ⟨c, hc, Nat.lt_of_le_of_lt (h2.1 c) q⟩
  · exact Or.inr ⟨c, hc, Nat.lt_of_lt_of_le q (h1.1 c)⟩
theorem wiN_ok {σ : Mem} {p j : Nat} {r : Nat → Nat} {x : Bool × (Nat → Nat)} (hl : ml σ p < 6) (hj : j < 9) : ∀ i, i ≤ j + 1 → (∀ c, (wiN σ p j r x i).2 c ≤ x.2 c) ∧ ((wiN σ p j r x i).1 = true → x.1 = true ∨ ∃ c, c < 486 ∧ (wiN σ p j r x i).2 c < x.2 c)
  | 0, _ => ⟨fun _ => Nat.le_refl _, fun h => Or.inl h⟩
  | i + 1, hi => by
    obtain ⟨h1, h2⟩ := wiN_ok (σ := σ) (r := r) (x := x) hl hj i (by omega)
    have hup : ∀ c, (wiN σ p j r x (i + 1)).2 c ≤ (wiN σ p j r x i).2 c := by
      intro c
      show updN _ _ _ c ≤ _
      unfold updN
      by_cases e : c = wcl σ p i j
      · rw [if_pos e, e]; split <;> omega
      · rw [if_neg e]; exact Nat.le_refl _
    refine ⟨fun c => Nat.le_trans (hup c) (h1 c), fun h => ?_⟩
    by_cases hlt : r i + 1 < (wiN σ p j r x i).2 (wcl σ p i j)
    · refine Or.inr ⟨wcl σ p i j, by unfold wcl; omega, ?_⟩
      have h3 := h1 (wcl σ p i j)
      show updN _ _ _ _ < _
      rw [updN, if_pos rfl, if_pos hlt]
      omega
    · have h4 : (wiN σ p j r x i).1 = true := by
        have h5 : ((wiN σ p j r x i).1 || decide (r i + 1 < (wiN σ p j r x i).2 (wcl σ p i j))) = true := h
        rw [decide_eq_false hlt, Bool.or_false] at h5
        exact h5
      rcases h2 h4 with q | ⟨c, hc, q⟩
      · exact Or.inl q
      · exact Or.inr ⟨c, hc, Nat.lt_of_le_of_lt (hup c) q⟩
theorem wjS_ok {σ : Mem} {p j : Nat} {x : WT} (hl : ml σ p < 6) (hj : j < 9) : oW x (wjS σ p j x) := by
  obtain ⟨h1, h2⟩ := wiN_ok (σ := σ) (p := p) (r := rowN σ x.2.1 p j x.2.2) (x := (x.1, x.2.1)) hl hj (j + 1) (Nat.le_refl _)
  exact ⟨h1, h2, fun h => ⟨fun c => Nat.le_trans (h1 c) (h.1 c), leN_row h.2⟩⟩
theorem wjN_ok {σ : Mem} {p : Nat} {x : WT} (hl : ml σ p < 6) : ∀ j, j ≤ 9 → oW x (wjN σ p x j)
  | 0, _ => oW_rf
  | j + 1, h => by rw [wjN]; exact oW_tr (wjN_ok hl j (by omega)) (wjS_ok hl (by omega))
theorem wpN_ok {σ : Mem} {P n : Nat} {x : WT} (hg : mG σ P) (hn : n ≤ 8) : ∀ p, p ≤ P → oW x (wpN σ n x p)
  | 0, _ => oW_rf
  | p + 1, h => by rw [wpN]; exact oW_tr (wpN_ok hg hn p (by omega)) (wjN_ok (hg.2.2 p (by omega)).2.1 _ (by omega))
def suN (f : Nat → Nat) : Nat → Nat
  | 0 => 0
  | c + 1 => suN f c + f c
theorem suN_le {f g : Nat → Nat} (h : ∀ c, f c ≤ g c) : ∀ n, suN f n ≤ suN g n
  | 0 => Nat.le_refl _
  | n + 1 => Nat.add_le_add (suN_le h n) (h n)
theorem suN_lt {f g : Nat → Nat} (h : ∀ c, f c ≤ g c) {c : Nat} (hc : f c < g c) : ∀ n, c < n → suN f n < suN g n
  | 0, h0 => absurd h0 (Nat.not_lt_zero _)
  | n + 1, h0 => by
    rw [suN, suN]
    by_cases e : c = n
    · subst e; have := suN_le h c; omega
    · have := suN_lt h hc n (by omega); have := h n; omega
def zeW (x : WT) : Nat := 2 * suN x.2.1 486 + (if x.1 = true then 1 else 0)
theorem zeW_lt {x y : WT} (hx : x.1 = true) (h : oW (false, x.2.1, x.2.2) y) : zeW y < zeW x := by
  unfold zeW
  rw [if_pos hx]
  have h1 := suN_le h.1 486
  by_cases hy : y.1 = true
  · rw [if_pos hy]
    rcases h.2.1 hy with q | ⟨c, hc, q⟩
    · cases q
    · have := suN_lt h.1 q 486 hc
      dsimp only at this
      omega
  · rw [if_neg hy]; dsimp only at h1; omega
theorem wk_back {σ : Mem} {P n : Nat} {x0 x : WT} (hx : x.1 = true) (h : ∃ N0, ∀ N, wkN σ P n (N0 + N) x0 = wkN σ P n N x) : ∃ N0, ∀ N, wkN σ P n (N0 + N) x0 = wkN σ P n N (wpN σ n (false, x.2.1, x.2.2) P) := by
  obtain ⟨N0, h⟩ := h
  refine ⟨N0 + 1, fun N => ?_⟩
  rw [show N0 + 1 + N = N0 + (N + 1) by omega, h, wkN, if_pos hx]
/-- what work() comes to -/
def wrkP (σ : Mem) (P n : Nat) (s r : Nat → Nat) (τ : Mem) : Prop := (¬ σ 0 12 = 0 ∧ τ = msr σ s r) ∨ (σ 0 12 = 0 ∧ ∃ N, τ = msr (mset σ 0 12 (nI 1)) (wkN (mset σ 0 12 (nI 1)) P n N (true, fillN s 1000000 486, r)).2.1 (wkN (mset σ 0 12 (nI 1)) P n N (true, fillN s 1000000 486, r)).2.2 ∧ (wkN (mset σ 0 12 (nI 1)) P n N (true, fillN s 1000000 486, r)).1 = false ∧ lW (wkN (mset σ 0 12 (nI 1)) P n N (true, fillN s 1000000 486, r)))
theorem wk_exit {σ κ : Mem} {P n : Nat} {s r : Nat → Nat} {x : WT} (hκ : κ = mset σ 0 12 (nI 1)) (h0 : σ 0 12 = 0) (hx : x.1 = false) (hl : lW x) (h : ∃ N0, ∀ N, wkN κ P n (N0 + N) (true, fillN s 1000000 486, r) = wkN κ P n N x) : wrkP σ P n s r (msr κ x.2.1 x.2.2) := by
  subst hκ
  obtain ⟨N0, h⟩ := h
  have h1 := h 0
  rw [Nat.add_zero, wkN] at h1
  exact Or.inr ⟨h0, N0, by rw [h1], by rw [h1]; exact hx, by rw [h1]; exact hl⟩
def chN (σ : Mem) (s : Nat → Nat) (v i j : Nat) : Nat → Nat → (Nat → Nat) → Int32 × (Nat → Nat)
  | 0, _, r => ((-1), r)
  | k + 1, p, r => if ml σ p = v then (if nI (rowN σ s p j r i) = nI (stN σ s v i j) - nI 1 then (nI p, rowN σ s p j r) else chN σ s v i j k (p + 1) (rowN σ s p j r)) else chN σ s v i j k (p + 1) r
