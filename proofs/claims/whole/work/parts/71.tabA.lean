/-! the class's table of steps: a row's least sum -/
def okR (G : Grm) : Prop := G.1 ≤ 8 ∧ ∀ p, p < G.1 → G.2.1 p < 6 ∧ (G.2.2 p).length ≤ 4 ∧ ∀ y, y ∈ G.2.2 p → y < 6 ∨ (100 ≤ y ∧ y < 106)
/-- the symbols behind a slot -/
def RB (G : Grm) (σ : Mem) (t : Nat) : List Nat := (G.2.2 (gp σ t)).drop (t - gf σ (gp σ t))
def hdI : List Nat → Int32
  | [] => -1
  | y :: _ => nI y
/-- the class's grammar cells tell the grammar G -/
def SE (G : Grm) (σ : Mem) (S : Nat) : Prop := gS σ G.1 S ∧ okR G ∧ (∀ p, p < G.1 → gv σ p = G.2.1 p ∧ gp σ (gf σ p) = p) ∧ ∀ t, t < S → σ 8 t = hdI (RB G σ t) ∧ (RB G σ t ≠ [] → t + 1 < S ∧ gp σ (t + 1) = gp σ t)
theorem RB_of {G : Grm} {σ τ : Mem} (h7 : τ 7 = σ 7) (h9 : τ 9 = σ 9) : RB G τ = RB G σ := by
  funext t; unfold RB gp gf; rw [h7, h9]
theorem SE_of {G : Grm} {σ τ : Mem} {S : Nat} (h : SE G σ S) (h1 : τ 1 = σ 1) (h6 : τ 6 = σ 6) (h7 : τ 7 = σ 7) (h8 : τ 8 = σ 8) (h9 : τ 9 = σ 9) : SE G τ S := by
  obtain ⟨a, b, c, d⟩ := h
  have e1 : gv τ = gv σ := by funext p; unfold gv; rw [h6]
  have e2 : gf τ = gf σ := by funext p; unfold gf; rw [h7]
  have e3 : gp τ = gp σ := by funext p; unfold gp; rw [h9]
  refine ⟨gS_of a h1 h6 h7 h8 h9, b, by rw [e1, e2, e3]; exact c, ?_⟩
  rw [RB_of h7 h9, h8, e3]; exact d
section TA
variable {G : Grm} {σ : Mem} {S : Nat}
theorem SE_p (h : SE G σ S) {t : Nat} (ht : t < S) : gp σ t < G.1 ∧ gf σ (gp σ t) ≤ t := by
  have := h.1.2.2.2.2.2.1 t ht; exact ⟨this.2.1, this.2.2⟩
theorem RB_cases (h : SE G σ S) {t : Nat} (ht : t < S) : (RB G σ t = [] ∧ σ 8 t = -1) ∨ ∃ y, RB G σ t = y :: RB G σ (t + 1) ∧ σ 8 t = nI y ∧ t + 1 < S ∧ (y < 6 ∨ (100 ≤ y ∧ y < 106)) := by
  obtain ⟨hp, hf⟩ := SE_p h ht
  have h4 := h.2.2.2 t ht
  cases hr : RB G σ t with
  | nil => rw [hr] at h4; exact Or.inl ⟨rfl, h4.1⟩
  | cons y ys =>
    rw [hr] at h4
    obtain ⟨h5, h6⟩ := h4.2 (by simp)
    refine Or.inr ⟨y, ?_, h4.1, h5, ?_⟩
    · congr 1
      have e1 : (RB G σ t).tail = ys := by rw [hr]; rfl
      rw [← e1]
      unfold RB
      rw [h6, List.tail_drop, show t + 1 - gf σ (gp σ t) = t - gf σ (gp σ t) + 1 by omega]
    · refine (h.2.1.2 _ hp).2.2 y ?_
      have : y ∈ RB G σ t := by rw [hr]; exact List.mem_cons_self
      exact List.mem_of_mem_drop this
theorem RB_first (h : SE G σ S) {p : Nat} (hp : p < G.1) : RB G σ (gf σ p) = G.2.2 p := by
  unfold RB; rw [(h.2.2.1 p hp).2, Nat.sub_self, List.drop_zero]
theorem RB_len (h : SE G σ S) {t : Nat} (ht : t < S) : (RB G σ t).length ≤ 4 := by
  unfold RB; rw [List.length_drop]
  have := (h.2.1.2 _ (SE_p h ht).1).2.1
  omega
/-- the tokens that were fed -/
def TK (σ : Mem) (tok : Nat → Nat) (n : Nat) : Prop := ∀ i, i < n → σ 10 i = nI (tok (i + 1)) ∧ 100 ≤ tok (i + 1) ∧ tok (i + 1) < 200
theorem symS_v {n y i k : Nat} (hy : y < 6) : symS σ n (nI y) i k = σ (y + 28) (i * 9 + k) := by
  unfold symS; rw [isV_nI (by omega), if_pos (decide_eq_true hy), nI_clamp (by omega)]
theorem symS_t {tok : Nat → Nat} {n y i k : Nat} (ht : TK σ tok n) (hy : 100 ≤ y ∧ y < 106) (hk : k ≤ n) : symS σ n (nI y) i k = if k = i + 1 ∧ tok k = y then nI 0 else -1 := by
  unfold symS
  rw [isV_nI (by omega), if_neg (by simp; omega)]
  by_cases h : k = i + 1
  · subst h
    have h1 := ht i (by omega)
    have e : (σ 10 i = nI y) ↔ tok (i + 1) = y := by rw [h1.1]; exact nI_eq (by omega) (by omega)
    by_cases h2 : tok (i + 1) = y
    · rw [if_pos (by simp [e.mpr h2]; omega), if_pos ⟨rfl, h2⟩]
    · rw [if_neg (by simp [e, h2]), if_neg (fun q => h2 q.2)]
  · rw [if_neg (by simp [h]), if_neg (fun q => h q.1)]
/-- no steps, or so many -/
def fv (x : Int32) : Prop := x = -1 ∨ ∃ a, a < 2 ^ 29 ∧ x = nI a
theorem nI_m1 {a : Nat} (h : a < 2 ^ 31) : ¬ nI a = -1 := fun q => by
  have h1 := nI_pos h
  rw [q] at h1
  exact h1 (by decide)
theorem splitS_fin {n t i k j a b : Nat} (ht : t + 1 < S) (h1 : symS σ n (σ 8 t) i k = nI a) (h2 : σ (t + 1 + 34) (k * 9 + j) = nI b) (ha : a < 2 ^ 29) (hb : b < 2 ^ 29) : splitS σ n S t i k j = nI (a + b) := by
  unfold splitS
  rw [h1, if_neg (nI_m1 (by omega)), if_pos ht, h2, if_neg (nI_m1 (by omega)), nI_add]
theorem splitS_no {n t i k j : Nat} (h : symS σ n (σ 8 t) i k = -1 ∨ σ (t + 1 + 34) (k * 9 + j) = -1) : splitS σ n S t i k j = -1 := by
  unfold splitS
  rcases h with h | h
  · rw [if_pos h]
  · rw [h]; simp
theorem splitS_cases {n t i k j : Nat} (ht : t + 1 < S) (h1 : fv (symS σ n (σ 8 t) i k)) (h2 : fv (σ (t + 1 + 34) (k * 9 + j))) :
    (splitS σ n S t i k j = -1 ∧ (symS σ n (σ 8 t) i k = -1 ∨ σ (t + 1 + 34) (k * 9 + j) = -1)) ∨ ∃ a b, a < 2 ^ 29 ∧ b < 2 ^ 29 ∧ symS σ n (σ 8 t) i k = nI a ∧ σ (t + 1 + 34) (k * 9 + j) = nI b ∧ splitS σ n S t i k j = nI (a + b) := by
  rcases h1 with h1 | ⟨a, ha, h1⟩
  · exact Or.inl ⟨splitS_no (Or.inl h1), Or.inl h1⟩
  · rcases h2 with h2 | ⟨b, hb, h2⟩
    · exact Or.inl ⟨splitS_no (Or.inr h2), Or.inr h2⟩
    · exact Or.inr ⟨a, b, ha, hb, h1, h2, splitS_fin ht h1 h2 ha hb⟩
theorem leastF_spec {n t i j : Nat} (hs : ∀ c, i + c ≤ j → splitS σ n S t i (i + c) j = -1 ∨ ∃ a, a < 2 ^ 30 ∧ splitS σ n S t i (i + c) j = nI a) : ∀ c, i + c ≤ j + 1 →
    (leastF σ n S t i j c = -1 ∧ ∀ c', c' < c → splitS σ n S t i (i + c') j = -1) ∨
    ∃ x, x < 2 ^ 30 ∧ leastF σ n S t i j c = nI x ∧ (∃ c', c' < c ∧ splitS σ n S t i (i + c') j = nI x) ∧ ∀ c' a, c' < c → a < 2 ^ 30 → splitS σ n S t i (i + c') j = nI a → x ≤ a
  | 0, _ => Or.inl ⟨rfl, fun _ h => absurd h (Nat.not_lt_zero _)⟩
  | c + 1, hc => by
    have ih := leastF_spec hs c (by omega)
    rw [leastF]
    rcases hs c (by omega) with h0 | ⟨a, ha, h0⟩
    · rw [if_pos h0]
      rcases ih with ⟨h1, h2⟩ | ⟨x, hx, h1, ⟨c', hc', h2⟩, h3⟩
      · refine Or.inl ⟨h1, fun c' hc' => ?_⟩
        by_cases e : c' = c
        · subst e; exact h0
        · exact h2 c' (by omega)
      · refine Or.inr ⟨x, hx, h1, ⟨c', by omega, h2⟩, fun c2 a h4 h5 h6 => ?_⟩
        by_cases e : c2 = c
        · subst e; rw [h0] at h6; exact absurd h6.symm (nI_m1 (by omega))
        · exact h3 c2 a (by omega) h5 h6
    · rw [if_neg (by rw [h0]; exact nI_m1 (by omega)), h0]
      rcases ih with ⟨h1, h2⟩ | ⟨x, hx, h1, ⟨c', hc', h2⟩, h3⟩
      · rw [h1, if_pos (by simp [fewer])]
        refine Or.inr ⟨a, ha, rfl, ⟨c, by omega, h0⟩, fun c2 b h4 h5 h6 => ?_⟩
        by_cases e : c2 = c
        · subst e; rw [h0] at h6; exact Nat.le_of_eq ((nI_eq (by omega) (by omega)).mp h6)
        · rw [h2 c2 (by omega)] at h6; exact absurd h6.symm (nI_m1 (by omega))
      · rw [h1]
        have hf : fewer (nI a) (nI x) = decide (a < x) := by
          unfold fewer
          rw [decide_eq_false (nI_m1 (by omega)), Bool.false_or]
          exact decide_eq_decide.mpr (nI_ltI (by omega) (by omega))
        rw [hf]
        by_cases hax : a < x
        · rw [if_pos (decide_eq_true hax)]
          refine Or.inr ⟨a, ha, rfl, ⟨c, by omega, h0⟩, fun c2 b h4 h5 h6 => ?_⟩
          by_cases e : c2 = c
          · subst e; rw [h0] at h6; exact Nat.le_of_eq ((nI_eq (by omega) (by omega)).mp h6)
          · have := h3 c2 b (by omega) h5 h6; omega
        · rw [if_neg (by simp [hax])]
          refine Or.inr ⟨x, hx, rfl, ⟨c', by omega, h2⟩, fun c2 b h4 h5 h6 => ?_⟩
          by_cases e : c2 = c
          · subst e; rw [h0] at h6; have := (nI_eq (by omega) (by omega)).mp h6; omega
          · exact h3 c2 b (by omega) h5 h6
/-- what a row's cell gets -/
theorem leastS_spec {n t i j y : Nat} (h8 : σ 8 t = nI y) (hy : y < 200) (ht : t + 1 < S) (hij : i ≤ j) (h1 : ∀ k, i ≤ k → k ≤ j → fv (symS σ n (nI y) i k)) (h2 : ∀ k, i ≤ k → k ≤ j → fv (σ (t + 1 + 34) (k * 9 + j))) :
    (leastS σ n S t i j = -1 ∧ ∀ k, i ≤ k → k ≤ j → symS σ n (nI y) i k = -1 ∨ σ (t + 1 + 34) (k * 9 + j) = -1) ∨
    ∃ x, x < 2 ^ 30 ∧ leastS σ n S t i j = nI x ∧ (∃ k a b, i ≤ k ∧ k ≤ j ∧ symS σ n (nI y) i k = nI a ∧ σ (t + 1 + 34) (k * 9 + j) = nI b ∧ x = a + b) ∧ ∀ k a b, i ≤ k → k ≤ j → a < 2 ^ 29 → b < 2 ^ 29 → symS σ n (nI y) i k = nI a → σ (t + 1 + 34) (k * 9 + j) = nI b → x ≤ a + b := by
  have e : leastS σ n S t i j = leastF σ n S t i j (j + 1 - i) := by unfold leastS; rw [if_neg (by rw [h8]; exact nI_m1 (by omega))]
  rw [e]
  have hs : ∀ c, i + c ≤ j → splitS σ n S t i (i + c) j = -1 ∨ ∃ a, a < 2 ^ 30 ∧ splitS σ n S t i (i + c) j = nI a := fun c hc => by
    rcases splitS_cases (σ := σ) (n := n) (t := t) (i := i) (k := i + c) (j := j) ht (by rw [h8]; exact h1 _ (by omega) hc) (h2 _ (by omega) hc) with h | ⟨a, b, ha, hb, _, _, h⟩
    · exact Or.inl h.1
    · exact Or.inr ⟨a + b, by omega, h⟩
  rcases leastF_spec hs (j + 1 - i) (by omega) with ⟨g1, g2⟩ | ⟨x, hx, g1, ⟨c', hc', g2⟩, g3⟩
  · refine Or.inl ⟨g1, fun k hk1 hk2 => ?_⟩
    have g := g2 (k - i) (by omega)
    rw [show i + (k - i) = k by omega] at g
    rcases splitS_cases (σ := σ) (n := n) (t := t) (i := i) (k := k) (j := j) ht (by rw [h8]; exact h1 _ hk1 hk2) (h2 _ hk1 hk2) with h | ⟨a, b, ha, hb, _, _, h⟩
    · rw [h8] at h; exact h.2
    · rw [g] at h; exact absurd h.symm (nI_m1 (by omega))
  · refine Or.inr ⟨x, hx, g1, ?_, fun k a b hk1 hk2 ha hb e1 e2 => ?_⟩
    · rcases splitS_cases (σ := σ) (n := n) (t := t) (i := i) (k := i + c') (j := j) ht (by rw [h8]; exact h1 _ (by omega) (by omega)) (h2 _ (by omega) (by omega)) with h | ⟨a, b, ha, hb, e1, e2, h⟩
      · rw [g2] at h; exact absurd h.1 (nI_m1 (by omega))
      · rw [g2] at h
        exact ⟨i + c', a, b, by omega, by omega, by rw [← h8]; exact e1, e2, (nI_eq (by omega) (by omega)).mp h⟩
    · refine g3 (k - i) (a + b) (by omega) (by omega) ?_
      rw [show i + (k - i) = k by omega]
      exact splitS_fin ht (by rw [h8]; exact e1) e2 ha hb
end TA
/-- bounds of a row out of bounds of its parts -/
theorem rowG {S : SyP} {g : Nat → Nat} {e0 D : Nat} (hs : ∀ x y, 1 ≤ x → 1 ≤ y → x + y ≤ D → g x + g y ≤ g (x + y)) : ∀ (ys : List Nat) {i d m : Nat}, d ≤ D → (∀ y i' x a, i ≤ i' → i' + x ≤ i + d → S y i' (i' + x) a → a ≤ if x = 0 then e0 else g x) → Rw S ys i (i + d) m → m ≤ if d = 0 then ys.length * e0 else g d + (ys.length - 1) * e0
  | [], i, d, m, _, _, h => by
    have := h.1; rw [h.2]; exact Nat.zero_le _
  | y :: ys, i, d, m, hD, hp, ⟨k, a, b, h1, h2, h3, h4, h5⟩ => by
    obtain ⟨x, rfl⟩ : ∃ x, k = i + x := ⟨k - i, by omega⟩
    obtain ⟨z, rfl⟩ : ∃ z, d = x + z := ⟨d - x, by omega⟩
    have h4' : Rw S ys (i + x) (i + x + z) b := by rw [Nat.add_assoc]; exact h4
    have g2 := rowG hs ys (by omega : z ≤ D) (fun y i' x' a q1 q2 q3 => hp y i' x' a (by omega) (by omega) q3) h4'
    have p2 := hp y i x a (Nat.le_refl _) (by omega) h3
    subst h5
    rw [List.length_cons]
    have hne : z ≠ 0 → 1 ≤ ys.length := fun hz => by
      cases ys with
      | nil => exact absurd h4'.1 (by omega)
      | cons w ws => simp
    cases x with
    | zero =>
      rw [if_pos rfl] at p2
      cases z with
      | zero => rw [if_pos rfl] at g2 ⊢; rw [Nat.succ_mul]; omega
      | succ z =>
        rw [if_neg (by omega)] at g2 ⊢
        obtain ⟨L, hL⟩ : ∃ L, ys.length = L + 1 := ⟨ys.length - 1, by have := hne (by omega); omega⟩
        rw [hL] at g2 ⊢
        simp only [Nat.add_sub_cancel, Nat.zero_add] at g2 ⊢
        rw [Nat.succ_mul]; omega
    | succ x =>
      rw [if_neg (by omega)] at p2
      cases z with
      | zero =>
        rw [if_pos rfl] at g2; rw [if_neg (by omega)]
        simp only [Nat.add_sub_cancel, Nat.add_zero]
        omega
      | succ z =>
        rw [if_neg (by omega)] at g2 ⊢
        obtain ⟨L, hL⟩ : ∃ L, ys.length = L + 1 := ⟨ys.length - 1, by have := hne (by omega); omega⟩
        rw [hL] at g2 ⊢
        simp only [Nat.add_sub_cancel] at g2 ⊢
        have := hs (x + 1) (z + 1) (by omega) (by omega) hD
        rw [Nat.succ_mul]; omega
theorem fM_add : ∀ x y, 1 ≤ x → 1 ≤ y → fM x + fM y ≤ fM (x + y) := by
  intro x y hx hy
  obtain ⟨a, rfl⟩ : ∃ a, x = a + 1 := ⟨x - 1, by omega⟩
  obtain ⟨b, rfl⟩ : ∃ b, y = b + 1 := ⟨y - 1, by omega⟩
  show 24576 * (2 * a + 1) + 24576 * (2 * b + 1) ≤ 24576 * (2 * (a + 1 + b) + 1)
  omega
theorem fM_8 {x : Nat} (h1 : 1 ≤ x) (h : x ≤ 8) : fM x ≤ 368640 := by
  obtain ⟨a, rfl⟩ : ∃ a, x = a + 1 := ⟨x - 1, by omega⟩
  show 24576 * (2 * a + 1) ≤ _; omega
