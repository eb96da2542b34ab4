/-! a pass over a stretch -/
def XV (G : Grm) (tok : Nat → Nat) (σ : Mem) (i j : Nat) : Prop := ∀ v, v < 6 → σ (v + 28) (i * 9 + j) = enc (Lv G tok v i j)
def XR (G : Grm) (tok : Nat → Nat) (σ : Mem) (S i j : Nat) : Prop := ∀ t, t < S → σ (t + 34) (i * 9 + j) = enc (Lr G tok (RB G σ t) i j)
noncomputable def asg (μ : Mem) (i j : Nat) : Nat := cntP (fun v => v < 6 ∧ ¬ μ (v + 28) (i * 9 + j) = -1) 6
def PV (G : Grm) (tok : Nat → Nat) (S n i j : Nat) (μ : Mem) : Prop := SE G μ S ∧ TK μ tok n ∧ n ≤ 8 ∧ i ≤ j ∧ j ≤ n ∧ (∀ i' j', i ≤ i' → i' ≤ j' → j' ≤ j → (i' ≠ i ∨ j' ≠ j) → XV G tok μ i' j' ∧ XR G tok μ S i' j') ∧
  ∀ v, v < 6 → μ (v + 28) (i * 9 + j) = -1 ∨ ∃ x, μ (v + 28) (i * 9 + j) = nI x ∧ Dr G tok v i j x ∧ x ≤ bbl (j - i) (asg μ i j)
def PR (G : Grm) (tok : Nat → Nat) (S i j t : Nat) (μ : Mem) : Prop := ∀ t', t ≤ t' → t' < S → μ (t' + 34) (i * 9 + j) = -1 ∨ ∃ x, μ (t' + 34) (i * 9 + j) = nI x ∧ Rw (SB G tok (j - i) (asg μ i j)) (RB G μ t') i j x
def PE (G : Grm) (tok : Nat → Nat) (S i j : Nat) (Bd : Nat → Prop) (t : Nat) (μ : Mem) : Prop := ∀ t', t ≤ t' → t' < S → ∀ b, Bd b → Rw (Sy tok (Dr G tok)) (RB G μ t') i j b → ∃ x, x ≤ b ∧ x < 2 ^ 29 ∧ μ (t' + 34) (i * 9 + j) = nI x
def PF (G : Grm) (tok : Nat → Nat) (i j : Nat) (Bd : Nat → Prop) (t : Nat) (μ : Mem) : Prop := ∀ p, p < G.1 → t ≤ gf μ p → ∀ m, Bd m → Rw (Sy tok (Dr G tok)) (G.2.2 p) i j m → Lv G tok (G.2.1 p) i j = m + 1 → μ (G.2.1 p + 28) (i * 9 + j) = nI (m + 1)
def HV (G : Grm) (tok : Nat → Nat) (i j : Nat) (Bd : Nat → Prop) (μ : Mem) : Prop := ∀ u, u < 6 → ∀ a, Bd a → Dr G tok u i j a → μ (u + 28) (i * 9 + j) = nI (Lv G tok u i j)
section TC
variable {G : Grm} {tok : Nat → Nat} {S n i j t : Nat} {μ : Mem} {Bd : Nat → Prop}
theorem asg_6 : asg μ i j ≤ 6 := cntP_n 6
theorem PV_fin (h : PV G tok S n i j μ) {v : Nat} (hv : v < 6) : fv (μ (v + 28) (i * 9 + j)) := by
  rcases h.2.2.2.2.2.2 v hv with q | ⟨x, q1, -, q3⟩
  · exact Or.inl q
  · refine Or.inr ⟨x, ?_, q1⟩
    have := bbl_m (l := j - i) (a := asg μ i j) (b := 7) (by have := asg_6 (μ := μ) (i := i) (j := j); omega)
    have := bbl_7 (j - i)
    omega
theorem SB_fin (h : PV G tok S n i j μ) {t' x : Nat} (ht : t' < S) (hr : Rw (SB G tok (j - i) (asg μ i j)) (RB G μ t') i j x) : x + 1 ≤ bbl (j - i) (asg μ i j + 1) ∧ x < 2 ^ 29 := by
  have hij := h.2.2.2.1
  obtain ⟨d, rfl⟩ : ∃ d, j = i + d := ⟨j - i, by omega⟩
  rw [Nat.add_sub_cancel_left] at hr ⊢
  have h1 := rowSB (RB_len h.1 ht) (by have := h.2.2.1; have := h.2.2.2.2.1; omega) hr
  have := bbl_m (l := d) (a := asg μ i (i + d) + 1) (b := 7) (by have := asg_6 (μ := μ) (i := i) (j := i + d); omega)
  have := bbl_7 d
  exact ⟨h1, by omega⟩
theorem PV_sym (h : PV G tok S n i j μ) {y k : Nat} (hy : y < 6 ∨ (100 ≤ y ∧ y < 106)) (hik : i ≤ k) (hkj : k ≤ j) :
    symS μ n (nI y) i k = -1 ∨ ∃ a, a < 2 ^ 29 ∧ symS μ n (nI y) i k = nI a ∧ SB G tok (j - i) (asg μ i j) y i k a := by
  obtain ⟨hSE, hTK, hn8, hij, hjn, hX, hV⟩ := h
  rcases hy with hy | hy
  · rw [symS_v hy]
    by_cases hk : k = j
    · subst hk
      rcases hV y hy with q | ⟨x, q1, q2, q3⟩
      · exact Or.inl q
      · refine Or.inr ⟨x, ?_, q1, (Sy_v hy).mpr q2, by rw [if_pos rfl]; exact q3⟩
        have := bbl_m (l := k - i) (a := asg μ i k) (b := 7) (by have := asg_6 (μ := μ) (i := i) (j := k); omega)
        have := bbl_7 (k - i)
        omega
    · have hx := (hX i k (Nat.le_refl _) hik hkj (Or.inr hk)).1 y hy
      rw [hx]
      rcases enc_lv hSE.2.1 (tok := tok) (i := i) (j := k) hy (by omega) with ⟨q, -⟩ | ⟨q1, q2, m, q3⟩
      · exact Or.inl q
      · refine Or.inr ⟨_, by omega, q1, (Sy_v hy).mpr (lst_in ⟨m, q3⟩), ?_⟩
        obtain ⟨x, rfl⟩ : ∃ x, k = i + x := ⟨k - i, by omega⟩
        have h1 := Ls_le hSE.2.1 (tok := tok) (y := y) (i := i) (x := x) (by omega) ((Sy_v hy).mpr q3)
        rw [Ls_v hy] at h1
        rw [Nat.add_sub_cancel_left, if_neg (by omega)]
        exact h1
  · rw [symS_t hTK hy (by omega)]
    by_cases hk : k = i + 1 ∧ tok k = y
    · rw [if_pos hk]; exact Or.inr ⟨0, by decide, rfl, (Sy_t (by omega)).mpr ⟨hk.1, hk.2, rfl⟩, Nat.zero_le _⟩
    · rw [if_neg hk]; exact Or.inl rfl
theorem PV_row (h : PV G tok S n i j μ) (hR : PR G tok S i j (t + 1) μ) {k : Nat} (ht : t + 1 < S) (hik : i ≤ k) (hkj : k ≤ j) :
    μ (t + 1 + 34) (k * 9 + j) = -1 ∨ ∃ b, b < 2 ^ 29 ∧ μ (t + 1 + 34) (k * 9 + j) = nI b ∧ Rw (SB G tok (j - i) (asg μ i j)) (RB G μ (t + 1)) k j b := by
  have h' := h
  obtain ⟨hSE, hTK, hn8, hij, hjn, hX, hV⟩ := h
  by_cases hk : k = i
  · subst hk
    rcases hR (t + 1) (Nat.le_refl _) ht with q | ⟨x, q1, q2⟩
    · exact Or.inl q
    · exact Or.inr ⟨x, (SB_fin h' ht q2).2, q1, q2⟩
  · have hx := (hX k j (by omega) hkj (Nat.le_refl _) (Or.inl hk)).2 (t + 1) ht
    rw [hx]
    rcases enc_lr hSE.2.1 (tok := tok) (i := k) (j := j) (RB_len hSE ht) (by omega) with ⟨q, -⟩ | ⟨q1, q2, q3⟩
    · exact Or.inl q
    · exact Or.inr ⟨_, by omega, q1, Lr_SB hSE.2.1 (by omega) (by omega) q3⟩
/-- what a slot's row gets in a pass -/
theorem row_snd (h : PV G tok S n i j μ) (hR : PR G tok S i j (t + 1) μ) (ht : t < S) : leastS μ n S t i j = -1 ∨ ∃ x, x < 2 ^ 29 ∧ leastS μ n S t i j = nI x ∧ Rw (SB G tok (j - i) (asg μ i j)) (RB G μ t) i j x := by
  rcases RB_cases h.1 ht with ⟨e1, e2⟩ | ⟨y, e1, e2, e3, e4⟩
  · unfold leastS
    rw [if_pos e2]
    by_cases hij : i = j
    · rw [if_pos hij, e1]; exact Or.inr ⟨0, by decide, rfl, hij, rfl⟩
    · rw [if_neg hij]; exact Or.inl rfl
  · have f1 : ∀ k, i ≤ k → k ≤ j → fv (symS μ n (nI y) i k) := fun k q1 q2 => by
      rcases PV_sym h e4 q1 q2 with q | ⟨a, qa, q, -⟩
      · exact Or.inl q
      · exact Or.inr ⟨a, qa, q⟩
    have f2 : ∀ k, i ≤ k → k ≤ j → fv (μ (t + 1 + 34) (k * 9 + j)) := fun k q1 q2 => by
      rcases PV_row h hR e3 q1 q2 with q | ⟨a, qa, q, -⟩
      · exact Or.inl q
      · exact Or.inr ⟨a, qa, q⟩
    rcases leastS_spec (σ := μ) (n := n) e2 (by omega) e3 h.2.2.2.1 f1 f2 with ⟨q, -⟩ | ⟨x, hx, q, ⟨k, a, b, k1, k2, k3, k4, k5⟩, -⟩
    · exact Or.inl q
    · have hr : Rw (SB G tok (j - i) (asg μ i j)) (RB G μ t) i j x := by
        rw [e1]
        refine ⟨k, a, b, k1, k2, ?_, ?_, k5⟩
        · rcases PV_sym h e4 k1 k2 with z | ⟨a', za, z, z2⟩
          · rw [k3] at z; exact absurd z (nI_m1 (by omega))
          · rw [k3] at z
            rw [(nI_eq (by omega) (by omega)).mp z]; exact z2
        · rcases PV_row h hR e3 k1 k2 with z | ⟨b', zb, z, z2⟩
          · rw [k4] at z; exact absurd z (nI_m1 (by omega))
          · rw [k4] at z
            rw [(nI_eq (by omega) (by omega)).mp z]; exact z2
      exact Or.inr ⟨x, (SB_fin h ht hr).2, q, hr⟩
theorem row_cpl (h : PV G tok S n i j μ) (hR : PR G tok S i j (t + 1) μ) (hE : PE G tok S i j Bd (t + 1) μ) (hV : HV G tok i j Bd μ) (hB : ∀ a b, a ≤ b → Bd b → Bd a) (ht : t < S) {b : Nat} (hb : Bd b) (hr : Rw (Sy tok (Dr G tok)) (RB G μ t) i j b) : ∃ x, x ≤ b ∧ x < 2 ^ 29 ∧ leastS μ n S t i j = nI x := by
  rcases RB_cases h.1 ht with ⟨e1, e2⟩ | ⟨y, e1, e2, e3, e4⟩
  · rw [e1] at hr
    unfold leastS
    rw [if_pos e2, if_pos hr.1]; exact ⟨0, Nat.zero_le _, by decide, rfl⟩
  · rw [e1] at hr
    obtain ⟨k, a, b2, k1, k2, k3, k4, k5⟩ := hr
    have s1 : ∃ a', a' ≤ a ∧ a' < 2 ^ 29 ∧ symS μ n (nI y) i k = nI a' := by
      rcases e4 with hy | hy
      · rw [Sy_v hy] at k3
        rw [symS_v hy]
        have hle : Lv G tok y i k ≤ a := lst_le k3
        have hbd := Lv_bnd h.1.2.1 hy (show k ≤ 8 by have := h.2.2.1; have := h.2.2.2.2.1; omega) ⟨a, k3⟩
        refine ⟨Lv G tok y i k, hle, by omega, ?_⟩
        by_cases hk : k = j
        · subst hk; exact hV y hy a (hB a b (by omega) hb) k3
        · rw [(h.2.2.2.2.2.1 i k (Nat.le_refl _) k1 k2 (Or.inr hk)).1 y hy, enc_t (by omega)]
      · have k3' := k3
        rw [Sy_t (by omega)] at k3'
        rw [symS_t h.2.1 hy (by have := h.2.2.2.2.1; omega), if_pos ⟨k3'.1, k3'.2.1⟩]
        exact ⟨0, Nat.zero_le _, by decide, rfl⟩
    have s2 : ∃ b', b' ≤ b2 ∧ b' < 2 ^ 29 ∧ μ (t + 1 + 34) (k * 9 + j) = nI b' := by
      by_cases hk : k = i
      · subst hk
        exact hE (t + 1) (Nat.le_refl _) e3 b2 (hB b2 b (by omega) hb) k4
      · have hle : Lr G tok (RB G μ (t + 1)) k j ≤ b2 := lst_le k4
        have hbd := Lr_bnd h.1.2.1 (RB_len h.1 e3) (show j ≤ 8 by have := h.2.2.1; have := h.2.2.2.2.1; omega) ⟨b2, k4⟩
        refine ⟨_, hle, by omega, ?_⟩
        rw [(h.2.2.2.2.2.1 k j (by omega) k2 (Nat.le_refl _) (Or.inl hk)).2 (t + 1) e3, enc_t (by omega)]
    obtain ⟨a', a1, a2, a3⟩ := s1
    obtain ⟨b', b1, b2', b3⟩ := s2
    have f1 : ∀ k, i ≤ k → k ≤ j → fv (symS μ n (nI y) i k) := fun k q1 q2 => by
      rcases PV_sym h e4 q1 q2 with q | ⟨a, qa, q, -⟩
      · exact Or.inl q
      · exact Or.inr ⟨a, qa, q⟩
    have f2 : ∀ k, i ≤ k → k ≤ j → fv (μ (t + 1 + 34) (k * 9 + j)) := fun k q1 q2 => by
      rcases PV_row h hR e3 q1 q2 with q | ⟨a, qa, q, -⟩
      · exact Or.inl q
      · exact Or.inr ⟨a, qa, q⟩
    rcases leastS_spec (σ := μ) (n := n) e2 (by omega) e3 h.2.2.2.1 f1 f2 with ⟨q, q2⟩ | ⟨x, hx, q, -, q3⟩
    · rcases q2 k k1 k2 with z | z
      · rw [a3] at z; exact absurd z (nI_m1 (by omega))
      · rw [b3] at z; exact absurd z (nI_m1 (by omega))
    · have := q3 k a' b' k1 k2 a2 b2' a3 b3
      refine ⟨x, by omega, ?_, q⟩
      rcases row_snd h hR ht with z | ⟨x', z1, z2, -⟩
      · rw [q] at z; exact absurd z (nI_m1 (by omega))
      · rw [q] at z2; have := (nI_eq (by omega) (by omega)).mp z2; omega
end TC
