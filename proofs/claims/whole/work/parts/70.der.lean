/-! derivations, told abstractly: a grammar has P productions, each a left side and a right side; tok k is token k of the input -/
abbrev SyP : Type := Nat → Nat → Nat → Nat → Prop
abbrev Grm : Type := Nat × (Nat → Nat) × (Nat → List Nat)
/-- a row of symbols over a stretch with so many steps -/
def Rw (S : SyP) : List Nat → Nat → Nat → Nat → Prop
  | [], i, j, m => i = j ∧ m = 0
  | y :: ys, i, j, m => ∃ k a b, i ≤ k ∧ k ≤ j ∧ S y i k a ∧ Rw S ys k j b ∧ m = a + b
theorem Rw_le {S : SyP} : ∀ (ys : List Nat) {i j m : Nat}, Rw S ys i j m → i ≤ j
  | [], _, _, _, h => Nat.le_of_eq h.1
  | _ :: ys, _, _, _, ⟨k, a, b, h1, h2, _, h4, _⟩ => Nat.le_trans h1 h2
theorem Rw_mono {S S' : SyP} {i0 j0 : Nat} (h : ∀ y i k a, i0 ≤ i → i ≤ k → k ≤ j0 → S y i k a → S' y i k a) : ∀ (ys : List Nat) {i j m : Nat}, i0 ≤ i → j ≤ j0 → Rw S ys i j m → Rw S' ys i j m
  | [], _, _, _, _, _, h1 => h1
  | _ :: ys, _, _, _, h1, h2, ⟨k, a, b, h3, h4, h5, h6, h7⟩ => ⟨k, a, b, h3, h4, h _ _ _ _ h1 h3 (Nat.le_trans h4 h2) h5, Rw_mono h ys (Nat.le_trans h1 h3) h2 h6, h7⟩
theorem Rw_snoc {S : SyP} {y : Nat} : ∀ (ys : List Nat) {i k j a b : Nat}, Rw S ys i k a → k ≤ j → S y k j b → Rw S (ys ++ [y]) i j (a + b)
  | [], i, k, j, a, b, h, hk, hy => by
    obtain ⟨rfl, rfl⟩ := h
    exact ⟨j, b, 0, hk, Nat.le_refl _, hy, ⟨rfl, rfl⟩, by omega⟩
  | z :: ys, i, k, j, a, b, ⟨k1, a1, b1, h1, h2, h3, h4, h5⟩, hk, hy =>
    ⟨k1, a1, b1 + b, h1, Nat.le_trans h2 hk, h3, Rw_snoc ys h4 hk hy, by omega⟩
def Sy (tok : Nat → Nat) (X : SyP) : SyP := fun y i k a => if y < 6 then X y i k a else (k = i + 1 ∧ tok k = y ∧ a = 0)
theorem Sy_v {tok : Nat → Nat} {X : SyP} {y i k a : Nat} (h : y < 6) : Sy tok X y i k a ↔ X y i k a := by unfold Sy; rw [if_pos h]
theorem Sy_t {tok : Nat → Nat} {X : SyP} {y i k a : Nat} (h : ¬ y < 6) : Sy tok X y i k a ↔ (k = i + 1 ∧ tok k = y ∧ a = 0) := by unfold Sy; rw [if_neg h]
theorem Sy_mono {tok : Nat → Nat} {X Y : SyP} (h : ∀ y i k a, X y i k a → Y y i k a) {y i k a : Nat} (h1 : Sy tok X y i k a) : Sy tok Y y i k a := by
  by_cases hy : y < 6
  · rw [Sy_v hy] at h1 ⊢; exact h _ _ _ _ h1
  · rw [Sy_t hy] at h1 ⊢; exact h1
def clD (G : Grm) (tok : Nat → Nat) (X : SyP) : Prop := ∀ p, p < G.1 → ∀ i j m, Rw (Sy tok X) (G.2.2 p) i j m → X (G.2.1 p) i j (m + 1)
/-- a variable over a stretch, with just so many productions -/
def Dr (G : Grm) (tok : Nat → Nat) : SyP := fun v i j m => ∀ X, clD G tok X → X v i j m
section DR
variable {G : Grm} {tok : Nat → Nat}
theorem Dr_cl : clD G tok (Dr G tok) := fun p hp i j m h X hX =>
  hX p hp i j m (Rw_mono (i0 := i) (j0 := j) (fun _ _ _ _ _ _ _ h1 => Sy_mono (fun _ _ _ _ h2 => h2 X hX) h1) _ (Nat.le_refl _) (Nat.le_refl _) h)
theorem Dr_le {v i j m : Nat} (h : Dr G tok v i j m) : i ≤ j := h (fun _ i j _ => i ≤ j) (fun _ _ _ _ _ h => Rw_le _ h)
theorem Dr_inv {v i j m : Nat} (h : Dr G tok v i j m) : ∃ p m', p < G.1 ∧ G.2.1 p = v ∧ m = m' + 1 ∧ Rw (Sy tok (Dr G tok)) (G.2.2 p) i j m' := by
  have h0 := h (fun v i j m => Dr G tok v i j m ∧ ∃ p m', p < G.1 ∧ G.2.1 p = v ∧ m = m' + 1 ∧ Rw (Sy tok (Dr G tok)) (G.2.2 p) i j m') (fun p hp i j m h1 => ?_)
  · exact h0.2
  · have h2 : Rw (Sy tok (Dr G tok)) (G.2.2 p) i j m := Rw_mono (i0 := i) (j0 := j) (fun _ _ _ _ _ _ _ h1 => Sy_mono (fun _ _ _ _ h2 => h2.1) h1) _ (Nat.le_refl _) (Nat.le_refl _) h1
    exact ⟨Dr_cl p hp i j m h2, p, m, hp, rfl, rfl, h2⟩
/-- what is fed later doesn't matter -/
theorem Dr_tok {tok' : Nat → Nat} {n : Nat} (ht : ∀ k, 1 ≤ k → k ≤ n → tok k = tok' k) {v i j m : Nat} (hj : j ≤ n) (h : Dr G tok v i j m) : Dr G tok' v i j m := by
  refine h (fun v i j m => j ≤ n → Dr G tok' v i j m) (fun p hp i j m h1 hj => ?_) hj
  refine Dr_cl p hp i j m (Rw_mono (i0 := i) (j0 := j) (fun y i' k a hi hk hkj h2 => ?_) _ (Nat.le_refl _) (Nat.le_refl _) h1)
  by_cases hy : y < 6
  · rw [Sy_v hy] at h2 ⊢; exact h2 (by omega)
  · rw [Sy_t hy] at h2 ⊢; exact ⟨h2.1, by rw [← ht k (by omega) (by omega)]; exact h2.2.1, h2.2.2⟩
end DR
/-! least numbers -/
theorem least_ex {Q : Nat → Prop} (h : ∃ m, Q m) : ∃ m, Q m ∧ ∀ k, Q k → m ≤ k := by
  obtain ⟨m, hm⟩ := h
  induction m using Nat.strongRecOn with
  | ind m ih =>
    by_cases h1 : ∃ k, k < m ∧ Q k
    · obtain ⟨k, hk, hq⟩ := h1
      exact ih k hk hq
    · exact ⟨m, hm, fun k hk => Nat.not_lt.mp fun q => h1 ⟨k, q, hk⟩⟩
noncomputable def lst (Q : Nat → Prop) : Nat := @dite _ (∃ m, Q m) (Classical.propDecidable _) (fun h => Classical.choose (least_ex h)) (fun _ => 1000000)
theorem lst_in {Q : Nat → Prop} (h : ∃ m, Q m) : Q (lst Q) := by
  unfold lst; rw [dif_pos h]; exact (Classical.choose_spec (least_ex h)).1
theorem lst_le {Q : Nat → Prop} {k : Nat} (h : Q k) : lst Q ≤ k := by
  unfold lst; rw [dif_pos ⟨k, h⟩]; exact (Classical.choose_spec (least_ex ⟨k, h⟩)).2 k h
theorem lst_no {Q : Nat → Prop} (h : ¬ ∃ m, Q m) : lst Q = 1000000 := by
  unfold lst; rw [dif_neg h]
theorem lst_eq {Q : Nat → Prop} {x : Nat} (h1 : Q x) (h2 : ∀ k, Q k → x ≤ k) : lst Q = x := Nat.le_antisymm (lst_le h1) (h2 _ (lst_in ⟨x, h1⟩))
/-- how many of 0 .. n - 1 are such -/
noncomputable def cntP (Q : Nat → Prop) : Nat → Nat
  | 0 => 0
  | u + 1 => cntP Q u + @ite _ (Q u) (Classical.propDecidable _) 1 0
theorem cntP_le {Q Q' : Nat → Prop} (h : ∀ u, Q u → Q' u) : ∀ n, cntP Q n ≤ cntP Q' n
  | 0 => Nat.le_refl _
  | n + 1 => by
    rw [cntP, cntP]
    have ih := cntP_le h n
    by_cases hq : Q n
    · rw [if_pos hq, if_pos (h n hq)]; omega
    · rw [if_neg hq]; split <;> omega
theorem cntP_lt {Q Q' : Nat → Prop} (h : ∀ u, Q u → Q' u) {u : Nat} (h1 : ¬ Q u) (h2 : Q' u) : ∀ n, u < n → cntP Q n < cntP Q' n
  | 0, h0 => absurd h0 (Nat.not_lt_zero _)
  | n + 1, h0 => by
    rw [cntP, cntP]
    by_cases e : u = n
    · subst e
      rw [if_neg h1, if_pos h2]
      have := cntP_le h u
      omega
    · have ih := cntP_lt h h1 h2 n (by omega)
      by_cases hq : Q n
      · rw [if_pos hq, if_pos (h n hq)]; omega
      · rw [if_neg hq]; split <;> omega
theorem cntP_n {Q : Nat → Prop} : ∀ n, cntP Q n ≤ n
  | 0 => Nat.le_refl _
  | n + 1 => by
    rw [cntP]; have := cntP_n (Q := Q) n; split <;> omega
noncomputable def Lv (G : Grm) (tok : Nat → Nat) (v i j : Nat) : Nat := lst (Dr G tok v i j)
noncomputable def Ls (G : Grm) (tok : Nat → Nat) (y i j : Nat) : Nat := lst (Sy tok (Dr G tok) y i j)
noncomputable def Lr (G : Grm) (tok : Nat → Nat) (ys : List Nat) (i j : Nat) : Nat := lst (Rw (Sy tok (Dr G tok)) ys i j)
/-- how many variables take fewer steps over the same stretch -/
noncomputable def rkV (G : Grm) (tok : Nat → Nat) (v i j : Nat) : Nat := cntP (fun u => (∃ m, Dr G tok u i j m) ∧ Lv G tok u i j < Lv G tok v i j) 6
section LV
variable {G : Grm} {tok : Nat → Nat}
theorem rkV_lt {u v i j : Nat} (hu : u < 6) (hd : ∃ m, Dr G tok u i j m) (h : Lv G tok u i j < Lv G tok v i j) : rkV G tok u i j < rkV G tok v i j :=
  cntP_lt (fun w hw => ⟨hw.1, Nat.lt_trans hw.2 h⟩) (u := u) (fun q => Nat.lt_irrefl _ q.2) ⟨hd, h⟩ 6 hu
theorem rkV_le {v i j : Nat} (hv : v < 6) : rkV G tok v i j ≤ 5 := by
  have h := cntP_lt (Q := fun u => (∃ m, Dr G tok u i j m) ∧ Lv G tok u i j < Lv G tok v i j) (Q' := fun _ => True) (fun _ _ => trivial) (u := v) (fun q => Nat.lt_irrefl _ q.2) trivial 6 hv
  have h2 := cntP_n (Q := fun _ => True) 6
  unfold rkV; omega
/-- the most that the empty stretch can take, by ranks -/
def e5 : Nat → Nat
  | 0 => 1
  | r + 1 => 4 * e5 r + 1
theorem e5_mono : ∀ r, e5 r ≤ e5 (r + 1) := fun r => by rw [e5]; omega
theorem row0 {c : Nat} : ∀ (ys : List Nat) {i m : Nat}, Rw (Sy tok (Dr G tok)) ys i i m → (∀ u, u < 6 → (∃ m, Dr G tok u i i m) → Lv G tok u i i ≤ m → Lv G tok u i i ≤ c) → ∃ m', Rw (Sy tok (Dr G tok)) ys i i m' ∧ m' ≤ ys.length * c
  | [], i, m, h, _ => ⟨0, ⟨rfl, rfl⟩, Nat.zero_le _⟩
  | y :: ys, i, m, ⟨k, a, b, h1, h2, h3, h4, h5⟩, hc => by
    obtain rfl : k = i := by omega
    by_cases hy : y < 6
    · rw [Sy_v hy] at h3
      obtain ⟨m', g1, g2⟩ := row0 ys h4 (fun u hu hd hl => hc u hu hd (by omega))
      have g3 := hc y hy ⟨a, h3⟩ (Nat.le_trans (lst_le h3) (by omega))
      refine ⟨Lv G tok y k k + m', ⟨k, _, _, h1, h2, (Sy_v hy).mpr (lst_in ⟨a, h3⟩), g1, rfl⟩, ?_⟩
      rw [List.length_cons, Nat.succ_mul]; omega
    · rw [Sy_t hy] at h3
      exact absurd h3.1 (by omega)
/-- the most that a stretch of so many tokens can take -/
def fM : Nat → Nat
  | 0 => 1365
  | l + 1 => 24576 * (2 * l + 1)
theorem rowR {l : Nat} (hI : ∀ l', l' < l → ∀ i v, v < 6 → (∃ m, Dr G tok v i (i + l') m) → Lv G tok v i (i + l') ≤ fM l') : ∀ (ys : List Nat) {i d m : Nat}, d < l → Rw (Sy tok (Dr G tok)) ys i (i + d) m →
    ∃ m', Rw (Sy tok (Dr G tok)) ys i (i + d) m' ∧ m' ≤ (if d = 0 then ys.length * 1365 else fM d + (ys.length - 1) * 1365)
  | [], i, d, m, hd, h => ⟨0, ⟨h.1, rfl⟩, Nat.zero_le _⟩
  | y :: ys, i, d, m, hd, ⟨k, a, b, h1, h2, h3, h4, h5⟩ => by
    obtain ⟨x, rfl⟩ : ∃ x, k = i + x := ⟨k - i, by omega⟩
    obtain ⟨z, rfl⟩ : ∃ z, d = x + z := ⟨d - x, by omega⟩
    rw [← Nat.add_assoc] at h4
    obtain ⟨m', g1, g2⟩ := rowR hI ys (by omega : z < l) h4
    have hp : ∃ a', Sy tok (Dr G tok) y i (i + x) a' ∧ a' ≤ (if x = 0 then 1365 else fM x) := by
      by_cases hy : y < 6
      · rw [Sy_v hy] at h3
        refine ⟨Lv G tok y i (i + x), (Sy_v hy).mpr (lst_in ⟨a, h3⟩), ?_⟩
        have h6 := hI x (by omega) i y hy ⟨a, h3⟩
        by_cases hx : x = 0
        · rw [if_pos hx]; subst hx; exact h6
        · rw [if_neg hx]; exact h6
      · have h7 := h3
        rw [Sy_t hy] at h7
        exact ⟨a, h3, by rw [h7.2.2]; exact Nat.zero_le _⟩
    obtain ⟨a', p1, p2⟩ := hp
    refine ⟨a' + m', ⟨i + x, a', m', by omega, by omega, p1, by rw [← Nat.add_assoc]; exact g1, rfl⟩, ?_⟩
    rw [List.length_cons]
    have hne : z ≠ 0 → 1 ≤ ys.length := fun hz => by
      cases ys with
      | nil => exact absurd h4.1 (by omega)
      | cons w ws => simp
    cases x with
    | zero =>
      rw [if_pos rfl] at p2
      cases z with
      | zero => rw [if_pos rfl] at g2 ⊢; rw [Nat.succ_mul]; omega
      | succ z =>
        rw [if_neg (by omega)] at g2 ⊢
        have := hne (by omega)
        obtain ⟨L, hL⟩ : ∃ L, ys.length = L + 1 := ⟨ys.length - 1, by omega⟩
        rw [hL] at g2 ⊢
        simp only [Nat.add_sub_cancel, Nat.zero_add] at g2 ⊢
        rw [Nat.succ_mul]; omega
    | succ x =>
      rw [if_neg (by omega)] at p2
      cases z with
      | zero =>
        rw [if_pos rfl] at g2; rw [if_neg (by omega)]
        simp only [Nat.add_sub_cancel, Nat.add_zero]
        omega
      | succ z =>
        rw [if_neg (by omega)] at g2 ⊢
        have := hne (by omega)
        obtain ⟨L, hL⟩ : ∃ L, ys.length = L + 1 := ⟨ys.length - 1, by omega⟩
        rw [hL] at g2 ⊢
        simp only [Nat.add_sub_cancel] at g2 ⊢
        have e1 : fM (x + 1 + (z + 1)) = 24576 * (2 * (x + 1 + z) + 1) := rfl
        have e2 : fM (x + 1) = 24576 * (2 * x + 1) := rfl
        have e3 : fM (z + 1) = 24576 * (2 * z + 1) := rfl
        rw [e1]; rw [e2] at p2; rw [e3] at g2
        rw [Nat.succ_mul]; omega
theorem rowI {l : Nat} (hI : ∀ l', l' < l + 1 → ∀ i v, v < 6 → (∃ m, Dr G tok v i (i + l') m) → Lv G tok v i (i + l') ≤ fM l') : ∀ (ys : List Nat) {i m : Nat}, Rw (Sy tok (Dr G tok)) ys i (i + (l + 1)) m →
    ∃ m', Rw (Sy tok (Dr G tok)) ys i (i + (l + 1)) m' ∧ (m' ≤ 24576 * (2 * l) + (ys.length - 1) * 1365 ∨ ∃ u, u < 6 ∧ (∃ m, Dr G tok u i (i + (l + 1)) m) ∧ Lv G tok u i (i + (l + 1)) ≤ m ∧ m' ≤ (ys.length - 1) * 1365 + Lv G tok u i (i + (l + 1)))
  | [], i, m, h => absurd h.1 (by omega)
  | y :: ys, i, m, ⟨k, a, b, h1, h2, h3, h4, h5⟩ => by
    obtain ⟨x, rfl⟩ : ∃ x, k = i + x := ⟨k - i, by omega⟩
    have hle := Rw_le _ h4
    rw [List.length_cons, Nat.add_sub_cancel]
    by_cases hx0 : x = 0
    · subst hx0
      have hy : y < 6 := Decidable.byContradiction fun hy => by rw [Sy_t hy] at h3; exact absurd h3.1 (by omega)
      rw [Sy_v hy] at h3
      have h6 := hI 0 (by omega) i y hy ⟨a, h3⟩
      have h6' : Lv G tok y i (i + 0) ≤ 1365 := h6
      have h4 : Rw (Sy tok (Dr G tok)) ys i (i + (l + 1)) b := h4
      obtain ⟨m', g1, g2⟩ := rowI hI ys h4
      have hne : 1 ≤ ys.length := by
        cases ys with
        | nil => exact absurd h4.1 (by omega)
        | cons w ws => simp
      obtain ⟨L, hL⟩ : ∃ L, ys.length = L + 1 := ⟨ys.length - 1, by omega⟩
      rw [hL, Nat.add_sub_cancel] at g2
      refine ⟨Lv G tok y i (i + 0) + m', ⟨i + 0, _, m', by omega, by omega, (Sy_v hy).mpr (lst_in ⟨a, h3⟩), g1, rfl⟩, ?_⟩
      rw [hL, Nat.succ_mul]
      rcases g2 with g2 | ⟨u, u1, u2, u3, u4⟩
      · exact Or.inl (by omega)
      · exact Or.inr ⟨u, u1, u2, by omega, by omega⟩
    · by_cases hxl : x = l + 1
      · subst hxl
        have h4' : Rw (Sy tok (Dr G tok)) ys (i + (l + 1)) (i + (l + 1) + 0) b := h4
        obtain ⟨m', g1, g2⟩ := rowR hI ys (by omega : 0 < l + 1) h4'
        rw [if_pos rfl] at g2
        by_cases hy : y < 6
        · rw [Sy_v hy] at h3
          refine ⟨Lv G tok y i (i + (l + 1)) + m', ⟨i + (l + 1), _, m', by omega, Nat.le_refl _, (Sy_v hy).mpr (lst_in ⟨a, h3⟩), g1, rfl⟩, Or.inr ⟨y, hy, ⟨a, h3⟩, ?_, by omega⟩⟩
          have : Lv G tok y i (i + (l + 1)) ≤ a := lst_le h3
          omega
        · have h7 := h3
          rw [Sy_t hy] at h7
          have hl0 : l = 0 := by have := h7.1; omega
          refine ⟨a + m', ⟨i + (l + 1), a, m', by omega, Nat.le_refl _, h3, g1, rfl⟩, Or.inl ?_⟩
          rw [h7.2.2]; omega
      · obtain ⟨z, hz⟩ : ∃ z, l + 1 = x + z := ⟨l + 1 - x, by omega⟩
        have hz0 : z ≠ 0 := by omega
        rw [hz, ← Nat.add_assoc] at h4
        obtain ⟨m', g1, g2⟩ := rowR hI ys (by omega : z < l + 1) h4
        rw [if_neg hz0] at g2
        have hne : 1 ≤ ys.length := by
          cases ys with
          | nil => exact absurd h4.1 (by omega)
          | cons w ws => simp
        have hp : ∃ a', Sy tok (Dr G tok) y i (i + x) a' ∧ a' ≤ fM x := by
          by_cases hy : y < 6
          · rw [Sy_v hy] at h3
            exact ⟨Lv G tok y i (i + x), (Sy_v hy).mpr (lst_in ⟨a, h3⟩), hI x (by omega) i y hy ⟨a, h3⟩⟩
          · have h7 := h3
            rw [Sy_t hy] at h7
            exact ⟨a, h3, by rw [h7.2.2]; exact Nat.zero_le _⟩
        obtain ⟨a', p1, p2⟩ := hp
        refine ⟨a' + m', ⟨i + x, a', m', by omega, by omega, p1, by rw [hz, ← Nat.add_assoc]; exact g1, rfl⟩, Or.inl ?_⟩
        obtain ⟨x', rfl⟩ : ∃ x', x = x' + 1 := ⟨x - 1, by omega⟩
        obtain ⟨z', rfl⟩ : ∃ z', z = z' + 1 := ⟨z - 1, by omega⟩
        obtain ⟨L, hL⟩ : ∃ L, ys.length = L + 1 := ⟨ys.length - 1, by omega⟩
        have e2 : fM (x' + 1) = 24576 * (2 * x' + 1) := rfl
        have e3 : fM (z' + 1) = 24576 * (2 * z' + 1) := rfl
        rw [e2] at p2; rw [e3] at g2
        rw [hL, Nat.add_sub_cancel] at g2
        rw [hL, Nat.succ_mul]; omega
theorem bnd_v (hG : ∀ p, p < G.1 → (G.2.2 p).length ≤ 4) : ∀ l, ∀ i v, v < 6 → (∃ m, Dr G tok v i (i + l) m) → Lv G tok v i (i + l) ≤ fM l := by
  intro l
  induction l using Nat.strongRecOn with
  | ind l hI =>
    have key : ∀ r i v, v < 6 → rkV G tok v i (i + l) ≤ r → (∃ m, Dr G tok v i (i + l) m) → Lv G tok v i (i + l) ≤ (match l with | 0 => e5 r | l + 1 => 24576 * (2 * l) + 4096 * (r + 1)) := by
      intro r
      induction r with
      | zero =>
        intro i v hv hr hd
        have hno : ∀ u, u < 6 → (∃ m, Dr G tok u i (i + l) m) → ¬ Lv G tok u i (i + l) < Lv G tok v i (i + l) := fun u hu hd2 h => by
          have := rkV_lt hu hd2 h
          omega
        obtain ⟨p, m', hp, hpv, hm, hrw⟩ := Dr_inv (lst_in hd)
        have hm2 : Lv G tok v i (i + l) = m' + 1 := hm
        have h4 := hG p hp
        cases l with
        | zero =>
          obtain ⟨m2, g1, g2⟩ := row0 (c := 0) _ hrw (fun u hu hd2 hl => absurd (show Lv G tok u i i < Lv G tok v i (i + 0) by omega) (hno u hu hd2))
          have h5 : Lv G tok v i (i + 0) ≤ m2 + 1 := lst_le (hpv ▸ Dr_cl p hp _ _ _ g1)
          rw [Nat.mul_zero] at g2
          show _ ≤ 1; omega
        | succ l =>
          obtain ⟨m2, g1, g2⟩ := rowI hI _ hrw
          have h5 : Lv G tok v i (i + (l + 1)) ≤ m2 + 1 := lst_le (hpv ▸ Dr_cl p hp _ _ _ g1)
          rcases g2 with g2 | ⟨u, u1, u2, u3, u4⟩
          · have : ((G.2.2 p).length - 1) * 1365 ≤ 3 * 1365 := Nat.mul_le_mul_right _ (by omega)
            show _ ≤ 24576 * (2 * l) + 4096 * (0 + 1); omega
          · exact absurd (show Lv G tok u i (i + (l + 1)) < Lv G tok v i (i + (l + 1)) by omega) (hno u u1 u2)
      | succ r ihr =>
        intro i v hv hr hd
        obtain ⟨p, m', hp, hpv, hm, hrw⟩ := Dr_inv (lst_in hd)
        have hm2 : Lv G tok v i (i + l) = m' + 1 := hm
        have h4 := hG p hp
        cases l with
        | zero =>
          obtain ⟨m2, g1, g2⟩ := row0 (c := e5 r) _ hrw (fun u hu hd2 hl => ihr i u hu (by
            have := rkV_lt (v := v) hu hd2 (show Lv G tok u i i < Lv G tok v i i by have h9 : Lv G tok v i i = m' + 1 := hm2; omega)
            show rkV G tok u i i ≤ r
            have h8 : rkV G tok v i i ≤ r + 1 := hr
            omega) hd2)
          have h5 : Lv G tok v i (i + 0) ≤ m2 + 1 := lst_le (hpv ▸ Dr_cl p hp _ _ _ g1)
          have : (G.2.2 p).length * e5 r ≤ 4 * e5 r := Nat.mul_le_mul_right _ h4
          show _ ≤ 4 * e5 r + 1; omega
        | succ l =>
          obtain ⟨m2, g1, g2⟩ := rowI hI _ hrw
          have h5 : Lv G tok v i (i + (l + 1)) ≤ m2 + 1 := lst_le (hpv ▸ Dr_cl p hp _ _ _ g1)
          have h6 : ((G.2.2 p).length - 1) * 1365 ≤ 3 * 1365 := Nat.mul_le_mul_right _ (by omega)
          rcases g2 with g2 | ⟨u, u1, u2, u3, u4⟩
          · show _ ≤ 24576 * (2 * l) + 4096 * (r + 1 + 1); omega
          · have h7 := rkV_lt (v := v) u1 u2 (show Lv G tok u i (i + (l + 1)) < Lv G tok v i (i + (l + 1)) by omega)
            have h8 : Lv G tok u i (i + (l + 1)) ≤ 24576 * (2 * l) + 4096 * (r + 1) := ihr i u u1 (by omega) u2
            show _ ≤ 24576 * (2 * l) + 4096 * (r + 1 + 1); omega
    intro i v hv hd
    have h := key 5 i v hv (rkV_le hv) hd
    cases l with
    | zero => exact h
    | succ l =>
      have h2 : Lv G tok v i (i + (l + 1)) ≤ 24576 * (2 * l) + 4096 * (5 + 1) := h
      show _ ≤ 24576 * (2 * l + 1); omega
/-- at most 8 tokens: fewer than 1000000 steps -/
theorem bnd_lv (hG : ∀ p, p < G.1 → (G.2.2 p).length ≤ 4) {v i j : Nat} (hv : v < 6) (hj : j ≤ 8) (hd : ∃ m, Dr G tok v i j m) : Lv G tok v i j ≤ 368640 := by
  obtain ⟨m, hm⟩ := hd
  have hij := Dr_le hm
  obtain ⟨l, rfl⟩ : ∃ l, j = i + l := ⟨j - i, by omega⟩
  have h := bnd_v (G := G) (tok := tok) hG l i v hv ⟨m, hm⟩
  cases l with
  | zero => have h' : Lv G tok v i (i + 0) ≤ 1365 := h; omega
  | succ l => have h' : Lv G tok v i (i + (l + 1)) ≤ 24576 * (2 * l + 1) := h; omega
end LV
