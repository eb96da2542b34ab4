/-- a new object's numbers -/
def iniM (V T : Nat) : Mem := fun q i => if q = 0 then (if i = 0 then nI V else if i = 1 then nI T else 0) else 0
/-- the same cell, or an array of references that agrees where it has places -/
def va_sim (e e' : va_E) : Prop := e = e' ∨ ∃ (cA : ClassId) (n : Nat) (f g : Nat → Option Nat), e = .inl (cA, n, .inr (.inr (.inr (.inr f)))) ∧ e' = .inl (cA, n, .inr (.inr (.inr (.inr g)))) ∧ ∀ j, j < n → f j = g j
theorem va_sim.at {D : va_G} {a : Nat} {e e' : va_E} {H : Heap} (h : va_sim e e') (hat : va_at D classes (a, e) H) : va_at D classes (a, e') H := by
  rcases h with rfl | ⟨cA, n, f, g, rfl, rfl, hj⟩
  · exact hat
  · have h1 : H[a]? = some (arrV cA n (fun j => va_rf (f j))) := hat
    have h2 : arrV cA n (fun j => va_rf (f j)) = arrV cA n (fun j => va_rf (g j)) := n_arrV (fun j hj' => by show va_rf _ = va_rf _; rw [hj j hj'])
    show H[a]? = some (arrV cA n (fun j => va_rf (g j)))
    rw [h1, h2]
theorem to_wo {D : va_G} {ω : Wd} {σ : Mem} {A : Nat → Prop} {ws : va_W} {H : Heap} (hD1 : ω.1 = D) (pos : Nat → Nat) (hp : ∀ k, k < ω.2.2.2 → ∃ e, ws[pos k]? = some (ω.2.1 k, e) ∧ va_sim e (ω.2.2.1 k (σ k))) (hi : ∀ i j, i < ω.2.2.2 → j < ω.2.2.2 → pos i = pos j → i = j) (hP : va_P D classes ws H) (hD : va_D A ws) : va_P ω.1 classes (wo ω σ) H ∧ va_D A (wo ω σ) := by
  subst hD1
  refine ⟨fun k q hq => ?_, fun i j p q h1 h2 he => ?_, fun k q hq => ?_⟩
  · obtain ⟨hk, rfl⟩ := wo_of hq
    obtain ⟨e, h1, h2⟩ := hp k hk
    exact h2.at (hP _ _ h1)
  · obtain ⟨hi1, rfl⟩ := wo_of h1
    obtain ⟨hj1, rfl⟩ := wo_of h2
    obtain ⟨e, z1, -⟩ := hp i hi1
    obtain ⟨e', z2, -⟩ := hp j hj1
    exact hi i j hi1 hj1 (hD.1 _ _ _ _ z1 z2 he)
  · obtain ⟨hk, rfl⟩ := wo_of hq
    obtain ⟨e, h1, h2⟩ := hp k hk
    exact hD.2 _ (ω.2.1 k, e) h1
/-- where the class's cells stand in the order of their making -/
def posE (k : Nat) : Nat := match k with
  | 0 => 0 | 1 => 1 | 2 => 6 | 3 => 41 | 4 => 8 | 5 => 53 | 6 => 2 | 7 => 3 | 8 => 4 | 9 => 5 | 10 => 7 | 11 => 42 | 12 => 52 | 13 => 9 | 14 => 16 | 15 => 54 | 16 => 55 | 17 => 56 | 18 => 57
  | k + 19 => if k < 9 then 43 + k else if k < 15 then 1 + k else 2 + k
theorem posE_inj : ∀ i, i < 58 → ∀ j, j < 58 → posE i = posE j → i = j := by decide +kernel
def adE (z : Nat → Nat) (r11 r13 r14 : Nat → Nat) (k : Nat) : Nat := if k < 19 then z k else if k < 28 then r11 (k - 19) else if k < 34 then r13 (k - 28) else r14 (k - 34)
theorem adE_11 {z r11 r13 r14 : Nat → Nat} {j : Nat} (h : j < 9) : r11 j = adE z r11 r13 r14 (j + 19) := by
  unfold adE; rw [if_neg (by omega), if_pos (by omega), Nat.add_sub_cancel]
theorem adE_13 {z r11 r13 r14 : Nat → Nat} {j : Nat} (h : j < 6) : r13 j = adE z r11 r13 r14 (j + 28) := by
  unfold adE; rw [if_neg (by omega), if_neg (by omega), if_pos (by omega), Nat.add_sub_cancel]
theorem adE_14 {z r11 r13 r14 : Nat → Nat} {j : Nat} : r14 j = adE z r11 r13 r14 (j + 34) := by
  unfold adE; rw [if_neg (by omega), if_neg (by omega), if_neg (by omega), Nat.add_sub_cancel]
