/-! least rows, and their bounds -/
def enc (x : Nat) : Int32 := if x < 1000000 then nI x else -1
theorem enc_t {x : Nat} (h : x < 1000000) : enc x = nI x := if_pos h
theorem enc_f : enc 1000000 = -1 := rfl
def Smin (G : Grm) (tok : Nat → Nat) : SyP := fun y i k a => Sy tok (Dr G tok) y i k a ∧ a = Ls G tok y i k
section LR
variable {G : Grm} {tok : Nat → Nat}
theorem Ls_v {y i k : Nat} (hy : y < 6) : Ls G tok y i k = Lv G tok y i k := by
  unfold Ls Lv; congr 1; funext a; exact propext (Sy_v hy)
theorem Rw_min : ∀ (ys : List Nat) {i j m : Nat}, Rw (Sy tok (Dr G tok)) ys i j m → ∃ m', m' ≤ m ∧ Rw (Smin G tok) ys i j m'
  | [], _, _, m, h => ⟨m, Nat.le_refl _, h⟩
  | y :: ys, i, j, m, ⟨k, a, b, h1, h2, h3, h4, h5⟩ => by
    obtain ⟨b', g1, g2⟩ := Rw_min ys h4
    have : Ls G tok y i k ≤ a := lst_le h3
    exact ⟨Ls G tok y i k + b', by omega, k, _, b', h1, h2, ⟨lst_in ⟨a, h3⟩, rfl⟩, g2, rfl⟩
theorem Rw_of_min {ys : List Nat} {i j m : Nat} (h : Rw (Smin G tok) ys i j m) : Rw (Sy tok (Dr G tok)) ys i j m :=
  Rw_mono (i0 := i) (j0 := j) (fun _ _ _ _ _ _ _ h => h.1) ys (Nat.le_refl _) (Nat.le_refl _) h
theorem Lr_min {ys : List Nat} {i j : Nat} (h : ∃ m, Rw (Sy tok (Dr G tok)) ys i j m) : Rw (Smin G tok) ys i j (Lr G tok ys i j) := by
  obtain ⟨m', h1, h2⟩ := Rw_min ys (lst_in h)
  have h3 : Lr G tok ys i j ≤ m' := lst_le (Rw_of_min h2)
  have h4 : m' = Lr G tok ys i j := Nat.le_antisymm h1 h3
  rw [← h4]; exact h2
theorem Ls_le (hG : okR G) {y i x a : Nat} (hx : i + x ≤ 8) (h : Sy tok (Dr G tok) y i (i + x) a) : Ls G tok y i (i + x) ≤ if x = 0 then 1365 else fM x := by
  by_cases hy : y < 6
  · rw [Ls_v hy]
    rw [Sy_v hy] at h
    have h1 := bnd_v (G := G) (tok := tok) (fun p hp => (hG.2 p hp).2.1) x i y hy ⟨a, h⟩
    by_cases hx0 : x = 0
    · rw [if_pos hx0]; subst hx0; exact h1
    · rw [if_neg hx0]; exact h1
  · have h2 : Ls G tok y i (i + x) ≤ a := lst_le h
    rw [Sy_t hy] at h
    rw [h.2.2] at h2
    exact Nat.le_trans h2 (Nat.zero_le _)
theorem Lr_bnd (hG : okR G) {ys : List Nat} {i j : Nat} (hl : ys.length ≤ 4) (hj : j ≤ 8) (h : ∃ m, Rw (Sy tok (Dr G tok)) ys i j m) : Lr G tok ys i j ≤ 372735 := by
  have h1 := Lr_min h
  have hij := Rw_le _ h1
  obtain ⟨d, rfl⟩ : ∃ d, j = i + d := ⟨j - i, by omega⟩
  have h2 := rowG (g := fM) (e0 := 1365) (D := 8) (fun x y hx hy _ => fM_add x y hx hy) ys (by omega) (fun y i' x a q1 q2 q3 => by
    rw [q3.2]; exact Ls_le hG (by omega) q3.1) h1
  by_cases hd : d = 0
  · rw [if_pos hd] at h2
    have : ys.length * 1365 ≤ 4 * 1365 := Nat.mul_le_mul_right _ hl
    omega
  · rw [if_neg hd] at h2
    have h3 := fM_8 (x := d) (by omega) (by omega)
    have : (ys.length - 1) * 1365 ≤ 3 * 1365 := Nat.mul_le_mul_right _ (by omega)
    omega
theorem Lv_bnd (hG : okR G) {v i j : Nat} (hv : v < 6) (hj : j ≤ 8) (h : ∃ m, Dr G tok v i j m) : Lv G tok v i j ≤ 368640 := bnd_lv (fun p hp => (hG.2 p hp).2.1) hv hj h
/-- an exact cell: no steps, or the least -/
theorem enc_lv (hG : okR G) {v i j : Nat} (hv : v < 6) (hj : j ≤ 8) : (enc (Lv G tok v i j) = -1 ∧ ¬ ∃ m, Dr G tok v i j m) ∨ (enc (Lv G tok v i j) = nI (Lv G tok v i j) ∧ Lv G tok v i j ≤ 368640 ∧ ∃ m, Dr G tok v i j m) := by
  by_cases h : ∃ m, Dr G tok v i j m
  · have := Lv_bnd hG hv hj h; exact Or.inr ⟨enc_t (by omega), this, h⟩
  · exact Or.inl ⟨by unfold Lv; rw [lst_no h]; rfl, h⟩
theorem enc_lr (hG : okR G) {ys : List Nat} {i j : Nat} (hl : ys.length ≤ 4) (hj : j ≤ 8) : (enc (Lr G tok ys i j) = -1 ∧ ¬ ∃ m, Rw (Sy tok (Dr G tok)) ys i j m) ∨ (enc (Lr G tok ys i j) = nI (Lr G tok ys i j) ∧ Lr G tok ys i j ≤ 372735 ∧ ∃ m, Rw (Sy tok (Dr G tok)) ys i j m) := by
  by_cases h : ∃ m, Rw (Sy tok (Dr G tok)) ys i j m
  · have := Lr_bnd hG hl hj h; exact Or.inr ⟨enc_t (by omega), this, h⟩
  · exact Or.inl ⟨by unfold Lr; rw [lst_no h]; rfl, h⟩
end LR
def e6 : Nat → Nat
  | 0 => 0
  | r + 1 => 4 * e6 r + 1
theorem e6_m : ∀ {a b : Nat}, a ≤ b → e6 a ≤ e6 b
  | a, 0, h => by rw [show a = 0 by omega]; exact Nat.le_refl _
  | a, b + 1, h => by
    by_cases e : a = b + 1
    · rw [e]; exact Nat.le_refl _
    · have := e6_m (a := a) (b := b) (by omega); rw [e6]; omega
/-- the most that a variable's cell of a stretch of l tokens holds when c of them hold something -/
def bbl (l c : Nat) : Nat := if l = 0 then e6 c else 400000 + 4096 * c
theorem bbl_m {l a b : Nat} (h : a ≤ b) : bbl l a ≤ bbl l b := by
  unfold bbl; split
  · exact e6_m h
  · omega
theorem bbl_7 (l : Nat) : bbl l 7 < 2 ^ 29 := by
  unfold bbl; split
  · decide
  · decide
def SB (G : Grm) (tok : Nat → Nat) (l c : Nat) : SyP := fun y i k a => Sy tok (Dr G tok) y i k a ∧ a ≤ (if k - i = l then bbl l c else if k - i = 0 then 1365 else fM (k - i))
section SBs
variable {G : Grm} {tok : Nat → Nat}
theorem SB_m {l a b y i k x : Nat} (h : a ≤ b) (h1 : SB G tok l a y i k x) : SB G tok l b y i k x := by
  refine ⟨h1.1, Nat.le_trans h1.2 ?_⟩
  split
  · exact bbl_m h
  · exact Nat.le_refl _
theorem rowSB {l c : Nat} {ys : List Nat} {i m : Nat} (hl : ys.length ≤ 4) (hl8 : l ≤ 8) (h : Rw (SB G tok l c) ys i (i + l) m) : m + 1 ≤ bbl l (c + 1) := by
  by_cases h0 : l = 0
  · subst h0
    have h2 := rowG (g := fun _ => 0) (e0 := bbl 0 c) (D := 0) (fun x y hx hy h => absurd h (by omega)) ys (Nat.le_refl _) (fun y i' x a q1 q2 q3 => by
      have hx : x = 0 := by omega
      subst hx
      rw [if_pos rfl]
      have := q3.2
      rw [Nat.add_sub_cancel_left, if_pos rfl] at this; exact this) h
    rw [if_pos rfl] at h2
    have : ys.length * bbl 0 c ≤ 4 * bbl 0 c := Nat.mul_le_mul_right _ hl
    have e1 : bbl 0 (c + 1) = 4 * bbl 0 c + 1 := rfl
    omega
  · have hb : ∀ c, bbl l c = 400000 + 4096 * c := fun c => by unfold bbl; rw [if_neg h0]
    have h2 := rowG (g := fun x => if x = l then bbl l c else fM x) (e0 := 1365) (D := l) (fun x y hx hy h => by
      show (if x = l then _ else _) + (if y = l then _ else _) ≤ (if x + y = l then _ else _)
      rw [if_neg (by omega), if_neg (by omega)]
      have h3 := fM_add x y hx hy
      split
      · rename_i he
        have := fM_8 (x := x + y) (by omega) (by omega)
        rw [hb]; omega
      · exact h3) ys (Nat.le_refl _) (fun y i' x a q1 q2 q3 => by
      have := q3.2
      rw [Nat.add_sub_cancel_left] at this
      by_cases hx : x = l
      · rw [if_pos hx] at this
        rw [if_neg (by omega)]
        show a ≤ if x = l then _ else _
        rw [if_pos hx]; exact this
      · rw [if_neg hx] at this
        by_cases hx0 : x = 0
        · rw [if_pos hx0] at this ⊢; exact this
        · rw [if_neg hx0] at this ⊢
          show a ≤ if x = l then _ else _
          rw [if_neg hx]; exact this) h
    rw [if_neg h0] at h2
    have e2 : (if l = l then bbl l c else fM l) = bbl l c := if_pos rfl
    have h2' : m ≤ bbl l c + (ys.length - 1) * 1365 := by rw [← e2]; exact h2
    have : (ys.length - 1) * 1365 ≤ 3 * 1365 := Nat.mul_le_mul_right _ (by omega)
    rw [hb] at h2' ⊢; omega
/-- what is least over a shorter stretch may be a part -/
theorem Lr_SB (hG : okR G) {l c : Nat} {ys : List Nat} {k j : Nat} (hj : j ≤ 8) (hk : j - k < l) (h : ∃ m, Rw (Sy tok (Dr G tok)) ys k j m) : Rw (SB G tok l c) ys k j (Lr G tok ys k j) := by
  refine Rw_mono (i0 := k) (j0 := j) (fun y i' k' a q1 q2 q3 q4 => ⟨q4.1, ?_⟩) ys (Nat.le_refl _) (Nat.le_refl _) (Lr_min h)
  obtain ⟨x, rfl⟩ : ∃ x, k' = i' + x := ⟨k' - i', by omega⟩
  rw [Nat.add_sub_cancel_left, if_neg (by omega), q4.2]
  exact Ls_le hG (by omega) q4.1
end SBs
