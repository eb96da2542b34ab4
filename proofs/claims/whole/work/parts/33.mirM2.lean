def stH (x : HC) (i : Nat) (v : Int32) : HC := (upd x.1 i v, x.2)
def flH (x : HC) (v : Int32) : HC := (x.1, v)
theorem mset_mhc {σ : Mem} {x : HC} {i : Nat} {v : Int32} : mset (mhc σ x) 5 i v = mhc σ (stH x i v) := by
  unfold mhc stH; rw [mset_mrow]
theorem mset_mhc0 {σ : Mem} {x : HC} {v : Int32} : mset (mhc σ x) 0 10 v = mhc σ (flH x v) := by
  funext j i
  unfold mhc flH mset mrow upd
  by_cases h0 : j = 0
  · subst h0
    by_cases h : i = 10 <;> simp [h]
  · simp [h0]
theorem bhF_mhc {σ : Mem} {x : HC} {p d : Nat} : bhF (mhc σ x) p d = bhF σ p d := by
  unfold bhF mn; rw [mhc_n (by decide) (by decide), mhc_n (by decide) (by decide)]
/-- a place where an item of set k may stand -/
def GI (σ : Mem) (P k j : Nat) : Prop := ∃ p d o, p < P ∧ d ≤ mn σ p ∧ o ≤ k ∧ j = ix k p d o
def vH (σ : Mem) (P k : Nat) (x : HC) : Prop := bH x ∧ ∀ j, 360 * k ≤ j → j < 360 * k + 360 → ¬ x.1 j = 0 → GI σ P k j
theorem vH_put {σ : Mem} {P k i : Nat} {x : HC} (h : vH σ P k x) (hi : GI σ P k i) : vH σ P k (putH x i) := by
  refine ⟨bH_put h.1, fun j h1 h2 h3 => ?_⟩
  by_cases e : j = i
  · rw [e]; exact hi
  · refine h.2 j h1 h2 (fun q => h3 ?_)
    simp [putH, upd, e]; exact q
/-- y has grown out of x: nothing is lost, and the flag tells a growth -/
def gH (k : Nat) (x y : HC) : Prop := (∀ j, ¬ x.1 j = 0 → ¬ y.1 j = 0) ∧ (¬ y.2 = 0 → ¬ x.2 = 0 ∨ ∃ j, 360 * k ≤ j ∧ j < 360 * k + 360 ∧ x.1 j = 0 ∧ ¬ y.1 j = 0)
theorem gH_rf {k : Nat} {x : HC} : gH k x x := ⟨fun _ h => h, fun h => Or.inl h⟩
theorem gH_tr {k : Nat} {x y z : HC} (h1 : gH k x y) (h2 : gH k y z) : gH k x z := by
  refine ⟨fun j h => h2.1 j (h1.1 j h), fun h => ?_⟩
  rcases h2.2 h with q | ⟨j, a, b, q, r⟩
  · rcases h1.2 q with q | ⟨j, a, b, q, r⟩
    · exact Or.inl q
    · exact Or.inr ⟨j, a, b, q, h2.1 j r⟩
  · refine Or.inr ⟨j, a, b, ?_, r⟩
    exact Decidable.byContradiction fun hx => h1.1 j hx q
theorem gH_put {σ : Mem} {P k i : Nat} {x : HC} (hk : P ≤ 8) (hm : ∀ p, p < P → mn σ p ≤ 4) (hk9 : k < 9) (hi : GI σ P k i) : gH k x (putH x i) := by
  have hin : 360 * k ≤ i ∧ i < 360 * k + 360 := by
    obtain ⟨p, d, o, h1, h2, h3, rfl⟩ := hi
    have := hm p h1
    unfold ix; omega
  refine ⟨fun j h => ?_, fun h => ?_⟩
  · by_cases e : j = i
    · simp [putH, upd, e]; decide
    · simp [putH, upd, e]; exact h
  · by_cases e : x.2 = 0
    · refine Or.inr ⟨i, hin.1, hin.2, ?_, by simp [putH, upd]; decide⟩
      exact Decidable.byContradiction fun q => h (by simp [putH, e, q]; rfl)
    · exact Or.inl e
/-- what a step of the model's filling keeps -/
def okH (σ : Mem) (P k : Nat) (x y : HC) : Prop := (vH σ P k x → vH σ P k y) ∧ gH k x y ∧ ∀ j, (j < 360 * k ∨ 360 * k + 360 ≤ j) → y.1 j = x.1 j
theorem okH_rf {σ : Mem} {P k : Nat} {x : HC} : okH σ P k x x := ⟨id, gH_rf, fun _ _ => rfl⟩
theorem okH_tr {σ : Mem} {P k : Nat} {x y z : HC} (h1 : okH σ P k x y) (h2 : okH σ P k y z) : okH σ P k x z := ⟨fun h => h2.1 (h1.1 h), gH_tr h1.2.1 h2.2.1, fun j hj => (h2.2.2 j hj).trans (h1.2.2 j hj)⟩
theorem okH_put {σ : Mem} {P k i : Nat} {x : HC} (hP : P ≤ 8) (hm : ∀ p, p < P → mn σ p ≤ 4) (hk9 : k < 9) (hi : GI σ P k i) : okH σ P k x (putH x i) := by
  refine ⟨fun h => vH_put h hi, gH_put hP hm hk9 hi, fun j hj => ?_⟩
  have : j ≠ i := by
    obtain ⟨p, d, o, h1, h2, h3, rfl⟩ := hi
    have := hm p h1
    unfold ix; omega
  simp [putH, upd, this]
/-! bring -/
def prH (σ : Mem) (k : Nat) (y : Int32) (x : HC) : Nat → HC
  | 0 => x
  | q + 1 => if σ 1 q = y then putH (prH σ k y x q) (ix k q 0 k) else prH σ k y x q
def coH (k q e o : Nat) (x : HC) : Nat → HC
  | 0 => x
  | w + 1 => if (coH k q e o x w).1 (ix o q e w) = 0 then coH k q e o x w else putH (coH k q e o x w) (ix k q (e + 1) w)
def cdH (σ : Mem) (k p q o : Nat) (x : HC) : Nat → HC
  | 0 => x
  | e + 1 => if bhF σ q e = σ 1 p then coH k q e o (cdH σ k p q o x e) (o + 1) else cdH σ k p q o x e
def cqH (σ : Mem) (k p o : Nat) (x : HC) : Nat → HC
  | 0 => x
  | q + 1 => cdH σ k p q o (cqH σ k p o x q) (mn σ q)
def brH (σ : Mem) (P k p d o : Nat) (x : HC) : HC := if bhF σ p d < 0 then cqH σ k p o x P else if nI 100 ≤ bhF σ p d then x else prH σ k (bhF σ p d) x P
section OKH
variable {σ : Mem} {P k : Nat} (hg : mG σ P) (hk9 : k < 9)
theorem mG_m {p : Nat} (hg : mG σ P) (h : p < P) : mn σ p ≤ 4 := (hg.2.2 p h).2.2.2.1
theorem ok_prH {y : Int32} {x : HC} (hg : mG σ P) (hk9 : k < 9) : ∀ q, q ≤ P → okH σ P k x (prH σ k y x q)
  | 0, _ => okH_rf
  | q + 1, h => by
    rw [prH]
    split
    · exact okH_tr (ok_prH hg hk9 q (by omega)) (okH_put hg.1 (fun p h => mG_m hg h) hk9 ⟨q, 0, k, by omega, Nat.zero_le _, Nat.le_refl _, rfl⟩)
    · exact ok_prH hg hk9 q (by omega)
theorem ok_coH {q e o : Nat} {x : HC} (hg : mG σ P) (hk9 : k < 9) (hq : q < P) (he : e < mn σ q) (ho : o ≤ k) : ∀ w, w ≤ o + 1 → okH σ P k x (coH k q e o x w)
  | 0, _ => okH_rf
  | w + 1, h => by
    rw [coH]
    split
    · exact ok_coH hg hk9 hq he ho w (by omega)
    · exact okH_tr (ok_coH hg hk9 hq he ho w (by omega)) (okH_put hg.1 (fun p h => mG_m hg h) hk9 ⟨q, e + 1, w, hq, by omega, by omega, rfl⟩)
theorem ok_cdH {p q o : Nat} {x : HC} (hg : mG σ P) (hk9 : k < 9) (hq : q < P) (ho : o ≤ k) : ∀ e, e ≤ mn σ q → okH σ P k x (cdH σ k p q o x e)
  | 0, _ => okH_rf
  | e + 1, h => by
    rw [cdH]
    split
    · exact okH_tr (ok_cdH hg hk9 hq ho e (by omega)) (ok_coH hg hk9 hq (by omega) ho _ (Nat.le_refl _))
    · exact ok_cdH hg hk9 hq ho e (by omega)
theorem ok_cqH {p o : Nat} {x : HC} (hg : mG σ P) (hk9 : k < 9) (ho : o ≤ k) : ∀ q, q ≤ P → okH σ P k x (cqH σ k p o x q)
  | 0, _ => okH_rf
  | q + 1, h => by rw [cqH]; exact okH_tr (ok_cqH hg hk9 ho q (by omega)) (ok_cdH hg hk9 (by omega) ho _ (Nat.le_refl _))
theorem ok_brH {p d o : Nat} {x : HC} (hg : mG σ P) (hk9 : k < 9) (ho : o ≤ k) : okH σ P k x (brH σ P k p d o x) := by
  unfold brH
  split
  · exact ok_cqH hg hk9 ho P (Nat.le_refl _)
  · split
    · exact okH_rf
    · exact ok_prH hg hk9 P (Nat.le_refl _)
end OKH
/-! fill -/
def clH (k : Nat) (x : HC) : Nat → HC
  | 0 => x
  | i + 1 => stH (clH k x i) (360 * k + i) (nI 0)
def scH (k p d : Nat) (x : HC) : Nat → HC
  | 0 => x
  | o + 1 => if (scH k p d x o).1 (ix (k - 1) p d o) = 0 then scH k p d x o else putH (scH k p d x o) (ix k p (d + 1) o)
def sdH (σ : Mem) (k p : Nat) (x : HC) : Nat → HC
  | 0 => x
  | d + 1 => if bhF σ p d = σ 4 k then scH k p d (sdH σ k p x d) k else sdH σ k p x d
def s0H (σ : Mem) (k p : Nat) (x : HC) : HC := if k = 0 then (if σ 1 p = σ 1 0 then putH x (ix 0 p 0 0) else x) else x
def spH (σ : Mem) (k : Nat) (x : HC) : Nat → HC
  | 0 => x
  | p + 1 => sdH σ k p (s0H σ k p (spH σ k x p)) (mn σ p)
def swH (σ : Mem) (P k : Nat) (x : HC) : Nat → HC
  | 0 => x
  | i + 1 => if (swH σ P k x i).1 (360 * k + i) = 0 then swH σ P k x i else brH σ P k (i / 45) (i / 9 % 5) (i % 9) (swH σ P k x i)
def whH (σ : Mem) (P k : Nat) : Nat → HC → HC
  | 0, x => x
  | n + 1, x => if x.2 = 0 then x else whH σ P k n (swH σ P k (flH x (nI 0)) 360)
theorem ok_scH {σ : Mem} {P k p d : Nat} {x : HC} (hg : mG σ P) (hk9 : k < 9) (hp : p < P) (hd : d < mn σ p) : ∀ o, o ≤ k → okH σ P k x (scH k p d x o)
  | 0, _ => okH_rf
  | o + 1, h => by
    rw [scH]
    split
    · exact ok_scH hg hk9 hp hd o (by omega)
    · exact okH_tr (ok_scH hg hk9 hp hd o (by omega)) (okH_put hg.1 (fun p h => mG_m hg h) hk9 ⟨p, d + 1, o, hp, by omega, by omega, rfl⟩)
theorem ok_sdH {σ : Mem} {P k p : Nat} {x : HC} (hg : mG σ P) (hk9 : k < 9) (hp : p < P) : ∀ d, d ≤ mn σ p → okH σ P k x (sdH σ k p x d)
  | 0, _ => okH_rf
  | d + 1, h => by
    rw [sdH]
    split
    · exact okH_tr (ok_sdH hg hk9 hp d (by omega)) (ok_scH hg hk9 hp (by omega) _ (Nat.le_refl _))
    · exact ok_sdH hg hk9 hp d (by omega)
theorem ok_s0H {σ : Mem} {P k p : Nat} {x : HC} (hg : mG σ P) (hk9 : k < 9) (hp : p < P) : okH σ P k x (s0H σ k p x) := by
  unfold s0H
  by_cases h : k = 0
  · subst h
    rw [if_pos rfl]
    split
    · exact okH_put hg.1 (fun p h => mG_m hg h) hk9 ⟨p, 0, 0, hp, Nat.zero_le _, Nat.le_refl _, rfl⟩
    · exact okH_rf
  · rw [if_neg h]; exact okH_rf
theorem ok_spH {σ : Mem} {P k : Nat} {x : HC} (hg : mG σ P) (hk9 : k < 9) : ∀ p, p ≤ P → okH σ P k x (spH σ k x p)
  | 0, _ => okH_rf
  | p + 1, h => by rw [spH]; exact okH_tr (okH_tr (ok_spH hg hk9 p (by omega)) (ok_s0H hg hk9 (by omega))) (ok_sdH hg hk9 (by omega) _ (Nat.le_refl _))
theorem GI_of {σ : Mem} {P k i : Nat} (hg : mG σ P) (hk9 : k < 9) (hi : i < 360) (h : GI σ P k (360 * k + i)) : i / 45 < P ∧ i / 9 % 5 ≤ mn σ (i / 45) ∧ i % 9 ≤ k := by
  obtain ⟨p, d, o, h1, h2, h3, h4⟩ := h
  have hm := mG_m hg h1
  have hP := hg.1
  unfold ix at h4
  have e1 : i = 45 * p + 9 * d + o := by omega
  have e2 : i / 45 = p := by omega
  have e3 : i / 9 % 5 = d := by omega
  have e4 : i % 9 = o := by omega
  rw [e2, e3, e4]
  exact ⟨h1, h2, h3⟩
theorem ok_swH {σ : Mem} {P k : Nat} {x : HC} (hg : mG σ P) (hk9 : k < 9) (hv : vH σ P k x) : ∀ i, i ≤ 360 → okH σ P k x (swH σ P k x i)
  | 0, _ => okH_rf
  | i + 1, h => by
    rw [swH]
    split
    · exact ok_swH hg hk9 hv i (by omega)
    · rename_i hne
      have hb := ok_swH hg hk9 hv i (by omega)
      exact okH_tr hb (ok_brH hg hk9 (GI_of hg hk9 (by omega) ((hb.1 hv).2 _ (by omega) (by omega) hne)).2.2)
theorem vH_cl {σ : Mem} {P k : Nat} {x : HC} (hb : bH x) : vH σ P k (clH k x 360) := by
  have h1 : ∀ i, bH (clH k x i) ∧ ∀ j, 360 * k ≤ j → j < 360 * k + i → (clH k x i).1 j = 0 := by
    intro i
    induction i with
    | zero => exact ⟨hb, fun j h1 h2 => absurd h2 (by omega)⟩
    | succ i ih =>
      refine ⟨⟨fun j => ?_, ih.1.2⟩, fun j h1 h2 => ?_⟩
      · by_cases e : j = 360 * k + i
        · left; simp [clH, stH, upd, e]; rfl
        · have := ih.1.1 j; simp [clH, stH, upd, e]; exact this
      · by_cases e : j = 360 * k + i
        · simp [clH, stH, upd, e]; rfl
        · simp [clH, stH, upd, e]; exact ih.2 j h1 (by omega)
  exact ⟨(h1 360).1, fun j a b c => absurd ((h1 360).2 j a b) c⟩
theorem vH_fl {σ : Mem} {P k : Nat} {x : HC} {v : Int32} (h : vH σ P k x) (hv : v = 0 ∨ v = 1) : vH σ P k (flH x v) := ⟨⟨h.1.1, hv⟩, h.2⟩
/-- the empty places of block k, and the flag: falls along the while -/
def zeH (k : Nat) (x : HC) : Nat := 2 * (360 - cntH x.1 (360 * k) 360) + (if x.2 = 0 then 0 else 1)
theorem cntH_mono {f g : Nat → Int32} {b : Nat} (h : ∀ j, ¬ f j = 0 → ¬ g j = 0) : ∀ n, cntH f b n ≤ cntH g b n
  | 0 => Nat.le_refl _
  | n + 1 => by
    have ih := cntH_mono (b := b) h n
    rw [cntH, cntH]
    by_cases e : f (b + n) = 0
    · rw [if_pos e]; split <;> omega
    · rw [if_neg e, if_neg (h _ e)]; omega
theorem cntH_lt {f g : Nat → Int32} {b j : Nat} (h : ∀ j, ¬ f j = 0 → ¬ g j = 0) (h0 : f (b + j) = 0) (h1 : ¬ g (b + j) = 0) : ∀ n, j < n → cntH f b n < cntH g b n
  | 0, hj => absurd hj (Nat.not_lt_zero _)
  | n + 1, hj => by
    rw [cntH, cntH]
    by_cases e : j = n
    · subst e
      rw [if_pos h0, if_neg h1]
      have := cntH_mono (b := b) h j
      omega
    · have ih := cntH_lt h h0 h1 n (by omega)
      by_cases e2 : f (b + n) = 0
      · rw [if_pos e2]; split <;> omega
      · rw [if_neg e2, if_neg (h _ e2)]; omega
theorem zeH_lt {σ : Mem} {P k : Nat} {x y : HC} (hx : ¬ x.2 = 0) (h : okH σ P k (flH x (nI 0)) y) : zeH k y < zeH k x := by
  have hm : ∀ j, ¬ x.1 j = 0 → ¬ y.1 j = 0 := h.2.1.1
  have h1 := cntH_mono (b := 360 * k) hm 360
  have h2 := cntH_le (f := y.1) (b := 360 * k) 360
  unfold zeH
  rw [if_neg hx]
  by_cases hy : y.2 = 0
  · rw [if_pos hy]; omega
  · rw [if_neg hy]
    rcases h.2.1.2 hy with q | ⟨j, a, b, q, r⟩
    · exact absurd rfl q
    · have h3 := cntH_lt (b := 360 * k) (j := j - 360 * k) hm (by rw [show 360 * k + (j - 360 * k) = j by omega]; exact q) (by rw [show 360 * k + (j - 360 * k) = j by omega]; exact r) 360 (by omega)
      omega
