theorem isV_nI {y : Nat} (h : y < 2 ^ 31) : isV (nI y) = decide (y < 6) := by
  unfold isV
  rw [show decide (nI y < 0) = false from decide_eq_false (nI_pos h)]
  by_cases h6 : y < 6
  · rw [show decide (nI 6 ≤ nI y) = false from decide_eq_false (fun q => by have := (nI_leI (by decide) h).mp q; omega), decide_eq_true h6]; rfl
  · rw [show decide (nI 6 ≤ nI y) = true from decide_eq_true ((nI_leI (by decide) h).mpr (by omega)), decide_eq_false h6]; rfl
theorem isV_m1 : isV (-1) = false := by decide
theorem gS_var {σ : Mem} {P S t : Nat} (h : gS σ P S) (ht : t < S) (hv : isV (σ 8 t) = true) : t + 1 < S ∧ σ 8 t = nI (gy σ t) ∧ gy σ t < 6 := by
  rcases h.2.2.2.2.2.2 t ht with h1 | ⟨h1, h2, h3⟩
  · rw [h1, isV_m1] at hv; cases hv
  · refine ⟨h1, h2, ?_⟩
    rw [h2, isV_nI (by omega)] at hv
    exact of_decide_eq_true hv
def growS (σ : Mem) (k P : Nat) (r : Nat → Int32) (t : Nat) : Nat → Int32 := if r t = 0 then r else predR (σ 6) (gf σ) k (σ 8 t) r P
def growR (σ : Mem) (k P : Nat) : Nat → Nat → Int32
  | 0 => σ (k + 19)
  | t + 1 => if isV (σ 8 t) = true then upd (growS σ k P (growR σ k P t) t) (t + 1) (growS σ k P (growR σ k P t) t (t + 1) ||| orgF (mrow σ (k + 19) (growS σ k P (growR σ k P t) t)) (σ 12 (gy σ t)) t 9) else growR σ k P t
def closeS (k P S : Nat) (σ : Mem) : Mem := mrow (mrow σ 12 (gathR σ (σ (k + 19)) S)) (k + 19) (growR (mrow σ 12 (gathR σ (σ (k + 19)) S)) k P (S - 1))
def closeM (k P S : Nat) : Nat → Mem → Mem
  | 0, σ => σ
  | n + 1, σ => if sizF (σ (k + 19)) S < sizF (closeS k P S σ (k + 19)) S then closeM k P S n (closeS k P S σ) else closeS k P S σ
theorem closeM_t {k P S i : Nat} {τ : Mem} (hi : i < 1000) (h : sizF (τ (k + 19)) S < sizF (closeS k P S τ (k + 19)) S) : closeM k P S (1000 - i) τ = closeM k P S (1000 - (i + 1)) (closeS k P S τ) := by
  rw [show 1000 - i = (1000 - (i + 1)) + 1 by omega, closeM, if_pos h]
theorem closeM_f {k P S i : Nat} {τ : Mem} (hi : i < 1000) (h : ¬ sizF (τ (k + 19)) S < sizF (closeS k P S τ (k + 19)) S) : closeM k P S (1000 - i) τ = closeS k P S τ := by
  rw [show 1000 - i = (1000 - (i + 1)) + 1 by omega, closeM, if_neg h]
theorem gS_close {k P S : Nat} {σ : Mem} (h : gS σ P S) : gS (closeS k P S σ) P S := gS_mrow (gS_mrow h (by decide)) (by omega)
def nextR (σ : Mem) (k : Nat) (x : Int32) : Nat → Nat → Int32
  | 0 => fillR (σ (k + 19)) (nI 0) 24
  | t + 1 => if σ 8 t = x then upd (nextR σ k x t) (t + 1) (σ ((k - 1) + 19) t) else nextR σ k x t
def holdB (σ : Mem) (r : Nat → Int32) (t : Nat) : Bool := decide (σ 8 t = -1) && (decide (σ 6 (gp σ t) = σ 6 0) && !decide ((r t &&& nI 1) = 0))
def holdF (σ : Mem) (r : Nat → Int32) : Nat → Bool
  | 0 => false
  | t + 1 => holdF σ r t || holdB σ r t
theorem holdF_t {σ : Mem} {r : Nat → Int32} {t : Nat} (h : holdB σ r t = true) : ∀ n, t < n → holdF σ r n = true
  | 0, h0 => absurd h0 (Nat.not_lt_zero _)
  | n + 1, h0 => by
    rw [holdF]
    by_cases e : t = n
    · rw [← e, h, Bool.or_true]
    · rw [holdF_t h n (by omega), Bool.true_or]
def orgAt (mask : Int32) : Nat → Nat → Int32 → Int32
  | 0, _, _ => nI 0
  | n + 1, o, b => if bitJ mask o = 0 then orgAt mask n (o + 1) b else if b = 0 then nI o else orgAt mask n (o + 1) (b + (-1))
def codeF (σ : Mem) (r : Nat → Int32) : Nat → Nat → Int32 → Int32
  | 0, _, _ => nI 0
  | n + 1, t, b => if b < popc (r t) then nI 1000 * σ 9 t + nI 100 * nI (t - gf σ (gp σ t)) + orgAt (r t) 9 0 b else codeF σ r n (t + 1) (b - popc (r t))
