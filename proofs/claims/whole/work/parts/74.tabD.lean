/-! a pass over a stretch, step by step; the rounds; all stretches that end at a place -/
section TD
variable {G : Grm} {tok : Nat → Nat} {S n i j t : Nat} {μ : Mem} {Bd : Nat → Prop}
theorem low_row {t' c' : Nat} (hv : gv μ (gp μ t) < 6) : lowS n S i j t μ (t' + 34) c' = if t' = t ∧ c' = i * 9 + j then leastS μ n S t i j else μ (t' + 34) c' := by
  have e1 : low1 n S i j t μ (t' + 34) c' = if t' = t ∧ c' = i * 9 + j then leastS μ n S t i j else μ (t' + 34) c' := by
    unfold low1
    by_cases h : t' = t
    · subst h
      by_cases h2 : c' = i * 9 + j
      · subst h2; rw [mset_s, if_pos ⟨rfl, rfl⟩]
      · rw [mset_i h2, if_neg (fun q => h2 q.2)]
    · rw [mset_n (by omega), if_neg (fun q => h q.1)]
  unfold lowS
  split
  · rw [mset_n (by omega)]; exact e1
  · exact e1
theorem low_var {w c' : Nat} (hw : w < 6) : lowS n S i j t μ (w + 28) c' = if lowC n S i j t μ = true ∧ w = gv μ (gp μ t) ∧ c' = i * 9 + j then leastS μ n S t i j + nI 1 else μ (w + 28) c' := by
  have e1 : low1 n S i j t μ (w + 28) c' = μ (w + 28) c' := by unfold low1; rw [mset_n (by omega)]
  unfold lowS
  by_cases hC : lowC n S i j t μ = true
  · rw [if_pos hC]
    by_cases h : w = gv μ (gp μ t)
    · subst h
      by_cases h2 : c' = i * 9 + j
      · subst h2; rw [mset_s, if_pos ⟨hC, rfl, rfl⟩]
      · rw [mset_i h2, if_neg (fun q => h2 q.2.2)]; exact e1
    · rw [mset_n (by omega), if_neg (fun q => h q.2.1)]; exact e1
  · rw [if_neg hC, if_neg (fun q => hC q.1)]; exact e1
theorem lowC_iff (ht : t < S) (h : PV G tok S n i j μ) : lowC n S i j t μ = true ↔ t = gf μ (gp μ t) ∧ ¬ leastS μ n S t i j = -1 ∧ (μ (gv μ (gp μ t) + 28) (i * 9 + j) = -1 ∨ leastS μ n S t i j + nI 1 < μ (gv μ (gp μ t) + 28) (i * 9 + j)) := by
  obtain ⟨hp, hf⟩ := SE_p h.1 ht
  have hv : gv μ (gp μ t) < 6 := (h.1.1.2.2.2.2.1 _ hp).2.1
  unfold lowC fewer low1
  rw [mset_n (by omega)]
  simp only [Bool.and_eq_true, Bool.not_eq_true', Bool.or_eq_true, decide_eq_true_eq, decide_eq_false_iff_not]
  rw [show (t - gf μ (gp μ t) = 0) ↔ t = gf μ (gp μ t) by omega]
/-- a lowering is sound -/
theorem low_upd (h : PV G tok S n i j μ) (hR : PR G tok S i j (t + 1) μ) (ht : t < S) (hC : lowC n S i j t μ = true) : ∃ x, x < 2 ^ 29 ∧ leastS μ n S t i j = nI x ∧ Dr G tok (gv μ (gp μ t)) i j (x + 1) ∧ x + 1 ≤ bbl (j - i) (asg μ i j + 1) ∧ leastS μ n S t i j + nI 1 = nI (x + 1) ∧ (μ (gv μ (gp μ t) + 28) (i * 9 + j) = -1 ∨ ∃ x', x' < 2 ^ 29 ∧ μ (gv μ (gp μ t) + 28) (i * 9 + j) = nI x' ∧ x + 1 < x' ∧ x' ≤ bbl (j - i) (asg μ i j) ∧ Dr G tok (gv μ (gp μ t)) i j x') := by
  obtain ⟨hp, hf⟩ := SE_p h.1 ht
  have hv : gv μ (gp μ t) < 6 := (h.1.1.2.2.2.2.1 _ hp).2.1
  obtain ⟨c1, c2, c3⟩ := (lowC_iff ht h).mp hC
  rcases row_snd h hR ht with q | ⟨x, hx, q, hr⟩
  · exact absurd q c2
  · have hb := SB_fin h ht hr
    have e1 : leastS μ n S t i j + nI 1 = nI (x + 1) := by rw [q, nI_add]
    have hd : Dr G tok (gv μ (gp μ t)) i j (x + 1) := by
      rw [(h.1.2.2.1 _ hp).1]
      refine Dr_cl _ hp _ _ _ ?_
      have hr2 : Rw (Sy tok (Dr G tok)) (RB G μ t) i j x := Rw_mono (i0 := i) (j0 := j) (fun _ _ _ _ _ _ _ h => h.1) _ (Nat.le_refl _) (Nat.le_refl _) hr
      have e2 : RB G μ t = G.2.2 (gp μ t) := by
        have := RB_first h.1 hp
        rw [← c1] at this; exact this
      rw [← e2]; exact hr2
    refine ⟨x, hx, q, hd, hb.1, e1, ?_⟩
    rcases c3 with c3 | c3
    · exact Or.inl c3
    · rcases h.2.2.2.2.2.2 _ hv with z | ⟨x', z1, z2, z3⟩
      · exact Or.inl z
      · refine Or.inr ⟨x', ?_, z1, ?_, z3, z2⟩
        · have := bbl_m (l := j - i) (a := asg μ i j) (b := 7) (by have := asg_6 (μ := μ) (i := i) (j := j); omega)
          have := bbl_7 (j - i)
          omega
        · rw [e1, z1] at c3
          have := bbl_m (l := j - i) (a := asg μ i j) (b := 7) (by have := asg_6 (μ := μ) (i := i) (j := j); omega)
          have := bbl_7 (j - i)
          exact (nI_ltI (by omega) (by omega)).mp c3
/-- what is exact stays -/
theorem low_keep (h : PV G tok S n i j μ) (hR : PR G tok S i j (t + 1) μ) (ht : t < S) {w : Nat} (hw : w < 6) (he : μ (w + 28) (i * 9 + j) = nI (Lv G tok w i j)) (hd : ∃ m, Dr G tok w i j m) : lowS n S i j t μ (w + 28) (i * 9 + j) = nI (Lv G tok w i j) := by
  rw [low_var hw]
  by_cases hC : lowC n S i j t μ = true ∧ w = gv μ (gp μ t) ∧ i * 9 + j = i * 9 + j
  · exfalso
    obtain ⟨x, -, -, h2, -, -, h4⟩ := low_upd h hR ht hC.1
    rw [← hC.2.1] at h2 h4
    have hle : Lv G tok w i j ≤ x + 1 := lst_le h2
    have hbd := Lv_bnd h.1.2.1 hw (show j ≤ 8 by have := h.2.2.1; have := h.2.2.2.2.1; omega) hd
    rcases h4 with h4 | ⟨x', z0, z1, z2, -⟩
    · rw [he] at h4; exact nI_m1 (by omega) h4
    · rw [he] at z1
      have := (nI_eq (by omega) (by omega)).mp z1
      omega
  · rw [if_neg hC]; exact he
theorem low_step (hB : ∀ a b, a ≤ b → Bd b → Bd a) (h : PV G tok S n i j μ) (hR : PR G tok S i j (t + 1) μ) (hE : PE G tok S i j Bd (t + 1) μ) (hF : PF G tok i j Bd (t + 1) μ) (hV : HV G tok i j Bd μ) (ht : t < S) :
    PV G tok S n i j (lowS n S i j t μ) ∧ PR G tok S i j t (lowS n S i j t μ) ∧ PE G tok S i j Bd t (lowS n S i j t μ) ∧ PF G tok i j Bd t (lowS n S i j t μ) ∧ HV G tok i j Bd (lowS n S i j t μ) := by
  obtain ⟨hp, hf⟩ := SE_p h.1 ht
  have hv : gv μ (gp μ t) < 6 := (h.1.1.2.2.2.2.1 _ hp).2.1
  have hj8 : j ≤ 8 := by have := h.2.2.1; have := h.2.2.2.2.1; omega
  have lo : ∀ q, q < 28 → lowS n S i j t μ q = μ q := fun q hq => lowS_lo hq
  have eRB : RB G (lowS n S i j t μ) = RB G μ := RB_of (lo 7 (by decide)) (lo 9 (by decide))
  have egf : gf (lowS n S i j t μ) = gf μ := by funext p; unfold gf; rw [lo 7 (by decide)]
  have hasg : asg μ i j ≤ asg (lowS n S i j t μ) i j := cntP_le (fun u hu => ⟨hu.1, by
    rw [low_var hu.1]
    split
    · rename_i hC
      obtain ⟨x, h1, -, -, -, h3, -⟩ := low_upd h hR ht hC.1
      rw [h3]; exact nI_m1 (by omega)
    · exact hu.2⟩) 6
  have hsb : ∀ y i' k a, SB G tok (j - i) (asg μ i j) y i' k a → SB G tok (j - i) (asg (lowS n S i j t μ) i j) y i' k a := fun _ _ _ _ q => SB_m hasg q
  have hPV : PV G tok S n i j (lowS n S i j t μ) := by
    refine ⟨SE_of h.1 (lo 1 (by decide)) (lo 6 (by decide)) (lo 7 (by decide)) (lo 8 (by decide)) (lo 9 (by decide)), fun i' hi' => by rw [lo 10 (by decide)]; exact h.2.1 i' hi', h.2.2.1, h.2.2.2.1, h.2.2.2.2.1, fun i' j' a1 a2 a3 a4 => ⟨fun v' hv' => ?_, fun t' ht' => ?_⟩, fun w hw => ?_⟩
    · rw [low_var hv', if_neg (by omega)]; exact (h.2.2.2.2.2.1 i' j' a1 a2 a3 a4).1 v' hv'
    · rw [low_row hv, if_neg (by omega), eRB]; exact (h.2.2.2.2.2.1 i' j' a1 a2 a3 a4).2 t' ht'
    · rw [low_var hw]
      by_cases hC : lowC n S i j t μ = true ∧ w = gv μ (gp μ t) ∧ i * 9 + j = i * 9 + j
      · rw [if_pos hC]
        obtain ⟨x, h1, -, h2, hbx, h3, h4⟩ := low_upd h hR ht hC.1
        refine Or.inr ⟨x + 1, h3, by rw [hC.2.1]; exact h2, ?_⟩
        rcases h4 with h4 | ⟨x', z0, z1, z2, z3, -⟩
        · refine Nat.le_trans hbx (bbl_m ?_)
          refine cntP_lt (u := w) (fun u hu => ⟨hu.1, ?_⟩) (fun q => q.2 (by rw [hC.2.1]; exact h4)) ⟨hw, ?_⟩ 6 hw
          · rw [low_var hu.1]; split
            · rw [h3]; exact nI_m1 (by omega)
            · exact hu.2
          · rw [low_var hw, if_pos hC, h3]; exact nI_m1 (by omega)
        · exact Nat.le_trans (Nat.le_trans (Nat.le_of_lt z2) z3) (bbl_m hasg)
      · rw [if_neg hC]
        rcases h.2.2.2.2.2.2 w hw with q | ⟨x, q1, q2, q3⟩
        · exact Or.inl q
        · exact Or.inr ⟨x, q1, q2, Nat.le_trans q3 (bbl_m hasg)⟩
  refine ⟨hPV, fun t' a1 a2 => ?_, fun t' a1 a2 b hb hr => ?_, fun p' hp' a1 m hm hr hl => ?_, fun u hu a ha hd => ?_⟩
  · rw [low_row hv, eRB]
    by_cases e : t' = t
    · subst e
      rw [if_pos ⟨rfl, rfl⟩]
      rcases row_snd h hR ht with q | ⟨x, -, q, hr⟩
      · exact Or.inl q
      · exact Or.inr ⟨x, q, Rw_mono (i0 := i) (j0 := j) (fun _ _ _ _ _ _ _ q => hsb _ _ _ _ q) _ (Nat.le_refl _) (Nat.le_refl _) hr⟩
    · rw [if_neg (fun q => e q.1)]
      rcases hR t' (by omega) a2 with q | ⟨x, q, hr⟩
      · exact Or.inl q
      · exact Or.inr ⟨x, q, Rw_mono (i0 := i) (j0 := j) (fun _ _ _ _ _ _ _ q => hsb _ _ _ _ q) _ (Nat.le_refl _) (Nat.le_refl _) hr⟩
  · rw [eRB] at hr
    rw [low_row hv]
    by_cases e : t' = t
    · subst e
      rw [if_pos ⟨rfl, rfl⟩]
      exact row_cpl h hR hE hV hB ht hb hr
    · rw [if_neg (fun q => e q.1)]
      exact hE t' (by omega) a2 b hb hr
  · rw [egf] at a1
    have hv' : G.2.1 p' < 6 := (h.1.2.1.2 p' hp').1
    have hd : ∃ m, Dr G tok (G.2.1 p') i j m := ⟨m + 1, Dr_cl p' hp' _ _ _ hr⟩
    by_cases e : t = gf μ p'
    · have ep : gp μ t = p' := by rw [e]; exact (h.1.2.2.1 p' hp').2
      have er : RB G μ t = G.2.2 p' := by rw [e]; exact RB_first h.1 hp'
      have evp : gv μ (gp μ t) = G.2.1 p' := by rw [ep]; exact (h.1.2.2.1 p' hp').1
      obtain ⟨x, x1, x2, x3⟩ := row_cpl h hR hE hV hB ht hm (by rw [er]; exact hr)
      rw [low_var hv']
      by_cases hC : lowC n S i j t μ = true ∧ G.2.1 p' = gv μ (gp μ t) ∧ i * 9 + j = i * 9 + j
      · rw [if_pos hC]
        obtain ⟨x', h1, h0, h2, -, h3, -⟩ := low_upd h hR ht hC.1
        rw [x3] at h0
        have e3 := (nI_eq (by omega) (by omega)).mp h0
        have : Lv G tok (G.2.1 p') i j ≤ x' + 1 := lst_le (by rw [← evp]; exact h2)
        rw [h3]; congr 1; omega
      · rw [if_neg hC]
        have hC' : ¬ lowC n S i j t μ = true := fun q => hC ⟨q, evp.symm, rfl⟩
        rw [lowC_iff ht h] at hC'
        rcases h.2.2.2.2.2.2 _ hv' with q | ⟨x', q1, q2, q3⟩
        · exact absurd ⟨by rw [ep]; exact e, by rw [x3]; exact nI_m1 (by omega), Or.inl (by rw [evp]; exact q)⟩ hC'
        · have hb1 := bbl_m (l := j - i) (a := asg μ i j) (b := 7) (by have := asg_6 (μ := μ) (i := i) (j := j); omega)
          have hb2 := bbl_7 (j - i)
          have hge : Lv G tok (G.2.1 p') i j ≤ x' := lst_le q2
          have hnot : ¬ x + 1 < x' := fun z => hC' ⟨by rw [ep]; exact e, by rw [x3]; exact nI_m1 (by omega), Or.inr (by rw [evp, x3, q1, nI_add]; exact (nI_ltI (by omega) (by omega)).mpr z)⟩
          rw [q1]; congr 1; omega
    · have h1 := hF p' hp' (by omega) m hm hr hl
      rw [← hl] at h1 ⊢
      exact low_keep h hR ht hv' h1 hd
  · exact low_keep h hR ht hu (hV u hu a ha hd) ⟨a, hd⟩
def PI (G : Grm) (tok : Nat → Nat) (S n i j : Nat) (Bd : Nat → Prop) (t : Nat) (μ : Mem) : Prop := PV G tok S n i j μ ∧ PR G tok S i j t μ ∧ PE G tok S i j Bd t μ ∧ PF G tok i j Bd t μ ∧ HV G tok i j Bd μ
theorem PI_start (h : PV G tok S n i j μ) (hV : HV G tok i j Bd μ) : PI G tok S n i j Bd S μ :=
  ⟨h, fun t' a b => absurd a (by omega), fun t' a b => absurd a (by omega), fun p hp a => absurd a (by have := (h.1.1.2.2.2.2.1 p hp).2.2.2; omega), hV⟩
theorem low_pass (hB : ∀ a b, a ≤ b → Bd b → Bd a) : ∀ (t : Nat) (b : Bool) (μ : Mem), t ≤ S → PI G tok S n i j Bd t μ → PI G tok S n i j Bd 0 (lowF n S i j t b μ).2
  | 0, _, _, _, h => h
  | t + 1, b, μ, ht, h => by
    rw [lowF]
    obtain ⟨h1, h2, h3, h4, h5⟩ := h
    exact low_pass hB t _ _ (by omega) (low_step hB h1 h2 h3 h4 h5 (by omega))
/-- nothing was lowered: the variables' cells are as they were -/
theorem low_same : ∀ (t : Nat) (b : Bool) (μ : Mem), (lowF n S i j t b μ).1 = false → b = false ∧ ∀ w, w < 6 → (lowF n S i j t b μ).2 (w + 28) (i * 9 + j) = μ (w + 28) (i * 9 + j)
  | 0, b, μ, h => ⟨h, fun _ _ => rfl⟩
  | t + 1, b, μ, h => by
    rw [lowF] at h ⊢
    obtain ⟨h1, h2⟩ := low_same t _ _ h
    simp only [Bool.or_eq_false_iff] at h1
    refine ⟨h1.1, fun w hw => ?_⟩
    rw [h2 w hw, low_var hw, if_neg (fun q => by rw [h1.2] at q; cases q.1)]
theorem low_col {c' : Nat} (hc : c' ≠ i * 9 + j) : ∀ (t : Nat) (b : Bool) (μ : Mem) (q : Nat), (lowF n S i j t b μ).2 q c' = μ q c'
  | 0, _, _, _ => rfl
  | t + 1, b, μ, q => by
    rw [lowF, low_col hc t]
    have e1 : low1 n S i j t μ q c' = μ q c' := by
      unfold low1
      by_cases e : q = t + 34
      · subst e; exact mset_i hc
      · rw [mset_n e]
    unfold lowS
    split
    · by_cases e : q = gv μ (gp μ t) + 28
      · subst e; rw [mset_i hc]; exact e1
      · rw [mset_n e]; exact e1
    · exact e1
/-- where all is exact nothing is lowered -/
theorem low_exact (hX : ∀ w, w < 6 → μ (w + 28) (i * 9 + j) = enc (Lv G tok w i j)) (ht : t ≤ S) (b : Bool) (h : PI G tok S n i j (fun _ => True) t μ) : (lowF n S i j t b μ).1 = b := by
  induction t generalizing b μ with
  | zero => rfl
  | succ t ih =>
    rw [lowF]
    obtain ⟨h1, h2, h3, h4, h5⟩ := h
    have hC : lowC n S i j t μ = false := by
      cases hc : lowC n S i j t μ with
      | false => rfl
      | true =>
        exfalso
        have hv : gv μ (gp μ t) < 6 := (h1.1.1.2.2.2.2.1 _ (SE_p h1.1 (by omega : t < S)).1).2.1
        obtain ⟨x, hx, -, g2, -, -, g4⟩ := low_upd h1 h2 (by omega) hc
        have hle : Lv G tok (gv μ (gp μ t)) i j ≤ x + 1 := lst_le g2
        rcases enc_lv h1.1.2.1 (tok := tok) (i := i) (j := j) hv (by have := h1.2.2.1; have := h1.2.2.2.2.1; omega) with ⟨-, z⟩ | ⟨z1, z2, -⟩
        · exact z ⟨_, g2⟩
        · rcases g4 with g4 | ⟨x', w0, w1, w2, -⟩
          · rw [hX _ hv, z1] at g4; exact nI_m1 (by omega) g4
          · rw [hX _ hv, z1] at w1
            have := (nI_eq (by omega) (by omega)).mp w1
            omega
    rw [hC, Bool.or_false]
    refine ih (fun w hw => ?_) (by omega) b (low_step (fun _ _ _ _ => trivial) h1 h2 h3 h4 h5 (by omega))
    rw [low_var hw, if_neg (fun q => by rw [hC] at q; cases q.1)]
    exact hX w hw
def LE (G : Grm) (tok : Nat → Nat) (i j r : Nat) (μ : Mem) : Prop := ∀ v, v < 6 → (∃ m, Dr G tok v i j m) → rkV G tok v i j < r → μ (v + 28) (i * 9 + j) = nI (Lv G tok v i j)
def BdR (G : Grm) (tok : Nat → Nat) (i j r : Nat) (b : Nat) : Prop := ∃ v, v < 6 ∧ (∃ m, Dr G tok v i j m) ∧ rkV G tok v i j ≤ r ∧ b < Lv G tok v i j
theorem LE_HV {r : Nat} (h : LE G tok i j r μ) : HV G tok i j (BdR G tok i j r) μ := fun u hu a ⟨v, v1, v2, v3, v4⟩ hd => by
  have h1 : Lv G tok u i j ≤ a := lst_le hd
  exact h u hu ⟨a, hd⟩ (by have := rkV_lt (v := v) hu ⟨a, hd⟩ (show Lv G tok u i j < Lv G tok v i j by omega); omega)
theorem LE_pass {r : Nat} {b : Bool} (h : PV G tok S n i j μ) (hl : LE G tok i j r μ) : PV G tok S n i j (lowF n S i j S b μ).2 ∧ LE G tok i j (r + 1) (lowF n S i j S b μ).2 := by
  have hp := low_pass (fun a b hab ⟨v, v1, v2, v3, v4⟩ => ⟨v, v1, v2, v3, by omega⟩) S b μ (Nat.le_refl _) (PI_start h (LE_HV hl))
  refine ⟨hp.1, fun v hv hd hr => ?_⟩
  obtain ⟨p, m, hp1, hpv, hm, hrw⟩ := Dr_inv (lst_in hd)
  have hm' : Lv G tok v i j = m + 1 := hm
  have h4 := hp.2.2.2.1 p hp1 (Nat.zero_le _) m ⟨v, hv, hd, by omega, by omega⟩ hrw (by rw [hpv]; exact hm')
  rw [hpv] at h4
  rw [h4, hm']
theorem LE_exact (h : PV G tok S n i j μ) (hl : LE G tok i j 6 μ) : XV G tok μ i j := fun v hv => by
  rcases enc_lv h.1.2.1 (tok := tok) (i := i) (j := j) hv (by have := h.2.2.1; have := h.2.2.2.2.1; omega) with ⟨q, z⟩ | ⟨q, -, z⟩
  · rw [q]
    rcases h.2.2.2.2.2.2 v hv with w | ⟨x, -, w, -⟩
    · exact w
    · exact absurd ⟨x, w⟩ z
  · rw [q]; exact hl v hv z (by have := rkV_le (G := G) (tok := tok) (i := i) (j := j) hv; omega)
theorem pass_rows (h : PV G tok S n i j μ) (hx : XV G tok μ i j) {b : Bool} : XR G tok (lowF n S i j S b μ).2 S i j := by
  have hV : HV G tok i j (fun _ => True) μ := fun u hu a _ hd => by
    have := Lv_bnd h.1.2.1 hu (show j ≤ 8 by have := h.2.2.1; have := h.2.2.2.2.1; omega) ⟨a, hd⟩
    rw [hx u hu, enc_t (by omega)]
  have hp := low_pass (fun _ _ _ _ => trivial) S b μ (Nat.le_refl _) (PI_start h hV)
  intro t ht
  rcases enc_lr hp.1.1.2.1 (tok := tok) (i := i) (j := j) (RB_len hp.1.1 ht) (by have := h.2.2.1; have := h.2.2.2.2.1; omega) with ⟨q, z⟩ | ⟨q, q2, z⟩
  · rw [q]
    rcases hp.2.1 t (Nat.zero_le _) ht with w | ⟨x, -, w⟩
    · exact w
    · exact absurd ⟨x, Rw_mono (i0 := i) (j0 := j) (fun _ _ _ _ _ _ _ h => h.1) _ (Nat.le_refl _) (Nat.le_refl _) w⟩ z
  · obtain ⟨x, x1, x2, x3⟩ := hp.2.2.1 t (Nat.zero_le _) ht _ trivial (lst_in z)
    rw [q, x3]
    congr 1
    rcases hp.2.1 t (Nat.zero_le _) ht with w | ⟨x', w1, w2⟩
    · rw [x3] at w; exact absurd w (nI_m1 (by omega))
    · rw [x3] at w1
      have e1 := (nI_eq (by omega) (by have := (SB_fin hp.1 ht w2).2; omega)).mp w1
      have : Lr G tok (RB G (lowF n S i j S b μ).2 t) i j ≤ x' := lst_le (Rw_mono (i0 := i) (j0 := j) (fun _ _ _ _ _ _ _ h => h.1) _ (Nat.le_refl _) (Nat.le_refl _) w2)
      have x1' : x ≤ Lr G tok (RB G (lowF n S i j S b μ).2 t) i j := x1
      omega
theorem str_ok : ∀ (k r : Nat) (μ : Mem), r ≤ 6 → 7 ≤ r + k → PV G tok S n i j μ → LE G tok i j r μ → XV G tok (strF n S i j k μ) i j ∧ XR G tok (strF n S i j k μ) S i j
  | 0, r, μ, h1, h2, _, _ => absurd h2 (by omega)
  | k + 1, r, μ, h1, h2, h, hl => by
    rw [strF]
    by_cases hf : (lowF n S i j S false μ).1 = true
    · rw [if_pos hf]
      have hp := LE_pass (b := false) h hl
      by_cases hr : r = 6
      · exfalso
        subst hr
        have hx := LE_exact h hl
        have hV : HV G tok i j (fun _ => True) μ := fun u hu a _ hd => by
          have := Lv_bnd h.1.2.1 hu (show j ≤ 8 by have := h.2.2.1; have := h.2.2.2.2.1; omega) ⟨a, hd⟩
          rw [hx u hu, enc_t (by omega)]
        have := low_exact hx (Nat.le_refl _) false (PI_start h hV)
        rw [this] at hf; cases hf
      · exact str_ok k (r + 1) _ (by omega) (by omega) hp.1 hp.2
    · rw [if_neg hf]
      have hf' : (lowF n S i j S false μ).1 = false := by cases hh : (lowF n S i j S false μ).1; rfl; exact absurd hh hf
      have hs := (low_same S false μ hf').2
      have hall : ∀ r, LE G tok i j r μ := by
        intro r
        induction r with
        | zero => exact fun _ _ _ h => absurd h (Nat.not_lt_zero _)
        | succ r ih =>
          have hp := (LE_pass (b := false) h ih).2
          exact fun v hv hd hr => by rw [← hs v hv]; exact hp v hv hd hr
      have hx := LE_exact h (hall 6)
      exact ⟨fun v hv => by rw [hs v hv]; exact hx v hv, pass_rows h hx⟩
theorem str_col {c' : Nat} (hc : c' ≠ i * 9 + j) : ∀ (k : Nat) (μ : Mem) (q : Nat), strF n S i j k μ q c' = μ q c'
  | 0, _, _ => rfl
  | k + 1, μ, q => by
    rw [strF]; split
    · rw [str_col hc k, low_col hc]
    · rw [low_col hc]
theorem init_col {c c' : Nat} (hc : c' ≠ c) : ∀ (v : Nat) (σ : Mem) (q : Nat), initC c σ v q c' = σ q c'
  | 0, _, _ => rfl
  | v + 1, σ, q => by
    rw [initC]
    by_cases e : q = v + 28
    · subst e; rw [mset_i hc, init_col hc v]
    · rw [mset_n e, init_col hc v]
theorem init_at {c : Nat} {σ : Mem} : ∀ (v w : Nat), w < v → initC c σ v (w + 28) c = -1
  | 0, w, h => absurd h (Nat.not_lt_zero _)
  | v + 1, w, h => by
    rw [initC]
    by_cases e : w = v
    · subst e; exact mset_s
    · rw [mset_n (by omega)]; exact init_at v w (by omega)
theorem fstr_col {c' q : Nat} {σ : Mem} (hc : c' ≠ i * 9 + j) : fstr n S i j σ q c' = σ q c' := by unfold fstr; rw [str_col hc, init_col hc]
/-- a stretch is filled in right where the shorter ones are -/
theorem fstr_ok {σ : Mem} (h1 : SE G σ S) (h2 : TK σ tok n) (hn : n ≤ 8) (hij : i ≤ j) (hjn : j ≤ n) (hX : ∀ i' j', i ≤ i' → i' ≤ j' → j' ≤ j → (i' ≠ i ∨ j' ≠ j) → XV G tok σ i' j' ∧ XR G tok σ S i' j') : XV G tok (fstr n S i j σ) i j ∧ XR G tok (fstr n S i j σ) S i j := by
  have lo : ∀ q, q < 28 → initC (i * 9 + j) σ 6 q = σ q := fun q hq => initC_lo 6 hq
  have eRB : RB G (initC (i * 9 + j) σ 6) = RB G σ := RB_of (lo 7 (by decide)) (lo 9 (by decide))
  refine str_ok 1000 0 _ (by decide) (by decide) ⟨SE_of h1 (lo 1 (by decide)) (lo 6 (by decide)) (lo 7 (by decide)) (lo 8 (by decide)) (lo 9 (by decide)), fun i' hi' => by rw [lo 10 (by decide)]; exact h2 i' hi', hn, hij, hjn, fun i' j' a1 a2 a3 a4 => ⟨fun v hv => ?_, fun t ht => ?_⟩, fun v hv => Or.inl (init_at 6 v hv)⟩ (fun _ _ _ h => absurd h (Nat.not_lt_zero _))
  · rw [init_col (by omega)]; exact (hX i' j' a1 a2 a3 a4).1 v hv
  · rw [init_col (by omega), eRB]; exact (hX i' j' a1 a2 a3 a4).2 t ht
end TD
/-- the table is right for all stretches of the input -/
def TE (G : Grm) (tok : Nat → Nat) (σ : Mem) (S n : Nat) : Prop := ∀ i j, i ≤ j → j ≤ n → XV G tok σ i j ∧ XR G tok σ S i j
theorem upF_col {n S j : Nat} {c' : Nat} : ∀ (i : Nat) (μ : Mem) (q : Nat), (∀ i', i' < i → c' ≠ i' * 9 + j) → upF n S j i μ q c' = μ q c'
  | 0, _, _, _ => rfl
  | i + 1, μ, q, h => by rw [upF, upF_col i _ _ (fun i' hi' => h i' (by omega)), fstr_col (h i (by omega))]
theorem upF_ok {G : Grm} {tok : Nat → Nat} {S n j : Nat} (hn : n ≤ 8) (hjn : j ≤ n) : ∀ (i : Nat) (μ : Mem), i ≤ j + 1 → SE G μ S → TK μ tok n → (∀ a b, a ≤ b → b ≤ j → (b < j ∨ i ≤ a) → XV G tok μ a b ∧ XR G tok μ S a b) → ∀ a b, a ≤ b → b ≤ j → XV G tok (upF n S j i μ) a b ∧ XR G tok (upF n S j i μ) S a b
  | 0, μ, _, _, _, h => fun a b h1 h2 => h a b h1 h2 (by omega)
  | i + 1, μ, hi, hS, hT, h => by
    rw [upF]
    have lo : ∀ q, q < 28 → fstr n S i j μ q = μ q := fun q hq => fstr_lo hq
    have eRB : RB G (fstr n S i j μ) = RB G μ := RB_of (lo 7 (by decide)) (lo 9 (by decide))
    refine upF_ok hn hjn i _ (by omega) (SE_of hS (lo 1 (by decide)) (lo 6 (by decide)) (lo 7 (by decide)) (lo 8 (by decide)) (lo 9 (by decide))) (fun i' hi' => by rw [lo 10 (by decide)]; exact hT i' hi') (fun a b h1 h2 h3 => ?_)
    by_cases e : a = i ∧ b = j
    · obtain ⟨rfl, rfl⟩ := e
      exact fstr_ok hS hT hn h1 hjn (fun i' j' a1 a2 a3 a4 => h i' j' a2 a3 (by omega))
    · have h4 := h a b h1 h2 (by omega)
      exact ⟨fun v hv => by rw [fstr_col (by omega)]; exact h4.1 v hv, fun t ht => by rw [fstr_col (by omega), eRB]; exact h4.2 t ht⟩
