/-! the class's sets: least closed sets of items -/
abbrev Itm : Type := Nat → Nat → Nat → Prop
/-- what a set k of items must have: B, what is predicted, what is completed; Lo: the sets before it -/
def clS (G : Grm) (k : Nat) (B : Itm) (Lo : Nat → Itm) (X : Itm) : Prop :=
  (∀ p d o, B p d o → X p d o) ∧ (∀ p d o y q, X p d o → (G.2.2 p)[d]? = some y → q < G.1 → G.2.1 q = y → X q 0 k) ∧
  (∀ p o q e w, p < G.1 → X p (G.2.2 p).length o → ((o < k ∧ Lo o q e w) ∨ (o = k ∧ X q e w)) → (G.2.2 q)[e]? = some (G.2.1 p) → X q (e + 1) w)
def SF (G : Grm) (σ : Mem) (S : Nat) : Prop := SE G σ S ∧ ∀ t, t < S → t ≤ gf σ (gp σ t) + (G.2.2 (gp σ t)).length
theorem SF_of {G : Grm} {σ τ : Mem} {S : Nat} (h : SF G σ S) (h1 : τ 1 = σ 1) (h6 : τ 6 = σ 6) (h7 : τ 7 = σ 7) (h8 : τ 8 = σ 8) (h9 : τ 9 = σ 9) : SF G τ S := by
  have e2 : gf τ = gf σ := by funext p; unfold gf; rw [h7]
  have e3 : gp τ = gp σ := by funext p; unfold gp; rw [h9]
  exact ⟨SE_of h.1 h1 h6 h7 h8 h9, by rw [e2, e3]; exact h.2⟩
def XE (G : Grm) (σ : Mem) (k : Nat) : Itm := fun p d o => p < G.1 ∧ d ≤ (G.2.2 p).length ∧ bt (σ (k + 19)) (gf σ p + d) o
def rE (G : Grm) (σ : Mem) (r : Nat → Int32) : Itm := fun p d o => p < G.1 ∧ d ≤ (G.2.2 p).length ∧ bt r (gf σ p + d) o
section SEs
variable {G : Grm} {σ : Mem} {S : Nat}
theorem sl_at (h : SF G σ S) {p : Nat} (hp : p < G.1) : ∀ d, d ≤ (G.2.2 p).length → gf σ p + d < S ∧ gp σ (gf σ p + d) = p
  | 0, _ => ⟨(h.1.1.2.2.2.2.1 p hp).2.2.2, (h.1.2.2.1 p hp).2⟩
  | d + 1, hd => by
    obtain ⟨h1, h2⟩ := sl_at h hp d (by omega)
    have h3 := (h.1.2.2.2 _ h1).2 (by
      unfold RB; rw [h2, Nat.add_sub_cancel_left]
      intro q
      have := congrArg List.length q
      rw [List.length_drop, List.length_nil] at this; omega)
    exact ⟨h3.1, by rw [← Nat.add_assoc, h3.2, h2]⟩
theorem sl_8 (h : SF G σ S) {p d : Nat} (hp : p < G.1) (hd : d ≤ (G.2.2 p).length) : (d < (G.2.2 p).length ∧ ∃ y, (G.2.2 p)[d]? = some y ∧ σ 8 (gf σ p + d) = nI y ∧ (y < 6 ∨ (100 ≤ y ∧ y < 106))) ∨ (d = (G.2.2 p).length ∧ σ 8 (gf σ p + d) = -1) := by
  obtain ⟨h1, h2⟩ := sl_at h hp d hd
  have e : RB G σ (gf σ p + d) = (G.2.2 p).drop d := by unfold RB; rw [h2, Nat.add_sub_cancel_left]
  have h8 := (h.1.2.2.2 _ h1).1
  rw [e] at h8
  by_cases hl : d < (G.2.2 p).length
  · refine Or.inl ⟨hl, (G.2.2 p)[d], List.getElem?_eq_getElem hl, ?_, (h.1.2.1.2 p hp).2.2 _ (List.getElem_mem _)⟩
    rw [h8, List.drop_eq_getElem_cons hl]; rfl
  · refine Or.inr ⟨by omega, ?_⟩
    rw [h8, List.drop_eq_nil_of_le (by omega)]; rfl
/-- every slot is an item's -/
theorem sl_of (h : SF G σ S) {t : Nat} (ht : t < S) : gp σ t < G.1 ∧ t - gf σ (gp σ t) ≤ (G.2.2 (gp σ t)).length ∧ gf σ (gp σ t) + (t - gf σ (gp σ t)) = t := by
  obtain ⟨h1, h2⟩ := SE_p h.1 ht
  have := h.2 t ht
  exact ⟨h1, by omega, by omega⟩
theorem sl_24 (h : SF G σ S) : S ≤ 24 := h.1.1.2.1
theorem predR_spec {l6 : Nat → Int32} {f7 : Nat → Nat} {k : Nat} {v : Int32} {r : Nat → Int32} (h : gR r) (hk : k < 9) : ∀ n, (∀ p, p < n → f7 p < 24) → gR (predR l6 f7 k v r n) ∧ ∀ t o, bt (predR l6 f7 k v r n) t o ↔ bt r t o ∨ (o = k ∧ ∃ p, p < n ∧ l6 p = v ∧ f7 p = t)
  | 0, _ => ⟨h, fun t o => ⟨Or.inl, fun q => q.elim id (fun ⟨_, _, q, _⟩ => absurd q (Nat.not_lt_zero _))⟩⟩
  | n + 1, hf => by
    obtain ⟨h1, h2⟩ := predR_spec h hk n (fun p hp => hf p (by omega))
    rw [predR]
    by_cases e : l6 n = v
    · rw [if_pos e, bitK_eq k hk]
      obtain ⟨g1, g2⟩ := gR_or h1 (hf n (by omega)) (pow_lt9 k hk)
      refine ⟨g1, fun t o => ?_⟩
      rw [g2, h2, Nat.testBit_two_pow]
      constructor
      · rintro ((q | ⟨q, p, q1, q2, q3⟩) | ⟨q1, q2⟩)
        · exact Or.inl q
        · exact Or.inr ⟨q, p, by omega, q2, q3⟩
        · exact Or.inr ⟨(of_decide_eq_true q2).symm, n, by omega, e, q1.symm⟩
      · rintro (q | ⟨q, p, q1, q2, q3⟩)
        · exact Or.inl (Or.inl q)
        · by_cases ep : p = n
          · subst ep; exact Or.inr ⟨q3.symm, decide_eq_true q.symm⟩
          · exact Or.inl (Or.inr ⟨q, p, by omega, q2, q3⟩)
    · rw [if_neg e]
      refine ⟨h1, fun t o => ?_⟩
      rw [h2]
      constructor
      · rintro (q | ⟨q, p, q1, q2, q3⟩)
        · exact Or.inl q
        · exact Or.inr ⟨q, p, by omega, q2, q3⟩
      · rintro (q | ⟨q, p, q1, q2, q3⟩)
        · exact Or.inl q
        · by_cases ep : p = n
          · subst ep; exact absurd q2 e
          · exact Or.inr ⟨q, p, by omega, q2, q3⟩
theorem orgF_spec {mm t : Nat} (h : ∀ j, j < 9 → gR (σ (j + 19))) (hm : mm < 512) (ht : t < 24) : ∀ n, n ≤ 9 → ∃ ov, ov < 512 ∧ orgF σ (nI mm) t n = nI ov ∧ ∀ o, ov.testBit o = true ↔ ∃ j, j < n ∧ mm.testBit j = true ∧ bt (σ (j + 19)) t o
  | 0, _ => ⟨0, by decide, rfl, fun o => ⟨(fun q => by rw [Nat.zero_testBit] at q; cases q), fun ⟨_, q, _⟩ => absurd q (Nat.not_lt_zero _)⟩⟩
  | n + 1, hn => by
    obtain ⟨ov, h1, h2, h3⟩ := orgF_spec h hm ht n (by omega)
    rw [orgF]
    by_cases hb : mm.testBit n = true
    · rw [if_neg (fun q => by rw [(bitJ_eq mm hm n (by omega)).mp q] at hb; cases hb), h2, (h n (by omega) t ht).1, nI_or]
      refine ⟨_, or_lt h1 (h n (by omega) t ht).2, rfl, fun o => ?_⟩
      rw [Nat.testBit_or, Bool.or_eq_true, h3]
      constructor
      · rintro (⟨j, q1, q2, q3⟩ | q)
        · exact ⟨j, by omega, q2, q3⟩
        · exact ⟨n, by omega, hb, q⟩
      · rintro ⟨j, q1, q2, q3⟩
        by_cases e : j = n
        · subst e; exact Or.inr q3
        · exact Or.inl ⟨j, by omega, q2, q3⟩
    · rw [if_pos ((bitJ_eq mm hm n (by omega)).mpr (by cases hh : mm.testBit n; rfl; exact absurd hh hb))]
      refine ⟨ov, h1, h2, fun o => ?_⟩
      rw [h3]
      constructor
      · rintro ⟨j, q1, q2, q3⟩; exact ⟨j, by omega, q2, q3⟩
      · rintro ⟨j, q1, q2, q3⟩
        by_cases e : j = n
        · subst e; exact absurd q2 hb
        · exact ⟨j, by omega, q2, q3⟩
theorem gathR_spec {r : Nat → Int32} (h : SF G σ S) (hr : gR r) : ∀ n, n ≤ S → ∀ v, v < 6 → (gathR σ r n v = nI (msk (gathR σ r n v)) ∧ msk (gathR σ r n v) < 512) ∧ ∀ o, bt (gathR σ r n) v o ↔ ∃ t, t < n ∧ σ 8 t = -1 ∧ gv σ (gp σ t) = v ∧ bt r t o
  | 0, _, v, hv => by
    have e : gathR σ r 0 v = nI 0 := by rw [gathR]; unfold fillR; rw [if_pos hv]
    refine ⟨by rw [e, msk_nI (by decide)]; exact ⟨rfl, by decide⟩, fun o => ⟨fun q => ?_, fun ⟨_, q, _⟩ => absurd q (Nat.not_lt_zero _)⟩⟩
    unfold bt at q; rw [e, msk_nI (by decide), Nat.zero_testBit] at q; cases q
  | n + 1, hn, v, hv => by
    have ih := gathR_spec h hr n (by omega)
    have hS := sl_24 h
    obtain ⟨h1, h2⟩ := ih v hv
    rw [gathR]
    by_cases e8 : σ 8 n = -1
    · rw [if_pos e8]
      by_cases e : gv σ (gp σ n) = v
      · subst e
        have e1 : upd (gathR σ r n) (gv σ (gp σ n)) (gathR σ r n (gv σ (gp σ n)) ||| r n) (gv σ (gp σ n)) = nI (msk (gathR σ r n (gv σ (gp σ n))) ||| msk (r n)) := by
          simp only [upd, if_pos]; rw [← nI_or, ← h1.1, ← (hr n (by omega)).1]
        have hl := or_lt h1.2 (hr n (by omega)).2
        refine ⟨by rw [e1, msk_nI (by omega)]; exact ⟨rfl, hl⟩, fun o => ?_⟩
        unfold bt
        rw [e1, msk_nI (by omega), Nat.testBit_or, Bool.or_eq_true]
        constructor
        · rintro (q | q)
          · obtain ⟨t, q1, q2, q3, q4⟩ := (h2 o).mp q; exact ⟨t, by omega, q2, q3, q4⟩
          · exact ⟨n, by omega, e8, rfl, q⟩
        · rintro ⟨t, q1, q2, q3, q4⟩
          by_cases et : t = n
          · subst et; exact Or.inr q4
          · exact Or.inl ((h2 o).mpr ⟨t, by omega, q2, q3, q4⟩)
      · have e1 : upd (gathR σ r n) (gv σ (gp σ n)) (gathR σ r n (gv σ (gp σ n)) ||| r n) v = gathR σ r n v := by simp only [upd]; rw [if_neg (fun q => e q.symm)]
        refine ⟨by rw [e1]; exact h1, fun o => ?_⟩
        unfold bt; rw [e1]
        constructor
        · intro q; obtain ⟨t, q1, q2, q3, q4⟩ := (h2 o).mp q; exact ⟨t, by omega, q2, q3, q4⟩
        · rintro ⟨t, q1, q2, q3, q4⟩
          by_cases et : t = n
          · subst et; exact absurd q3 e
          · exact (h2 o).mpr ⟨t, by omega, q2, q3, q4⟩
    · rw [if_neg e8]
      refine ⟨h1, fun o => ?_⟩
      rw [h2]
      constructor
      · rintro ⟨t, q1, q2, q3, q4⟩; exact ⟨t, by omega, q2, q3, q4⟩
      · rintro ⟨t, q1, q2, q3, q4⟩
        by_cases et : t = n
        · subst et; exact absurd q2 e8
        · exact ⟨t, by omega, q2, q3, q4⟩
/-- one slot of grow -/
theorem grow_step {k t : Nat} (h : SF G σ S) (hk : k < 9) (hR : ∀ j, j < 9 → gR (σ (j + 19))) (hw : ∀ v, v < 6 → σ 12 v = nI (msk (σ 12 v)) ∧ msk (σ 12 v) < 512) (hr : gR (growR σ k G.1 t)) (ht : t + 1 < S) (hv : isV (σ 8 t) = true) :
    ∃ rr, gR rr ∧ (∀ t0 o, bt rr t0 o ↔ bt (growR σ k G.1 t) t0 o ∨ ((∃ o', bt (growR σ k G.1 t) t o') ∧ o = k ∧ ∃ p, p < G.1 ∧ σ 6 p = σ 8 t ∧ gf σ p = t0)) ∧ gR (growR σ k G.1 (t + 1)) ∧
      ∀ t0 o, bt (growR σ k G.1 (t + 1)) t0 o ↔ bt rr t0 o ∨ (t0 = t + 1 ∧ ∃ j, j < 9 ∧ bt (σ 12) (gy σ t) j ∧ bt (if j = k then rr else σ (j + 19)) t o) := by
  have hS := sl_24 h
  have hgf : ∀ p, p < G.1 → gf σ p < 24 := fun p hp => by have := (h.1.1.2.2.2.2.1 p hp).2.2.2; omega
  have hy := (gS_var h.1.1 (by omega) hv).2.2
  have hS1 : gR (growS σ k G.1 (growR σ k G.1 t) t) ∧ ∀ t0 o, bt (growS σ k G.1 (growR σ k G.1 t) t) t0 o ↔ bt (growR σ k G.1 t) t0 o ∨ ((∃ o', bt (growR σ k G.1 t) t o') ∧ o = k ∧ ∃ p, p < G.1 ∧ σ 6 p = σ 8 t ∧ gf σ p = t0) := by
    unfold growS
    by_cases e : growR σ k G.1 t t = 0
    · rw [if_pos e]
      refine ⟨hr, fun t0 o => ⟨Or.inl, fun q => q.elim id (fun ⟨⟨o', q⟩, _⟩ => ?_)⟩⟩
      exfalso
      unfold bt at q; rw [e] at q
      have : msk 0 = 0 := rfl
      rw [this, Nat.zero_testBit] at q; cases q
    · rw [if_neg e]
      obtain ⟨g1, g2⟩ := predR_spec (l6 := σ 6) (f7 := gf σ) (v := σ 8 t) hr hk G.1 hgf
      refine ⟨g1, fun t0 o => ?_⟩
      rw [g2]
      have hne : ∃ o', bt (growR σ k G.1 t) t o' := by
        have h1 := hr t (by omega)
        obtain ⟨o, -, q⟩ := bit_ex h1.2 (fun q => e (by rw [h1.1, q]; rfl))
        exact ⟨o, q⟩
      exact ⟨fun q => q.elim Or.inl (fun q => Or.inr ⟨hne, q.1, q.2⟩), fun q => q.elim Or.inl (fun q => Or.inr ⟨q.2.1, q.2.2⟩)⟩
  generalize hrr : growS σ k G.1 (growR σ k G.1 t) t = rr at hS1
  have hRm : ∀ j, j < 9 → gR (mrow σ (k + 19) rr (j + 19)) := fun j hj => by
    by_cases e : j = k
    · subst e; rw [mrow_s]; exact hS1.1
    · rw [mrow_n (by omega)]; exact hR j hj
  obtain ⟨ov, o1, o2, o3⟩ := orgF_spec (σ := mrow σ (k + 19) rr) (mm := msk (σ 12 (gy σ t))) (t := t) hRm (hw _ hy).2 (by omega) 9 (Nat.le_refl _)
  have e1 : growR σ k G.1 (t + 1) = upd rr (t + 1) (rr (t + 1) ||| nI ov) := by
    rw [growR, if_pos hv, hrr]
    congr 2
    rw [← o2, ← (hw _ hy).1]
  obtain ⟨g1, g2⟩ := gR_or hS1.1 (show t + 1 < 24 by omega) o1
  refine ⟨rr, hS1.1, hS1.2, by rw [e1]; exact g1, fun t0 o => ?_⟩
  rw [e1, g2, o3]
  constructor
  · rintro (q | ⟨q, j, q1, q2, q3⟩)
    · exact Or.inl q
    · refine Or.inr ⟨q, j, q1, q2, ?_⟩
      by_cases e : j = k
      · subst e; rw [mrow_s] at q3; rw [if_pos rfl]; exact q3
      · rw [mrow_n (by omega)] at q3; rw [if_neg e]; exact q3
  · rintro (q | ⟨q, j, q1, q2, q3⟩)
    · exact Or.inl q
    · refine Or.inr ⟨q, j, q1, q2, ?_⟩
      by_cases e : j = k
      · subst e; rw [mrow_s]; rw [if_pos rfl] at q3; exact q3
      · rw [mrow_n (by omega)]; rw [if_neg e] at q3; exact q3
end SEs
