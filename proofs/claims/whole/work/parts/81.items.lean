/-! the grammar in the class's cells, production by production; items are counted alike -/
def offs (G : Grm) : Nat → Nat
  | 0 => 0
  | p + 1 => offs G p + (G.2.2 p).length + 1
def GO (G : Grm) (σ : Mem) (S : Nat) : Prop := gS σ G.1 S ∧ okR G ∧ (∀ p, p < G.1 → gv σ p = G.2.1 p ∧ gf σ p = offs G p) ∧ S = offs G G.1 ∧ ∀ p, p < G.1 → ∀ d, d ≤ (G.2.2 p).length → gp σ (offs G p + d) = p ∧ σ 8 (offs G p + d) = hdI ((G.2.2 p).drop d)
section GOs
variable {G : Grm} {σ : Mem} {S : Nat}
theorem offs_m : ∀ {p q : Nat}, p < q → offs G p + (G.2.2 p).length + 1 ≤ offs G q
  | p, 0, h => absurd h (Nat.not_lt_zero _)
  | p, q + 1, h => by
    by_cases e : p = q
    · subst e; exact Nat.le_refl _
    · have := offs_m (p := p) (q := q) (by omega); rw [offs]; omega
theorem offs_at : ∀ P t, t < offs G P → ∃ p d, p < P ∧ d ≤ (G.2.2 p).length ∧ t = offs G p + d
  | 0, _, h => absurd h (Nat.not_lt_zero _)
  | P + 1, t, h => by
    by_cases e : t < offs G P
    · obtain ⟨p, d, h1, h2, h3⟩ := offs_at P t e; exact ⟨p, d, by omega, h2, h3⟩
    · rw [offs] at h; exact ⟨P, t - offs G P, by omega, by omega, by omega⟩
theorem GO_SF (h : GO G σ S) : SF G σ S := by
  obtain ⟨h1, h2, h3, h4, h5⟩ := h
  have hat : ∀ t, t < S → ∃ p d, p < G.1 ∧ d ≤ (G.2.2 p).length ∧ t = offs G p + d ∧ gp σ t = p ∧ gf σ (gp σ t) = offs G p ∧ RB G σ t = (G.2.2 p).drop d ∧ σ 8 t = hdI ((G.2.2 p).drop d) := fun t ht => by
    rw [h4] at ht
    obtain ⟨p, d, q1, q2, q3⟩ := offs_at _ _ ht
    have q4 := (h5 p q1 d q2).1
    rw [← q3] at q4
    have q5 : gf σ (gp σ t) = offs G p := by rw [q4]; exact (h3 p q1).2
    refine ⟨p, d, q1, q2, q3, q4, q5, ?_, by rw [q3]; exact (h5 p q1 d q2).2⟩
    unfold RB; rw [q5, q4, q3, Nat.add_sub_cancel_left]
  refine ⟨⟨h1, h2, fun p hp => ⟨(h3 p hp).1, ?_⟩, fun t ht => ?_⟩, fun t ht => ?_⟩
  · rw [(h3 p hp).2]; exact (h5 p hp 0 (Nat.zero_le _)).1
  · obtain ⟨p, d, q1, q2, q3, q4, q5, q6, q7⟩ := hat t ht
    rw [q6]
    refine ⟨q7, fun hne => ?_⟩
    have hd : d < (G.2.2 p).length := Nat.not_le.mp fun q => hne (List.drop_eq_nil_of_le q)
    have hl := offs_m (G := G) (p := p) (q := G.1) q1
    refine ⟨by omega, ?_⟩
    rw [q4, q3, Nat.add_assoc]; exact (h5 p q1 (d + 1) hd).1
  · obtain ⟨p, d, q1, q2, q3, q4, q5, -, -⟩ := hat t ht
    rw [q5, q4]; omega
theorem offs_congr {G' : Grm} {P : Nat} (h : ∀ p, p < P → G'.2.2 p = G.2.2 p) : ∀ p, p ≤ P → offs G' p = offs G p
  | 0, _ => rfl
  | p + 1, hp => by rw [offs, offs, offs_congr h p (by omega), h p (by omega)]
theorem okR_add {G' : Grm} {y : Nat} (h : okR G) (hP : G.1 < 8) (hy : y < 6) (e1 : G'.1 = G.1 + 1) (e2 : G'.2.1 G.1 = y) (e3 : G'.2.2 G.1 = []) (e4 : ∀ p, p < G.1 → G'.2.1 p = G.2.1 p ∧ G'.2.2 p = G.2.2 p) : okR G' := by
  refine ⟨by omega, fun p hp => ?_⟩
  by_cases e : p = G.1
  · subst e; rw [e2, e3]; exact ⟨hy, Nat.zero_le _, fun y h => by cases h⟩
  · rw [(e4 p (by omega)).1, (e4 p (by omega)).2]; exact h.2 p (by omega)
theorem GO_add {G' : Grm} {y : Nat} (h : GO G σ S) (hP : G.1 < 8) (hS : S < 24) (hy : y < 6) (e1 : G'.1 = G.1 + 1) (e2 : G'.2.1 G.1 = y) (e3 : G'.2.2 G.1 = []) (e4 : ∀ p, p < G.1 → G'.2.1 p = G.2.1 p ∧ G'.2.2 p = G.2.2 p) : GO G' (addE σ G.1 S (nI y)) (S + 1) := by
  have hg := gS_add (y := y) h.1 hP hS hy
  obtain ⟨h1, h2, h3, h4, h5⟩ := h
  have f6 : ∀ p, addE σ G.1 S (nI y) 6 p = if p = G.1 then nI y else σ 6 p := fun p => by simp [addE, mset, mrow, upd]
  have f7 : ∀ p, addE σ G.1 S (nI y) 7 p = if p = G.1 then nI S else σ 7 p := fun p => by simp [addE, mset, mrow, upd]
  have f8 : ∀ t, addE σ G.1 S (nI y) 8 t = if t = S then -1 else σ 8 t := fun t => by simp [addE, mset, mrow, upd]
  have f9 : ∀ t, addE σ G.1 S (nI y) 9 t = if t = S then nI G.1 else σ 9 t := fun t => by simp [addE, mset, mrow, upd]
  have ho := offs_congr (G := G) (G' := G') (P := G.1) (fun p hp => (e4 p hp).2)
  refine ⟨by rw [e1]; exact hg, okR_add h2 hP hy e1 e2 e3 e4, fun p hp => ?_, ?_, fun p hp d hd => ?_⟩
  · unfold gv gf
    rw [f6, f7]
    by_cases e : p = G.1
    · rw [if_pos e, if_pos e, nI_clamp (by omega), nI_clamp (by omega), e, e2, ho _ (Nat.le_refl _), ← h4]; exact ⟨rfl, rfl⟩
    · rw [if_neg e, if_neg e, (e4 p (by omega)).1, ho p (by omega)]; exact h3 p (by omega)
  · rw [e1, offs, ho _ (Nat.le_refl _), e3, ← h4]; rfl
  · unfold gp
    rw [f8, f9]
    by_cases e : p = G.1
    · subst e
      rw [e3] at hd ⊢
      have hd0 : d = 0 := Nat.le_zero.mp hd
      subst hd0
      rw [ho _ (Nat.le_refl _), ← h4, Nat.add_zero, if_pos rfl, if_pos rfl, nI_clamp (by omega)]; exact ⟨rfl, rfl⟩
    · have hp' : p < G.1 := by omega
      rw [(e4 p hp').2] at hd ⊢
      have hl := offs_m (G := G) (p := p) (q := G.1) hp'
      rw [ho p (by omega), if_neg (by omega), if_neg (by omega)]
      exact h5 p hp' d hd
theorem GO_app {G' : Grm} {y : Nat} (h : GO G σ S) (hP : 0 < G.1) (hS : S < 24) (hy : y < 6 ∨ (100 ≤ y ∧ y < 106)) (hl4 : (G.2.2 (G.1 - 1)).length < 4) (e1 : G'.1 = G.1) (e2 : ∀ p, p < G.1 → G'.2.1 p = G.2.1 p) (e3 : G'.2.2 (G.1 - 1) = G.2.2 (G.1 - 1) ++ [y]) (e4 : ∀ p, p < G.1 - 1 → G'.2.2 p = G.2.2 p) : GO G' (appE σ G.1 S (nI y)) (S + 1) := by
  have hlast := offs_m (G := G) (p := G.1 - 1) (q := G.1) (by omega)
  have hSe : S = offs G (G.1 - 1) + (G.2.2 (G.1 - 1)).length + 1 := by
    have := h.2.2.2.1
    rw [show G.1 = (G.1 - 1) + 1 by omega, offs] at this
    simpa using this
  have hg := gS_app (y := y) h.1 hP (by omega) hS (by omega)
  obtain ⟨h1, h2, h3, h4, h5⟩ := h
  have f6 : appE σ G.1 S (nI y) 6 = σ 6 := by funext p; simp [appE, mset, mrow]
  have f7 : appE σ G.1 S (nI y) 7 = σ 7 := by funext p; simp [appE, mset, mrow]
  have f8 : ∀ t, appE σ G.1 S (nI y) 8 t = if t = S then -1 else if t = S - 1 then nI y else σ 8 t := fun t => by simp [appE, mset, mrow, upd]
  have f9 : ∀ t, appE σ G.1 S (nI y) 9 t = if t = S then nI (G.1 - 1) else σ 9 t := fun t => by simp [appE, mset, mrow, upd]
  have ho := offs_congr (G := G) (G' := G') (P := G.1 - 1) e4
  refine ⟨by rw [e1]; exact hg, ⟨by rw [e1]; exact h2.1, fun p hp => ?_⟩, fun p hp => ?_, ?_, fun p hp d hd => ?_⟩
  · rw [e2 p (by omega)]
    have := h2.2 p (by omega)
    by_cases e : p = G.1 - 1
    · subst e
      rw [e3]
      refine ⟨this.1, by rw [List.length_append]; show _ + 1 ≤ 4; omega, fun z hz => ?_⟩
      rcases List.mem_append.mp hz with q | q
      · exact this.2.2 z q
      · rw [List.mem_singleton] at q; subst q; exact hy
    · rw [e4 p (by omega)]; exact this
  · unfold gv gf
    rw [f6, f7, e2 p (by omega)]
    rw [ho p (by omega)]; exact h3 p (by omega)
  · rw [e1, show G.1 = (G.1 - 1) + 1 by omega, offs, ho _ (Nat.le_refl _), e3, List.length_append, hSe]; rfl
  · unfold gp
    have h1P := h1.1
    rw [f8, f9]
    by_cases e : p = G.1 - 1
    · subst e
      rw [e3] at hd ⊢
      rw [List.length_append] at hd
      have hd' : d ≤ (G.2.2 (G.1 - 1)).length + 1 := hd
      rw [ho _ (Nat.le_refl _)]
      by_cases ed : d = (G.2.2 (G.1 - 1)).length + 1
      · rw [if_pos (by omega), if_pos (by omega), nI_clamp (by omega), List.drop_eq_nil_of_le (by rw [List.length_append]; show _ + 1 ≤ d; omega)]
        exact ⟨rfl, rfl⟩
      · have := h5 (G.1 - 1) (by omega) d (by omega)
        rw [if_neg (by omega), if_neg (by omega)]
        refine ⟨this.1, ?_⟩
        by_cases ed2 : d = (G.2.2 (G.1 - 1)).length
        · rw [if_pos (by omega), ed2, List.drop_left]; rfl
        · rw [if_neg (by omega), this.2, List.drop_append_of_le_length (by omega), List.drop_eq_getElem_cons (by omega)]; rfl
    · have hp' : p < G.1 - 1 := by omega
      rw [e4 p hp'] at hd ⊢
      have hl := offs_m (G := G) (p := p) (q := G.1 - 1) hp'
      rw [ho p (by omega), if_neg (by omega), if_neg (by omega), if_neg (by omega)]
      exact h5 p (by omega) d hd
/-! counting -/
theorem cnt_gap {f : Nat → Int32} {b a : Nat} : ∀ c, (∀ i, a ≤ i → i < a + c → f (b + i) = 0) → cntH f b (a + c) = cntH f b a
  | 0, _ => rfl
  | c + 1, h => by rw [← Nat.add_assoc, cntH, if_pos (h (a + c) (by omega) (by omega))]; exact cnt_gap c (fun i h1 h2 => h i h1 (by omega))
/-- the row of masks and the block of places tell the same items -/
def sameI (G : Grm) (r : Nat → Int32) (f : Nat → Int32) (b : Nat) : Prop := (∀ p d o, p < G.1 → d ≤ (G.2.2 p).length → o < 9 → (¬ f (b + (45 * p + 9 * d + o)) = 0 ↔ bt r (offs G p + d) o)) ∧ ∀ a, a < 360 → ¬ f (b + a) = 0 → a / 45 < G.1 ∧ a / 9 % 5 ≤ (G.2.2 (a / 45)).length
variable {r f : Nat → Int32} {b : Nat}
theorem cnt_o (h : sameI G r f b) {p d : Nat} (hp : p < G.1) (hd : d ≤ (G.2.2 p).length) (h0 : cntH f b (45 * p + 9 * d) = szN r (offs G p + d)) : ∀ o, o ≤ 9 → cntH f b (45 * p + 9 * d + o) = szN r (offs G p + d) + cb (msk (r (offs G p + d))) o
  | 0, _ => h0
  | o + 1, ho => by
    have ih := cnt_o h hp hd h0 o (by omega)
    rw [← Nat.add_assoc, cntH, cb, ih]
    have hs := h.1 p d o hp hd (by omega)
    unfold bt at hs
    by_cases e : f (b + (45 * p + 9 * d + o)) = 0
    · rw [if_pos e, if_neg (fun q => hs.mpr q e)]; rfl
    · rw [if_neg e, if_pos (hs.mp e)]; rfl
theorem cnt_d (h : sameI G r f b) {p : Nat} (hp : p < G.1) (h0 : cntH f b (45 * p) = szN r (offs G p)) : ∀ d, d ≤ (G.2.2 p).length + 1 → cntH f b (45 * p + 9 * d) = szN r (offs G p + d)
  | 0, _ => h0
  | d + 1, hd => by
    have ih := cnt_d h hp h0 d (by omega)
    have := cnt_o h hp (by omega) ih 9 (Nat.le_refl _)
    rw [show 45 * p + 9 * (d + 1) = 45 * p + 9 * d + 9 by omega, this, ← Nat.add_assoc, szN]
theorem cnt_p (hG : okR G) (h : sameI G r f b) : ∀ p, p ≤ G.1 → cntH f b (45 * p) = szN r (offs G p)
  | 0, _ => rfl
  | p + 1, hp => by
    have ih := cnt_p hG h p (by omega)
    have hl := (hG.2 p (by omega)).2.1
    have hP := hG.1
    have := cnt_d h (by omega) ih ((G.2.2 p).length + 1) (Nat.le_refl _)
    rw [offs, Nat.add_assoc, ← this]
    obtain ⟨c, hc⟩ : ∃ c, 45 * (p + 1) = 45 * p + 9 * ((G.2.2 p).length + 1) + c := ⟨45 * (p + 1) - (45 * p + 9 * ((G.2.2 p).length + 1)), by omega⟩
    rw [hc]
    refine cnt_gap c (fun i h1 h2 => Classical.byContradiction fun hn => ?_)
    have h3 := h.2 i (by omega) hn
    rw [show i / 45 = p by omega] at h3
    omega
theorem cnt_all (hG : okR G) (h : sameI G r f b) : cntH f b 360 = szN r (offs G G.1) := by
  have hP := hG.1
  rw [← cnt_p hG h G.1 (Nat.le_refl _)]
  obtain ⟨c, hc⟩ : ∃ c, 360 = 45 * G.1 + c := ⟨360 - 45 * G.1, by omega⟩
  rw [hc]
  refine cnt_gap c (fun i h1 h2 => Classical.byContradiction fun hn => ?_)
  have h3 := h.2 i (by omega) hn
  omega
theorem itP_uniq {i a a' : Nat} (h : itP f b i a) (h' : itP f b i a') : a = a' := by
  have key : ∀ x y, itP f b i x → itP f b i y → ¬ x < y := fun x y hx hy hlt => by
    have h1 : cntH f b (x + 1) = i + 1 := by rw [cntH, if_neg hx.2.1, hx.2.2]
    have h2 : ∀ c, cntH f b (x + 1) ≤ cntH f b (x + 1 + c) := fun c => by
      induction c with
      | zero => exact Nat.le_refl _
      | succ c ih =>
        refine Nat.le_trans ih ?_
        show cntH f b (x + 1 + c) ≤ (if f (b + (x + 1 + c)) = 0 then cntH f b (x + 1 + c) else cntH f b (x + 1 + c) + 1)
        split <;> omega
    have h3 := h2 (y - (x + 1))
    rw [show x + 1 + (y - (x + 1)) = y by omega, hy.2.2] at h3
    omega
  have := key a a' h h'
  have := key a' a h' h
  omega
theorem orgAt_spec {m : Nat} (hm : m < 512) : ∀ n o x, n + o = 9 → cb m o + x < cb m 9 → ∃ o', o ≤ o' ∧ o' < 9 ∧ m.testBit o' = true ∧ cb m o' = cb m o + x ∧ orgAt (nI m) n o (nI x) = nI o'
  | 0, o, x, h, hl => by rw [show o = 9 by omega] at hl; omega
  | n + 1, o, x, h, hl => by
    rw [orgAt]
    by_cases hb : m.testBit o = true
    · rw [if_neg (fun q => by rw [(bitJ_eq m hm o (by omega)).mp q] at hb; cases hb)]
      cases x with
      | zero =>
        rw [if_pos nI_0]
        exact ⟨o, Nat.le_refl _, by omega, hb, rfl, rfl⟩
      | succ x =>
        have hx9 : x < 9 := by have := cb_n m 9; omega
        rw [if_neg (fun q => by have := (nI_eq (b := 0) (by omega) (by decide)).mp q; omega), pk_m1]
        have e1 : cb m (o + 1) = cb m o + 1 := by rw [cb, if_pos hb]
        obtain ⟨o', q1, q2, q3, q4, q5⟩ := orgAt_spec hm n (o + 1) x (by omega) (by omega)
        exact ⟨o', by omega, q2, q3, by omega, q5⟩
    · rw [if_pos ((bitJ_eq m hm o (by omega)).mpr (by cases hh : m.testBit o; rfl; exact absurd hh hb))]
      have e1 : cb m (o + 1) = cb m o := by rw [cb, if_neg hb]; rfl
      obtain ⟨o', q1, q2, q3, q4, q5⟩ := orgAt_spec hm n (o + 1) x (by omega) (by omega)
      exact ⟨o', by omega, q2, q3, by omega, q5⟩
def icd (a : Nat) : Nat := 1000 * (a / 45) + 100 * (a / 9 % 5) + a % 9
theorem code_at (h : GO G σ S) (hr : gR r) (hs : sameI G r f b) {i a : Nat} (hi : i < szN r S) (ha : itP f b i a) : ∀ n t, t + n = S → szN r t ≤ i → codeF σ r n t (nI (i - szN r t)) = nI (icd a)
  | 0, t, h1, h2 => by rw [show t = S by omega] at h2; omega
  | n + 1, t, h1, h2 => by
    have hF := GO_SF h
    have hS := sl_24 hF
    have hz := szN_n r S
    rw [codeF, (hr t (by omega)).1, popc_eq _ (hr t (by omega)).2]
    have hc9 := cb_n (msk (r t)) 9
    by_cases hlt : i - szN r t < cb (msk (r t)) 9
    · rw [if_pos ((nI_ltI (by omega) (by omega)).mpr hlt)]
      obtain ⟨o, -, q2, q3, q4, q5⟩ := orgAt_spec (hr t (by omega)).2 9 0 (i - szN r t) rfl (by rw [show cb (msk (r t)) 0 = 0 from rfl]; omega)
      rw [q5]
      obtain ⟨p, d, w1, w2, w3⟩ := offs_at G.1 t (by rw [← h.2.2.2.1]; omega)
      obtain ⟨v1, v2⟩ := h.2.2.2.2 p w1 d w2
      rw [← w3] at v1
      have hl := (h.2.1.2 p w1).2.1
      have hP := h.2.1.1
      have e9 : σ 9 t = nI p := by rw [(h.1.2.2.2.2.2.1 t (by omega)).1, v1]
      have ef : gf σ (gp σ t) = offs G p := by rw [v1]; exact (h.2.2.1 p w1).2
      have e0 : cb (msk (r t)) 0 = 0 := rfl
      rw [e0, Nat.zero_add] at q4
      have hit : itP f b i (45 * p + 9 * d + o) := by
        have hp0 := cnt_p h.2.1 hs p (by omega)
        have hd0 := cnt_d hs w1 hp0 d (by omega)
        have ho0 := cnt_o hs w1 w2 hd0 o (by omega)
        refine ⟨by omega, (hs.1 p d o w1 w2 q2).mpr (by rw [← w3]; exact q3), ?_⟩
        rw [ho0, ← w3, q4]; omega
      rw [itP_uniq ha hit, e9, ef, pk_mul, pk_mul, nI_add, nI_add]
      congr 1
      unfold icd
      rw [show (45 * p + 9 * d + o) / 45 = p by omega, show (45 * p + 9 * d + o) / 9 % 5 = d by omega, show (45 * p + 9 * d + o) % 9 = o by omega]
      omega
    · rw [if_neg (fun q => hlt ((nI_ltI (by omega) (by omega)).mp q)), pk_sub (by omega)]
      have := code_at h hr hs hi ha n (t + 1) (by omega) (by rw [szN]; omega)
      rw [szN, Nat.sub_add_eq] at this
      exact this
/-! acceptance -/
theorem and1_eq : ∀ m, m < 512 → ((nI m &&& nI 1) = 0 ↔ m.testBit 0 = false) := by decide +kernel
theorem hold_ex {r : Nat → Int32} : ∀ n, holdF σ r n = true → ∃ t, t < n ∧ holdB σ r t = true
  | 0, h => by cases h
  | n + 1, h => by
    rw [holdF, Bool.or_eq_true] at h
    rcases h with h | h
    · obtain ⟨t, h1, h2⟩ := hold_ex n h; exact ⟨t, by omega, h2⟩
    · exact ⟨n, by omega, h⟩
theorem hold_iff (h : GO G σ S) (hr : gR r) : holdF σ r S = true ↔ ∃ p, p < G.1 ∧ G.2.1 p = G.2.1 0 ∧ bt r (offs G p + (G.2.2 p).length) 0 := by
  have hS := sl_24 (GO_SF h)
  have hB : ∀ t, t < S → (holdB σ r t = true ↔ σ 8 t = -1 ∧ σ 6 (gp σ t) = σ 6 0 ∧ bt r t 0) := fun t ht => by
    unfold holdB bt
    have h1 := and1_eq _ (hr t (by omega)).2
    rw [← (hr t (by omega)).1] at h1
    simp only [Bool.and_eq_true, decide_eq_true_eq, Bool.not_eq_true', decide_eq_false_iff_not]
    rw [h1]; simp
  have h6 : ∀ p, p < G.1 → (σ 6 p = σ 6 0 ↔ G.2.1 p = G.2.1 0) := fun p hp => by
    rw [(h.1.2.2.2.2.1 p hp).1, (h.1.2.2.2.2.1 0 (by omega)).1, (h.2.2.1 p hp).1, (h.2.2.1 0 (by omega)).1]
    have := (h.2.1.2 p hp).1
    have := (h.2.1.2 0 (by omega)).1
    exact nI_eq (by omega) (by omega)
  constructor
  · intro hh
    obtain ⟨t, ht, hb⟩ := hold_ex S hh
    obtain ⟨b1, b2, b3⟩ := (hB t ht).mp hb
    obtain ⟨p, d, w1, w2, w3⟩ := offs_at G.1 t (by rw [← h.2.2.2.1]; exact ht)
    obtain ⟨v1, v2⟩ := h.2.2.2.2 p w1 d w2
    rw [← w3] at v1 v2
    rw [v1] at b2
    have hd : d = (G.2.2 p).length := Nat.le_antisymm w2 (Nat.not_lt.mp fun q => by
      rw [b1, List.drop_eq_getElem_cons q] at v2
      have := (h.2.1.2 p w1).2.2 _ (List.getElem_mem q)
      exact nI_m1 (by omega) v2.symm)
    exact ⟨p, w1, (h6 p w1).mp b2, by rw [← hd, ← w3]; exact b3⟩
  · rintro ⟨p, w1, w2, w3⟩
    obtain ⟨v1, v2⟩ := h.2.2.2.2 p w1 _ (Nat.le_refl _)
    have hl := offs_m (G := G) (p := p) (q := G.1) w1
    have hlt : offs G p + (G.2.2 p).length < S := by rw [h.2.2.2.1]; omega
    refine holdF_t ((hB _ hlt).mpr ⟨?_, ?_, w3⟩) S hlt
    · rw [v2, List.drop_eq_nil_of_le (Nat.le_refl _)]; rfl
    · rw [v1]; exact (h6 p w1).mpr w2
theorem acc_iff {μ : Mem} {n : Nat} : ∀ P, accF μ n P = true ↔ ∃ p, p < P ∧ ml μ p = ml μ 0 ∧ ¬ μ 5 (ix n p (mn μ p) 0) = 0
  | 0 => ⟨(fun h => by cases h), fun ⟨_, h, _⟩ => absurd h (Nat.not_lt_zero _)⟩
  | P + 1 => by
    rw [accF, Bool.or_eq_true, acc_iff P]
    simp only [Bool.and_eq_true, decide_eq_true_eq, Bool.not_eq_true', decide_eq_false_iff_not]
    constructor
    · rintro (⟨p, h1, h2⟩ | h)
      · exact ⟨p, by omega, h2⟩
      · exact ⟨P, by omega, h⟩
    · rintro ⟨p, h1, h2⟩
      by_cases e : p = P
      · subst e; exact Or.inr h2
      · exact Or.inl ⟨p, by omega, h2⟩
end GOs
/-- the two sides' sets are the same: so are the counts, the items, the acceptance -/
theorem same_of {σ μ : Mem} {P S k : Nat} (hk : k < 9) (h : GO (Gm μ P) σ S) (hg : mG μ P) (hv : ∀ j, 360 * k ≤ j → j < 360 * k + 360 → ¬ μ 5 j = 0 → GI μ P k j) (hr : gR (σ (k + 19))) (hs : ∀ p d o, XE (Gm μ P) σ k p d o ↔ XM μ P k p d o) : sameI (Gm μ P) (σ (k + 19)) (μ 5) (360 * k) := by
  have hix : ∀ p d o, ix k p d o = 360 * k + (45 * p + 9 * d + o) := fun p d o => by unfold ix; omega
  refine ⟨fun p d o hp hd ho => ?_, fun a ha hn => ?_⟩
  · have h1 := hs p d o
    rw [Gm_len] at hd
    unfold XE XM hX at h1
    rw [(h.2.2.1 p hp).2, hix, Gm_len] at h1
    constructor
    · intro q; exact (h1.mpr ⟨hp, hd, ho, q⟩).2.2
    · intro q; exact (h1.mp ⟨hp, hd, q⟩).2.2.2
  · obtain ⟨p, d, o, h1, h2, h3, h4⟩ := hv (360 * k + a) (by omega) (by omega) hn
    have := mG_m hg h1
    unfold ix at h4
    rw [show a / 45 = p by omega, show a / 9 % 5 = d by omega, Gm_len]
    exact ⟨h1, h2⟩
