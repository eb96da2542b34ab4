/-! the model's table of steps -/
/-- the grammar that the model's cells tell -/
def Gm (σ : Mem) (P : Nat) : Grm := (P, ml σ, fun p => (List.range (mn σ p)).map (fun d => mr σ (4 * p + d)))
theorem Gm_len {σ : Mem} {P p : Nat} : ((Gm σ P).2.2 p).length = mn σ p := by simp [Gm]
theorem Gm_drop {σ : Mem} {P p d : Nat} (h : d < mn σ p) : ((Gm σ P).2.2 p).drop d = mr σ (4 * p + d) :: ((Gm σ P).2.2 p).drop (d + 1) := by
  rw [List.drop_eq_getElem_cons (by rw [Gm_len]; exact h)]
  congr 1
  simp [Gm]
theorem Gm_end {σ : Mem} {P p d : Nat} (h : mn σ p ≤ d) : ((Gm σ P).2.2 p).drop d = [] := List.drop_eq_nil_of_le (by rw [Gm_len]; exact h)
theorem Gm_ok {σ : Mem} {P : Nat} (h : mG σ P) : okR (Gm σ P) := by
  refine ⟨h.1, fun p hp => ?_⟩
  obtain ⟨-, h2, -, h4, h5⟩ := h.2.2 p hp
  refine ⟨h2, by rw [Gm_len]; exact h4, fun y hy => ?_⟩
  obtain ⟨d, hd, rfl⟩ := List.mem_map.mp hy
  exact (h5 d (List.mem_range.mp hd)).2
def MK (σ : Mem) (tok : Nat → Nat) (n : Nat) : Prop := ∀ j, 1 ≤ j → j ≤ n → σ 4 j = nI (tok j) ∧ 100 ≤ tok j ∧ tok j < 200
section MT
variable {σ : Mem} {s : Nat → Nat} {P n : Nat} {tok : Nat → Nat}
/-- what stands in the table is a derivation's steps -/
def SM (G : Grm) (tok : Nat → Nat) (n : Nat) (s : Nat → Nat) : Prop := leN s ∧ ∀ v i j, v < 6 → i ≤ j → j ≤ n → s (81 * v + 9 * i + j) < 1000000 → Dr G tok v i j (s (81 * v + 9 * i + j))
theorem stN_v {y i j : Nat} (h : y < 6) : stN σ s y i j = s (81 * y + 9 * i + j) := by unfold stN; rw [if_neg (by omega)]
theorem stN_t (hm : MK σ tok n) {y i j : Nat} (h : 100 ≤ y ∧ y < 106) (hj : j ≤ n) : stN σ s y i j = if j = i + 1 ∧ tok j = y then 0 else 1000000 := by
  unfold stN
  rw [if_pos h.1]
  by_cases e : j = i + 1
  · have h1 := hm j (by omega) hj
    have e2 : (σ 4 j = nI y) ↔ tok j = y := by rw [h1.1]; exact nI_eq (by omega) (by omega)
    rw [if_pos e]
    by_cases h2 : tok j = y
    · rw [if_pos (e2.mpr h2), if_pos ⟨e, h2⟩]
    · rw [if_neg (fun q => h2 (e2.mp q)), if_neg (fun q => h2 q.2)]
  · rw [if_neg e, if_neg (fun q => e q.1)]
theorem stN_snd {G : Grm} (hm : MK σ tok n) (hs : SM G tok n s) {y i j : Nat} (hy : y < 6 ∨ (100 ≤ y ∧ y < 106)) (hij : i ≤ j) (hj : j ≤ n) (h : stN σ s y i j < 1000000) : Sy tok (Dr G tok) y i j (stN σ s y i j) := by
  rcases hy with hy | hy
  · rw [stN_v hy] at h ⊢
    exact (Sy_v hy).mpr (hs.2 y i j hy hij hj h)
  · rw [stN_t hm hy hj] at h ⊢
    by_cases e : j = i + 1 ∧ tok j = y
    · rw [if_pos e]; exact (Sy_t (by omega)).mpr ⟨e.1, e.2, rfl⟩
    · rw [if_neg e] at h; exact absurd h (by omega)
theorem bsN_spec {p d : Nat} {r : Nat → Nat} {a : Nat} : ∀ c, (∀ c', c' < c → bsN σ s p d r a c ≤ stN σ s (mr σ (4 * p + d)) a (a + c') + r (9 * (d + 1) + (a + c'))) ∧ (bsN σ s p d r a c < 1000000 → ∃ c', c' < c ∧ bsN σ s p d r a c = stN σ s (mr σ (4 * p + d)) a (a + c') + r (9 * (d + 1) + (a + c')))
  | 0 => ⟨fun _ h => absurd h (Nat.not_lt_zero _), fun h => absurd h (by rw [bsN]; omega)⟩
  | c + 1 => by
    obtain ⟨h1, h2⟩ := bsN_spec (p := p) (d := d) (r := r) (a := a) c
    rw [bsN]
    by_cases hl : stN σ s (mr σ (4 * p + d)) a (a + c) + r (9 * (d + 1) + (a + c)) < bsN σ s p d r a c
    · rw [if_pos hl]
      refine ⟨fun c' hc' => ?_, fun _ => ⟨c, by omega, rfl⟩⟩
      by_cases e : c' = c
      · subst e; exact Nat.le_refl _
      · have := h1 c' (by omega); omega
    · rw [if_neg hl]
      refine ⟨fun c' hc' => ?_, fun h => ?_⟩
      · by_cases e : c' = c
        · subst e; omega
        · exact h1 c' (by omega)
      · obtain ⟨c', q1, q2⟩ := h2 h
        exact ⟨c', by omega, q2⟩
/-- a row's equations -/
def rowQ (σ : Mem) (s : Nat → Nat) (p j : Nat) (r : Nat → Nat) (d0 : Nat) : Prop := (∀ a, a ≤ j → r (9 * mn σ p + a) = if a = j then 0 else 1000000) ∧ ∀ d a, d0 ≤ d → d < mn σ p → a ≤ j → r (9 * d + a) = bsN σ s p d r a (j + 1 - a)
theorem rwB_at {L j : Nat} {r : Nat → Nat} : ∀ a b, b < a → rwB L j r a (9 * L + b) = if b = j then 0 else 1000000
  | 0, b, h => absurd h (Nat.not_lt_zero _)
  | a + 1, b, h => by
    rw [rwB]
    unfold updN
    by_cases e : b = a
    · subst e; rw [if_pos rfl]
    · rw [if_neg (by omega)]; exact rwB_at a b (by omega)
theorem bsN_congr {p d : Nat} {r r' : Nat → Nat} {a : Nat} : ∀ c, (∀ c', c' < c → r (9 * (d + 1) + (a + c')) = r' (9 * (d + 1) + (a + c'))) → bsN σ s p d r a c = bsN σ s p d r' a c
  | 0, _ => rfl
  | c + 1, h => by rw [bsN, bsN, bsN_congr c (fun c' hc' => h c' (by omega)), h c (by omega)]
theorem rwA_far {p d j : Nat} {r : Nat → Nat} (hj : j ≤ 8) {c : Nat} (hc : 9 * (d + 1) ≤ c) : ∀ a, a ≤ j + 1 → rwA σ s p d j r a c = r c
  | 0, _ => rfl
  | a + 1, h => by
    rw [rwA]; unfold updN
    rw [if_neg (by omega)]; exact rwA_far hj hc a (by omega)
theorem rwA_at {p d j : Nat} {r : Nat → Nat} (hj : j ≤ 8) : ∀ a, a ≤ j + 1 → ∀ b, b < a → rwA σ s p d j r a (9 * d + b) = bsN σ s p d r b (j + 1 - b)
  | 0, _, b, h => absurd h (Nat.not_lt_zero _)
  | a + 1, ha, b, h => by
    rw [rwA]; unfold updN
    by_cases e : b = a
    · subst e
      rw [if_pos rfl]
      exact bsN_congr _ (fun c' _ => rwA_far hj (by omega) b (by omega))
    · rw [if_neg (by omega)]; exact rwA_at hj a (by omega) b (by omega)
theorem rwD_ok {p j : Nat} (hj : j ≤ 8) : ∀ (d : Nat) (r : Nat → Nat), d ≤ mn σ p → rowQ σ s p j r d → rowQ σ s p j (rwD σ s p j d r) 0
  | 0, r, _, h => h
  | d + 1, r, hd, h => by
    rw [rwD]
    refine rwD_ok hj d _ (by omega) ⟨fun a ha => ?_, fun d' a h1 h2 h3 => ?_⟩
    · rw [rwA_far hj (by omega) _ (Nat.le_refl _)]; exact h.1 a ha
    · by_cases e : d' = d
      · subst e
        rw [rwA_at hj _ (Nat.le_refl _) a (by omega)]
        exact bsN_congr _ (fun c' _ => (rwA_far hj (by omega) _ (Nat.le_refl _)).symm)
      · rw [rwA_far hj (by omega) _ (Nat.le_refl _), h.2 d' a (by omega) h2 h3]
        exact bsN_congr _ (fun c' _ => (rwA_far hj (by omega) _ (Nat.le_refl _)).symm)
theorem rowN_ok {p j : Nat} {r : Nat → Nat} (hj : j ≤ 8) : rowQ σ s p j (rowN σ s p j r) 0 :=
  rwD_ok hj _ _ (Nat.le_refl _) ⟨fun a ha => rwB_at _ a (by omega), fun d a h1 h2 => absurd h2 (by omega)⟩
/-- a row is sound -/
theorem row_sM (hg : mG σ P) (hm : MK σ tok n) (hs : SM (Gm σ P) tok n s) {p j : Nat} (hp : p < P) (hj : j ≤ n) {r : Nat → Nat} (hr : rowQ σ s p j r 0) : ∀ x d a, x = mn σ p - d → d ≤ mn σ p → a ≤ j → r (9 * d + a) < 1000000 → Rw (Sy tok (Dr (Gm σ P) tok)) (((Gm σ P).2.2 p).drop d) a j (r (9 * d + a)) := by
  intro x
  induction x with
  | zero =>
    intro d a hx hd ha h
    have e : d = mn σ p := by omega
    rw [Gm_end (by omega)]
    subst e
    rw [hr.1 a ha] at h ⊢
    by_cases e : a = j
    · rw [if_pos e]; exact ⟨e, rfl⟩
    · rw [if_neg e] at h; exact absurd h (by omega)
  | succ x ih =>
    intro d a hx hd ha h
    rw [Gm_drop (by omega)]
    have he := hr.2 d a (Nat.zero_le _) (by omega) ha
    rw [he] at h ⊢
    obtain ⟨c', c1, c2⟩ := (bsN_spec (σ := σ) (s := s) (p := p) (d := d) (r := r) (a := a) (j + 1 - a)).2 h
    have hy := ((hg.2.2 p hp).2.2.2.2 d (by omega)).2
    refine ⟨a + c', _, _, by omega, by omega, stN_snd hm hs hy (by omega) (by omega) (by omega), ih (d + 1) (a + c') (by omega) (by omega) (by omega) (by omega), c2⟩
/-- a row is no more than any sum -/
theorem row_cM (hg : mG σ P) (hm : MK σ tok n) {X : SyP} {p j : Nat} (hX : ∀ y i k a, y < 6 → i ≤ k → k ≤ j → X y i k a → s (81 * y + 9 * i + k) ≤ a) (hp : p < P) (hj : j ≤ n) {r : Nat → Nat} (hr : rowQ σ s p j r 0) : ∀ x d a m, x = mn σ p - d → d ≤ mn σ p → Rw (Sy tok X) (((Gm σ P).2.2 p).drop d) a j m → r (9 * d + a) ≤ m := by
  intro x
  induction x with
  | zero =>
    intro d a m hx hd h
    have e : d = mn σ p := by omega
    rw [Gm_end (by omega)] at h
    subst e
    rw [hr.1 a (by have := h.1; omega), if_pos h.1]; exact Nat.zero_le _
  | succ x ih =>
    intro d a m hx hd h
    rw [Gm_drop (by omega)] at h
    obtain ⟨k, a', b, k1, k2, k3, k4, k5⟩ := h
    rw [hr.2 d a (Nat.zero_le _) (by omega) (by omega)]
    have h1 := (bsN_spec (σ := σ) (s := s) (p := p) (d := d) (r := r) (a := a) (j + 1 - a)).1 (k - a) (by omega)
    rw [show a + (k - a) = k by omega] at h1
    have h2 := ih (d + 1) k b (by omega) (by omega) k4
    have h3 : stN σ s (mr σ (4 * p + d)) a k ≤ a' := by
      rcases ((hg.2.2 p hp).2.2.2.2 d (by omega)).2 with hy | hy
      · rw [stN_v hy]; rw [Sy_v hy] at k3; exact hX _ _ _ _ hy k1 k2 k3
      · rw [stN_t hm hy (by omega)]; rw [Sy_t (by omega)] at k3
        rw [if_pos ⟨k3.1, k3.2.1⟩]; exact Nat.zero_le _
    omega
theorem wi_snd (hg : mG σ P) {p j : Nat} (hp : p < P) (hj : j ≤ n) (hn : n ≤ 8) {r : Nat → Nat} (hr : ∀ i, i ≤ j → r i < 1000000 → Dr (Gm σ P) tok (ml σ p) i j (r i + 1)) {x : Bool × (Nat → Nat)} (hs : SM (Gm σ P) tok n x.2) : ∀ i, i ≤ j + 1 → SM (Gm σ P) tok n (wiN σ p j r x i).2
  | 0, _ => hs
  | i + 1, hi => by
    have ih := wi_snd hg hp hj hn hr hs i (by omega)
    have hl := (hg.2.2 p hp).2.1
    refine ⟨fun c => ?_, fun v a b hv hab hb h => ?_⟩
    · show updN _ _ _ c ≤ _
      unfold updN; split
      · split
        · have := ih.1 (wcl σ p i j); omega
        · exact ih.1 _
      · exact ih.1 c
    · have e : (wiN σ p j r x (i + 1)).2 (81 * v + 9 * a + b) = updN (wiN σ p j r x i).2 (wcl σ p i j) (if r i + 1 < (wiN σ p j r x i).2 (wcl σ p i j) then r i + 1 else (wiN σ p j r x i).2 (wcl σ p i j)) (81 * v + 9 * a + b) := rfl
      rw [e] at h ⊢
      unfold updN at h ⊢
      by_cases ec : 81 * v + 9 * a + b = wcl σ p i j
      · rw [if_pos ec] at h ⊢
        have e1 : v = ml σ p ∧ a = i ∧ b = j := by unfold wcl at ec; omega
        obtain ⟨rfl, rfl, rfl⟩ := e1
        by_cases hlt : r a + 1 < (wiN σ p b r x a).2 (wcl σ p a b)
        · rw [if_pos hlt] at h ⊢
          exact hr a hab (by omega)
        · rw [if_neg hlt] at h ⊢
          exact ih.2 (ml σ p) a b hv hab hb h
      · rw [if_neg ec] at h ⊢
        exact ih.2 v a b hv hab hb h
theorem wjS_snd (hg : mG σ P) (hm : MK σ tok n) {p j : Nat} (hp : p < P) (hj : j ≤ n) (hn : n ≤ 8) {x : WT} (hs : SM (Gm σ P) tok n x.2.1) : SM (Gm σ P) tok n (wjS σ p j x).2.1 := by
  refine wi_snd hg hp hj hn (fun i hi h => ?_) hs (j + 1) (Nat.le_refl _)
  have h1 := row_sM hg hm hs hp hj (rowN_ok (σ := σ) (s := x.2.1) (p := p) (j := j) (r := x.2.2) (by omega)) (mn σ p) 0 i (by omega) (Nat.zero_le _) hi (by rw [Nat.mul_zero, Nat.zero_add]; exact h)
  rw [Nat.mul_zero, Nat.zero_add, List.drop_zero] at h1
  exact Dr_cl p hp i j _ h1
theorem wjN_snd (hg : mG σ P) (hm : MK σ tok n) {p : Nat} (hp : p < P) (hn : n ≤ 8) {x : WT} (hs : SM (Gm σ P) tok n x.2.1) : ∀ j, j ≤ n + 1 → SM (Gm σ P) tok n (wjN σ p x j).2.1
  | 0, _ => hs
  | j + 1, h => by rw [wjN]; exact wjS_snd hg hm hp (by omega) hn (wjN_snd hg hm hp hn hs j (by omega))
theorem wpN_snd (hg : mG σ P) (hm : MK σ tok n) (hn : n ≤ 8) {x : WT} (hs : SM (Gm σ P) tok n x.2.1) : ∀ p, p ≤ P → SM (Gm σ P) tok n (wpN σ n x p).2.1
  | 0, _ => hs
  | p + 1, h => by rw [wpN]; exact wjN_snd hg hm (by omega) hn (wpN_snd hg hm hn hs p (by omega)) _ (Nat.le_refl _)
theorem wkN_snd (hg : mG σ P) (hm : MK σ tok n) (hn : n ≤ 8) : ∀ (N : Nat) (x : WT), SM (Gm σ P) tok n x.2.1 → SM (Gm σ P) tok n (wkN σ P n N x).2.1
  | 0, _, h => h
  | N + 1, x, h => by
    rw [wkN]; split
    · exact wkN_snd hg hm hn N _ (wpN_snd (x := (false, x.2.1, x.2.2)) hg hm hn h P (Nat.le_refl _))
    · exact h
/-- nothing was less: the table is as it was, and no row is less -/
theorem wi_same {p j : Nat} {r : Nat → Nat} {x : Bool × (Nat → Nat)} : ∀ i, (wiN σ p j r x i).1 = false → x.1 = false ∧ (wiN σ p j r x i).2 = x.2 ∧ ∀ i', i' < i → x.2 (wcl σ p i' j) ≤ r i' + 1
  | 0, h => ⟨h, rfl, fun _ h => absurd h (Nat.not_lt_zero _)⟩
  | i + 1, h => by
    have h0 : ((wiN σ p j r x i).1 || decide (r i + 1 < (wiN σ p j r x i).2 (wcl σ p i j))) = false := h
    simp only [Bool.or_eq_false_iff, decide_eq_false_iff_not] at h0
    obtain ⟨h1, h2, h3⟩ := wi_same i h0.1
    refine ⟨h1, ?_, fun i' hi' => ?_⟩
    · show updN _ _ _ = _
      rw [if_neg h0.2, h2]
      funext c; unfold updN; split
      · rename_i e; rw [e]
      · rfl
    · by_cases e : i' = i
      · subst e; rw [h2] at h0; omega
      · exact h3 i' (by omega)
theorem wj_same {p : Nat} {x : WT} : ∀ j, (wjN σ p x j).1 = false → x.1 = false ∧ (wjN σ p x j).2.1 = x.2.1 ∧ ∀ j' i', j' < j → i' ≤ j' → ∃ r, rowN σ x.2.1 p j' r i' + 1 ≥ x.2.1 (wcl σ p i' j')
  | 0, h => ⟨h, rfl, fun _ _ h => absurd h (Nat.not_lt_zero _)⟩
  | j + 1, h => by
    rw [wjN] at h ⊢
    obtain ⟨h1, h2, h3⟩ := wi_same (σ := σ) (p := p) (j := j) (j + 1) h
    obtain ⟨g1, g2, g3⟩ := wj_same j h1
    have h2' : (wjS σ p j (wjN σ p x j)).2.1 = (wjN σ p x j).2.1 := h2
    refine ⟨g1, by rw [h2', g2], fun j' i' q1 q2 => ?_⟩
    by_cases e : j' = j
    · subst e
      have h4 := h3 i' (by omega)
      refine ⟨(wjN σ p x j').2.2, ?_⟩
      rw [← g2]; exact h4
    · exact g3 j' i' (by omega) q2
theorem wp_same {x : WT} : ∀ p, (wpN σ n x p).1 = false → x.1 = false ∧ (wpN σ n x p).2.1 = x.2.1 ∧ ∀ p' j' i', p' < p → j' ≤ n → i' ≤ j' → ∃ r, rowN σ x.2.1 p' j' r i' + 1 ≥ x.2.1 (wcl σ p' i' j')
  | 0, h => ⟨h, rfl, fun _ _ _ h => absurd h (Nat.not_lt_zero _)⟩
  | p + 1, h => by
    rw [wpN] at h ⊢
    obtain ⟨h1, h2, h3⟩ := wj_same (σ := σ) (p := p) (n + 1) h
    obtain ⟨g1, g2, g3⟩ := wp_same p h1
    refine ⟨g1, by rw [h2, g2], fun p' j' i' q0 q1 q2 => ?_⟩
    by_cases e : p' = p
    · subst e; rw [g2] at h3; exact h3 j' i' (by omega) q2
    · exact g3 p' j' i' (by omega) q1 q2
/-- the table where work() has ended: what it was before a last sweep that changed nothing -/
theorem wk_last : ∀ (N : Nat) (x : WT), x.1 = true → (wkN σ P n N x).1 = false → ∃ s' r', (wpN σ n (false, s', r') P).1 = false ∧ (wkN σ P n N x).2.1 = (wpN σ n (false, s', r') P).2.1
  | 0, x, h1, h2 => by rw [wkN] at h2; rw [h1] at h2; cases h2
  | N + 1, x, h1, h2 => by
    rw [wkN, if_pos h1] at h2 ⊢
    cases hf : (wpN σ n (false, x.2.1, x.2.2) P).1 with
    | true => exact wk_last N _ hf h2
    | false =>
      refine ⟨x.2.1, x.2.2, hf, ?_⟩
      cases N with
      | zero => rfl
      | succ N => rw [wkN, if_neg (by rw [hf]; decide)]
/-- the model's table is right for all stretches of the input -/
def TM (G : Grm) (tok : Nat → Nat) (n : Nat) (s : Nat → Nat) : Prop := leN s ∧ ∀ v i j, v < 6 → i ≤ j → j ≤ n → s (81 * v + 9 * i + j) = Lv G tok v i j
theorem wk_ok (hg : mG σ P) (hm : MK σ tok n) (hn : n ≤ 8) {N : Nat} {s0 r0 : Nat → Nat} (hl : leN s0) (hf : (wkN σ P n N (true, fillN s0 1000000 486, r0)).1 = false) : TM (Gm σ P) tok n (wkN σ P n N (true, fillN s0 1000000 486, r0)).2.1 := by
  have h0 : SM (Gm σ P) tok n (fillN s0 1000000 486) := ⟨leN_fill hl, fun v i j hv hi hj h => by
    unfold fillN at h; rw [if_pos (by omega)] at h; exact absurd h (by omega)⟩
  have hs := wkN_snd hg hm hn N (true, fillN s0 1000000 486, r0) h0
  obtain ⟨s', r', l1, l2⟩ := wk_last N _ rfl hf
  obtain ⟨-, e1, e2⟩ := wp_same P l1
  have e3 : (wkN σ P n N (true, fillN s0 1000000 486, r0)).2.1 = s' := by rw [l2, e1]
  rw [e3] at hs ⊢
  have hc : clD (Gm σ P) tok (fun v i j m => j ≤ n → s' (81 * v + 9 * i + j) ≤ m) := fun p hp i j m hr hj => by
    obtain ⟨r, h1⟩ := e2 p j i hp hj (Rw_le _ hr)
    have h2 := row_cM (s := s') hg hm (X := fun v i j m => j ≤ n → s' (81 * v + 9 * i + j) ≤ m) (fun y i k a _ _ q2 q3 => q3 (by omega)) hp hj (rowN_ok (σ := σ) (s := s') (p := p) (j := j) (r := r) (by omega)) (mn σ p) 0 i m (by omega) (Nat.zero_le _) (by rw [List.drop_zero]; exact hr)
    rw [Nat.mul_zero, Nat.zero_add] at h2
    have h3 : s' (81 * ml σ p + 9 * i + j) ≤ rowN σ s' p j r i + 1 := h1
    show s' (81 * ml σ p + 9 * i + j) ≤ m + 1
    omega
  refine ⟨hs.1, fun v i j hv hij hj => ?_⟩
  by_cases hd : ∃ m, Dr (Gm σ P) tok v i j m
  · have h1 : s' (81 * v + 9 * i + j) ≤ Lv (Gm σ P) tok v i j := lst_in hd _ hc hj
    have h2 := Lv_bnd (Gm_ok hg) hv (show j ≤ 8 by omega) hd
    exact Nat.le_antisymm h1 (lst_le (hs.2 v i j hv hij hj (by omega)))
  · have h1 : ¬ s' (81 * v + 9 * i + j) < 1000000 := fun q => hd ⟨_, hs.2 v i j hv hij hj q⟩
    have h2 := hs.1 (81 * v + 9 * i + j)
    unfold Lv; rw [lst_no hd]; omega
/-- with a right table the rows are right -/
theorem row_right (hg : mG σ P) (hm : MK σ tok n) (hn : n ≤ 8) (ht : TM (Gm σ P) tok n s) {p j : Nat} (hp : p < P) (hj : j ≤ n) {r : Nat → Nat} {d a : Nat} (hd : d ≤ mn σ p) (ha : a ≤ j) : rowN σ s p j r (9 * d + a) = Lr (Gm σ P) tok (((Gm σ P).2.2 p).drop d) a j := by
  have hq := rowN_ok (σ := σ) (s := s) (p := p) (j := j) (r := r) (show j ≤ 8 by omega)
  have hs : SM (Gm σ P) tok n s := ⟨ht.1, fun v i j hv hi hj h => by
    rw [ht.2 v i j hv hi hj] at h ⊢
    exact lst_in (Classical.byContradiction fun hh => by unfold Lv at h; rw [lst_no hh] at h; omega)⟩
  have hle : rowN σ s p j r (9 * d + a) ≤ 1000000 := by
    by_cases e : d = mn σ p
    · subst e; rw [hq.1 a ha]; split <;> omega
    · rw [hq.2 d a (Nat.zero_le _) (by omega) ha]; exact bsN_le _
  have hlen : (((Gm σ P).2.2 p).drop d).length ≤ 4 := by
    rw [List.length_drop, Gm_len]; have := mG_m hg hp; omega
  by_cases hx : ∃ m, Rw (Sy tok (Dr (Gm σ P) tok)) (((Gm σ P).2.2 p).drop d) a j m
  · have h1 := row_cM (s := s) hg hm (X := Dr (Gm σ P) tok) (fun y i k b hy q1 q2 q3 => by rw [ht.2 y i k hy q1 (by omega)]; exact lst_le q3) hp hj hq _ d a _ rfl hd (lst_in hx)
    have h2 := Lr_bnd (Gm_ok hg) hlen (show j ≤ 8 by omega) hx
    have h1' : rowN σ s p j r (9 * d + a) ≤ Lr (Gm σ P) tok (((Gm σ P).2.2 p).drop d) a j := h1
    exact Nat.le_antisymm h1' (lst_le (row_sM hg hm hs hp hj hq _ d a rfl hd ha (by omega)))
  · have h1 : ¬ rowN σ s p j r (9 * d + a) < 1000000 := fun q => hx ⟨_, row_sM hg hm hs hp hj hq _ d a rfl hd ha q⟩
    unfold Lr; rw [lst_no hx]; omega
end MT
