/-! the model's sets: least closed ones too -/
def hX (σ : Mem) (P k : Nat) (f : Nat → Int32) : Itm := fun p d o => p < P ∧ d ≤ mn σ p ∧ o < 9 ∧ ¬ f (ix k p d o) = 0
def XM (σ : Mem) (P k : Nat) : Itm := hX σ P k (σ 5)
theorem q_put {x : HC} {i : Nat} (hb : bH x) (h : (putH x i).2 = 0) : putH x i = x ∧ x.2 = 0 ∧ ¬ x.1 i = 0 := by
  have h1 := zb_eq0 h
  simp only [Bool.or_eq_false_iff, Bool.not_eq_false', decide_eq_true_eq, decide_eq_false_iff_not] at h1
  have h2 : x.1 i = 1 := (hb.1 i).resolve_left h1.2
  refine ⟨?_, h1.1, h1.2⟩
  have e1 : upd x.1 i (nI 1) = x.1 := by
    funext j; unfold upd; by_cases e : j = i
    · rw [if_pos e, e, h2]; rfl
    · rw [if_neg e]
  have e2 : (putH x i).2 = x.2 := by rw [h, h1.1]
  show (upd x.1 i (nI 1), (putH x i).2) = x
  rw [e1, e2]
theorem b_pr {σ : Mem} {k : Nat} {y : Int32} {x : HC} (h : bH x) : ∀ n, bH (prH σ k y x n)
  | 0 => h
  | n + 1 => by rw [prH]; split; exact bH_put (b_pr h n); exact b_pr h n
theorem b_co {k q e o : Nat} {x : HC} (h : bH x) : ∀ n, bH (coH k q e o x n)
  | 0 => h
  | n + 1 => by rw [coH]; split; exact b_co h n; exact bH_put (b_co h n)
theorem b_cd {σ : Mem} {k p q o : Nat} {x : HC} (h : bH x) : ∀ n, bH (cdH σ k p q o x n)
  | 0 => h
  | n + 1 => by rw [cdH]; split; exact b_co (b_cd h n) _; exact b_cd h n
theorem b_cq {σ : Mem} {k p o : Nat} {x : HC} (h : bH x) : ∀ n, bH (cqH σ k p o x n)
  | 0 => h
  | n + 1 => by rw [cqH]; exact b_cd (b_cq h n) _
theorem b_br {σ : Mem} {P k p d o : Nat} {x : HC} (h : bH x) : bH (brH σ P k p d o x) := by
  unfold brH; split
  · exact b_cq h P
  · split
    · exact h
    · exact b_pr h P
theorem b_sw {σ : Mem} {P k : Nat} {x : HC} (h : bH x) : ∀ n, bH (swH σ P k x n)
  | 0 => h
  | n + 1 => by rw [swH]; split; exact b_sw h n; exact b_br (b_sw h n)
theorem q_pr {σ : Mem} {k : Nat} {y : Int32} {x : HC} (hb : bH x) : ∀ n, (prH σ k y x n).2 = 0 → prH σ k y x n = x ∧ ∀ q, q < n → σ 1 q = y → ¬ x.1 (ix k q 0 k) = 0
  | 0, _ => ⟨rfl, fun _ h => absurd h (Nat.not_lt_zero _)⟩
  | n + 1, h => by
    rw [prH] at h ⊢
    by_cases e : σ 1 n = y
    · rw [if_pos e] at h ⊢
      obtain ⟨h1, h2, h3⟩ := q_put (b_pr hb n) h
      obtain ⟨g1, g2⟩ := q_pr hb n h2
      rw [g1] at h3
      refine ⟨by rw [h1, g1], fun q hq hy => ?_⟩
      by_cases eq : q = n
      · subst eq; exact h3
      · exact g2 q (by omega) hy
    · rw [if_neg e] at h ⊢
      obtain ⟨g1, g2⟩ := q_pr hb n h
      refine ⟨g1, fun q hq hy => ?_⟩
      by_cases eq : q = n
      · subst eq; exact absurd hy e
      · exact g2 q (by omega) hy
theorem q_co {k q e o : Nat} {x : HC} (hb : bH x) : ∀ n, (coH k q e o x n).2 = 0 → coH k q e o x n = x ∧ ∀ w, w < n → ¬ x.1 (ix o q e w) = 0 → ¬ x.1 (ix k q (e + 1) w) = 0
  | 0, _ => ⟨rfl, fun _ h => absurd h (Nat.not_lt_zero _)⟩
  | n + 1, h => by
    rw [coH] at h ⊢
    by_cases e1 : (coH k q e o x n).1 (ix o q e n) = 0
    · rw [if_pos e1] at h ⊢
      obtain ⟨g1, g2⟩ := q_co hb n h
      refine ⟨g1, fun w hw hy => ?_⟩
      by_cases eq : w = n
      · subst eq; rw [g1] at e1; exact absurd e1 hy
      · exact g2 w (by omega) hy
    · rw [if_neg e1] at h ⊢
      obtain ⟨h1, h2, h3⟩ := q_put (b_co hb n) h
      obtain ⟨g1, g2⟩ := q_co hb n h2
      rw [g1] at h3
      refine ⟨by rw [h1, g1], fun w hw hy => ?_⟩
      by_cases eq : w = n
      · subst eq; exact h3
      · exact g2 w (by omega) hy
theorem q_cd {σ : Mem} {k p q o : Nat} {x : HC} (hb : bH x) : ∀ n, (cdH σ k p q o x n).2 = 0 → cdH σ k p q o x n = x ∧ ∀ e, e < n → bhF σ q e = σ 1 p → ∀ w, w < o + 1 → ¬ x.1 (ix o q e w) = 0 → ¬ x.1 (ix k q (e + 1) w) = 0
  | 0, _ => ⟨rfl, fun _ h => absurd h (Nat.not_lt_zero _)⟩
  | n + 1, h => by
    rw [cdH] at h ⊢
    by_cases e1 : bhF σ q n = σ 1 p
    · rw [if_pos e1] at h ⊢
      obtain ⟨h1, h2⟩ := q_co (b_cd hb n) _ h
      rw [h1] at h
      obtain ⟨g1, g2⟩ := q_cd hb n h
      rw [g1] at h2
      refine ⟨by rw [h1, g1], fun e he hy => ?_⟩
      by_cases eq : e = n
      · subst eq; exact h2
      · exact g2 e (by omega) hy
    · rw [if_neg e1] at h ⊢
      obtain ⟨g1, g2⟩ := q_cd hb n h
      refine ⟨g1, fun e he hy => ?_⟩
      by_cases eq : e = n
      · subst eq; exact absurd hy e1
      · exact g2 e (by omega) hy
theorem q_cq {σ : Mem} {k p o : Nat} {x : HC} (hb : bH x) : ∀ n, (cqH σ k p o x n).2 = 0 → cqH σ k p o x n = x ∧ ∀ q, q < n → ∀ e, e < mn σ q → bhF σ q e = σ 1 p → ∀ w, w < o + 1 → ¬ x.1 (ix o q e w) = 0 → ¬ x.1 (ix k q (e + 1) w) = 0
  | 0, _ => ⟨rfl, fun _ h => absurd h (Nat.not_lt_zero _)⟩
  | n + 1, h => by
    rw [cqH] at h ⊢
    obtain ⟨h1, h2⟩ := q_cd (b_cq hb n) _ h
    rw [h1] at h
    obtain ⟨g1, g2⟩ := q_cq hb n h
    rw [g1] at h2
    refine ⟨by rw [h1, g1], fun q hq => ?_⟩
    by_cases eq : q = n
    · subst eq; exact h2
    · exact g2 q (by omega)
/-- an item has brought all that it brings -/
def brQ (σ : Mem) (P k p d o : Nat) (f : Nat → Int32) : Prop := (bhF σ p d < 0 → ∀ q, q < P → ∀ e, e < mn σ q → bhF σ q e = σ 1 p → ∀ w, w < o + 1 → ¬ f (ix o q e w) = 0 → ¬ f (ix k q (e + 1) w) = 0) ∧ (¬ bhF σ p d < 0 → ¬ nI 100 ≤ bhF σ p d → ∀ q, q < P → σ 1 q = bhF σ p d → ¬ f (ix k q 0 k) = 0)
theorem q_br {σ : Mem} {P k p d o : Nat} {x : HC} (hb : bH x) (h : (brH σ P k p d o x).2 = 0) : brH σ P k p d o x = x ∧ brQ σ P k p d o x.1 := by
  unfold brH at h ⊢
  by_cases e1 : bhF σ p d < 0
  · rw [if_pos e1] at h ⊢
    obtain ⟨h1, h2⟩ := q_cq hb P h
    exact ⟨h1, fun _ => h2, fun q => absurd e1 q⟩
  · rw [if_neg e1] at h ⊢
    by_cases e2 : nI 100 ≤ bhF σ p d
    · rw [if_pos e2]; exact ⟨rfl, fun q => absurd q e1, fun _ q => absurd e2 q⟩
    · rw [if_neg e2] at h ⊢
      obtain ⟨h1, h2⟩ := q_pr hb P h
      exact ⟨h1, fun q => absurd q e1, fun _ _ => h2⟩
theorem q_sw {σ : Mem} {P k : Nat} {x : HC} (hb : bH x) : ∀ n, (swH σ P k x n).2 = 0 → swH σ P k x n = x ∧ ∀ i, i < n → ¬ x.1 (360 * k + i) = 0 → brQ σ P k (i / 45) (i / 9 % 5) (i % 9) x.1
  | 0, _ => ⟨rfl, fun _ h => absurd h (Nat.not_lt_zero _)⟩
  | n + 1, h => by
    rw [swH] at h ⊢
    by_cases e1 : (swH σ P k x n).1 (360 * k + n) = 0
    · rw [if_pos e1] at h ⊢
      obtain ⟨g1, g2⟩ := q_sw hb n h
      refine ⟨g1, fun i hi hy => ?_⟩
      by_cases eq : i = n
      · subst eq; rw [g1] at e1; exact absurd e1 hy
      · exact g2 i (by omega) hy
    · rw [if_neg e1] at h ⊢
      obtain ⟨h1, h2⟩ := q_br (b_sw hb n) h
      rw [h1] at h
      obtain ⟨g1, g2⟩ := q_sw hb n h
      rw [g1] at h2
      refine ⟨by rw [h1, g1], fun i hi hy => ?_⟩
      by_cases eq : i = n
      · subst eq; exact h2
      · exact g2 i (by omega) hy
theorem q_wh {σ : Mem} {P k : Nat} : ∀ (N : Nat) (x : HC), bH x → ¬ x.2 = 0 → (whH σ P k N x).2 = 0 → ∀ i, i < 360 → ¬ (whH σ P k N x).1 (360 * k + i) = 0 → brQ σ P k (i / 45) (i / 9 % 5) (i % 9) (whH σ P k N x).1
  | 0, x, _, h1, h2 => by rw [whH] at h2; exact absurd h2 h1
  | N + 1, x, hb, h1, h2 => by
    rw [whH, if_neg h1] at h2 ⊢
    have hb' : bH (flH x (nI 0)) := ⟨hb.1, Or.inl rfl⟩
    by_cases e : (swH σ P k (flH x (nI 0)) 360).2 = 0
    · obtain ⟨g1, g2⟩ := q_sw hb' 360 e
      have e3 : whH σ P k N (swH σ P k (flH x (nI 0)) 360) = swH σ P k (flH x (nI 0)) 360 := by
        cases N with
        | zero => rfl
        | succ N => rw [whH, if_pos e]
      rw [e3, g1]; exact g2
    · exact q_wh N _ (b_sw hb' 360) e h2
section SM
variable {σ : Mem} {P k : Nat} {Y : Itm}
def sY (σ : Mem) (P k : Nat) (Y : Itm) (x : HC) : Prop := ∀ p d o, p < P → d ≤ mn σ p → o < 9 → ¬ x.1 (ix k p d o) = 0 → Y p d o
theorem s_put (hg : mG σ P) {x : HC} {p d o : Nat} (hp : p < P) (hd : d ≤ mn σ p) (ho : o < 9) (h : sY σ P k Y x) (hy : Y p d o) : sY σ P k Y (putH x (ix k p d o)) := by
  intro p' d' o' hp' hd' ho' hn
  have m1 := mG_m hg hp
  have m2 := mG_m hg hp'
  by_cases e : ix k p' d' o' = ix k p d o
  · have e3 : p' = p ∧ d' = d ∧ o' = o := by unfold ix at e; omega
    obtain ⟨rfl, rfl, rfl⟩ := e3
    exact hy
  · refine h p' d' o' hp' hd' ho' (fun q => hn ?_)
    show upd _ _ _ _ = 0
    unfold upd; rw [if_neg e]; exact q
theorem s_pr (hg : mG σ P) (hk : k < 9) {x : HC} {y : Int32} (hq : ∀ q, q < P → σ 1 q = y → Y q 0 k) (h : sY σ P k Y x) : ∀ n, n ≤ P → sY σ P k Y (prH σ k y x n)
  | 0, _ => h
  | n + 1, hn => by
    rw [prH]; split
    · rename_i e
      exact s_put hg (by omega) (Nat.zero_le _) hk (s_pr hg hk hq h n (by omega)) (hq n (by omega) e)
    · exact s_pr hg hk hq h n (by omega)
theorem ix_low {o q e w : Nat} (ho : o < k) (hq : q < 8) (he : e < 5) (hw : w < 9) : ix o q e w < 360 * k := by unfold ix; omega
/-- what is completed out of a set that stands in lo, or out of the set itself -/
def cpY (lo : Nat → Int32) (k o q e w : Nat) (Y : Itm) : Prop := (o < k ∧ ¬ lo (ix o q e w) = 0) ∨ (o = k ∧ Y q e w)
theorem s_co (hg : mG σ P) (hk : k < 9) {x : HC} {lo : Nat → Int32} {q e o : Nat} (hq : q < P) (he : e < mn σ q) (ho : o ≤ k) (hl : ∀ j, j < 360 * k → x.1 j = lo j) (hc : ∀ w, w ≤ o → cpY lo k o q e w Y → Y q (e + 1) w) (h : sY σ P k Y x) : ∀ n, n ≤ o + 1 → sY σ P k Y (coH k q e o x n)
  | 0, _ => h
  | n + 1, hn => by
    have ih := s_co hg hk hq he ho hl hc h n (by omega)
    have m1 := mG_m hg hq
    rw [coH]; split
    · exact ih
    · rename_i hne
      refine s_put hg hq (by omega) (by omega) ih (hc n (by omega) ?_)
      by_cases eo : o = k
      · subst eo; exact Or.inr ⟨rfl, ih q e n hq (by omega) (by omega) hne⟩
      · refine Or.inl ⟨by omega, ?_⟩
        have hP := hg.1
        have hlt : ix o q e n < 360 * k := ix_low (by omega) (by omega) (by omega) (by omega)
        rw [(ok_coH (x := x) hg hk hq he ho n (by omega)).2.2 _ (Or.inl hlt), hl _ hlt] at hne
        exact hne
theorem s_cd (hg : mG σ P) (hk : k < 9) {x : HC} {lo : Nat → Int32} {p q o : Nat} (hq : q < P) (ho : o ≤ k) (hl : ∀ j, j < 360 * k → x.1 j = lo j) (hc : ∀ e w, e < mn σ q → bhF σ q e = σ 1 p → w ≤ o → cpY lo k o q e w Y → Y q (e + 1) w) (h : sY σ P k Y x) : ∀ n, n ≤ mn σ q → sY σ P k Y (cdH σ k p q o x n)
  | 0, _ => h
  | n + 1, hn => by
    have ih := s_cd hg hk hq ho hl hc h n (by omega)
    rw [cdH]; split
    · rename_i e
      refine s_co hg hk hq (by omega) ho (fun j hj => ?_) (fun w hw q => hc n w (by omega) e hw q) ih _ (Nat.le_refl _)
      rw [(ok_cdH (p := p) (x := x) hg hk hq ho n (by omega)).2.2 j (Or.inl hj)]; exact hl j hj
    · exact ih
theorem s_cq (hg : mG σ P) (hk : k < 9) {x : HC} {lo : Nat → Int32} {p o : Nat} (ho : o ≤ k) (hl : ∀ j, j < 360 * k → x.1 j = lo j) (hc : ∀ q e w, q < P → e < mn σ q → bhF σ q e = σ 1 p → w ≤ o → cpY lo k o q e w Y → Y q (e + 1) w) (h : sY σ P k Y x) : ∀ n, n ≤ P → sY σ P k Y (cqH σ k p o x n)
  | 0, _ => h
  | n + 1, hn => by
    have ih := s_cq hg hk ho hl hc h n (by omega)
    rw [cqH]
    refine s_cd hg hk (by omega) ho (fun j hj => ?_) (fun e w => hc n e w (by omega)) ih _ (Nat.le_refl _)
    rw [(ok_cqH (p := p) (x := x) hg hk ho n (by omega)).2.2 j (Or.inl hj)]; exact hl j hj
theorem Gm_get {p d : Nat} (h : d < mn σ p) : ((Gm σ P).2.2 p)[d]? = some (mr σ (4 * p + d)) := by
  show ((List.range (mn σ p)).map _)[d]? = _
  rw [List.getElem?_map, List.getElem?_range h]; rfl
theorem Gm_some {p d y : Nat} (h : ((Gm σ P).2.2 p)[d]? = some y) : d < mn σ p ∧ mr σ (4 * p + d) = y := by
  have h1 : d < mn σ p := by have := (List.getElem?_eq_some_iff.mp h).1; rw [Gm_len] at this; exact this
  rw [Gm_get h1] at h
  exact ⟨h1, Option.some.inj h⟩
theorem bh_lt (hg : mG σ P) {p d : Nat} (hp : p < P) (hd : d < mn σ p) : bhF σ p d = nI (mr σ (4 * p + d)) ∧ mr σ (4 * p + d) < 106 := by
  have := (hg.2.2 p hp).2.2.2.2 d hd
  unfold bhF; rw [if_pos hd]; exact ⟨this.1, by omega⟩
theorem bh_ge {p d : Nat} (hd : ¬ d < mn σ p) : bhF σ p d = -1 := by unfold bhF; rw [if_neg hd]
theorem s_br (hg : mG σ P) (hk : k < 9) {x : HC} {lo : Nat → Int32} {B : Itm} (hY : clS (Gm σ P) k B (fun j => hX σ P j lo) Y) {p d o : Nat} (hp : p < P) (hd : d ≤ mn σ p) (ho : o ≤ k) (hpd : Y p d o) (hl : ∀ j, j < 360 * k → x.1 j = lo j) (h : sY σ P k Y x) : sY σ P k Y (brH σ P k p d o x) := by
  have hml := (hg.2.2 p hp).1
  have hml6 := (hg.2.2 p hp).2.1
  unfold brH
  split
  · rename_i hb
    have e : d = mn σ p := Nat.le_antisymm hd (Nat.not_lt.mp fun q => by
      rw [(bh_lt hg hp q).1] at hb; exact nI_pos (by have := (bh_lt hg hp q).2; omega) hb)
    refine s_cq hg hk ho hl (fun q e' w hq he hbq hw hc => ?_) h P (Nat.le_refl _)
    rw [(bh_lt hg hq he).1, hml] at hbq
    have e2 := (nI_eq (by have := (bh_lt hg hq he).2; omega) (by omega)).mp hbq
    refine hY.2.2 p o q e' w hp (by rw [Gm_len, ← e]; exact hpd) ?_ (by rw [Gm_get he, e2]; rfl)
    rcases hc with ⟨c1, c2⟩ | c
    · exact Or.inl ⟨c1, hq, by omega, by omega, c2⟩
    · exact Or.inr c
  · rename_i hb
    split
    · exact h
    · have e : d < mn σ p := Decidable.byContradiction fun q => hb (by rw [bh_ge q]; decide)
      refine s_pr hg hk (fun q hq hy => ?_) h P (Nat.le_refl _)
      rw [(bh_lt hg hp e).1, (hg.2.2 q hq).1] at hy
      have := (hg.2.2 q hq).2.1
      have e2 := (nI_eq (by omega) (by have := (bh_lt hg hp e).2; omega)).mp hy
      exact hY.2.1 p d o _ q hpd (Gm_get e) hq e2
theorem s_sw (hg : mG σ P) (hk : k < 9) {x : HC} {lo : Nat → Int32} {B : Itm} (hY : clS (Gm σ P) k B (fun j => hX σ P j lo) Y) (hv : vH σ P k x) (hl : ∀ j, j < 360 * k → x.1 j = lo j) (h : sY σ P k Y x) : ∀ n, n ≤ 360 → sY σ P k Y (swH σ P k x n)
  | 0, _ => h
  | n + 1, hn => by
    have ih := s_sw hg hk hY hv hl h n (by omega)
    have hok := ok_swH hg hk hv n (by omega)
    rw [swH]; split
    · exact ih
    · rename_i hne
      obtain ⟨g1, g2, g3⟩ := GI_of hg hk (by omega) ((hok.1 hv).2 _ (by omega) (by omega) hne)
      refine s_br hg hk hY g1 g2 g3 (ih _ _ _ g1 g2 (by omega) ?_) (fun j hj => by rw [hok.2.2 j (Or.inl hj)]; exact hl j hj) ih
      rw [show ix k (n / 45) (n / 9 % 5) (n % 9) = 360 * k + n by unfold ix; omega]; exact hne
theorem s_wh (hg : mG σ P) (hk : k < 9) {lo : Nat → Int32} {B : Itm} (hY : clS (Gm σ P) k B (fun j => hX σ P j lo) Y) : ∀ (N : Nat) (x : HC), vH σ P k x → (∀ j, j < 360 * k → x.1 j = lo j) → sY σ P k Y x → sY σ P k Y (whH σ P k N x)
  | 0, _, _, _, h => h
  | N + 1, x, hv, hl, h => by
    rw [whH]; split
    · exact h
    · have hv' : vH σ P k (flH x (nI 0)) := vH_fl hv (Or.inl rfl)
      have hok := ok_swH hg hk hv' 360 (Nat.le_refl _)
      exact s_wh hg hk hY N _ (hok.1 hv') (fun j hj => by rw [hok.2.2 j (Or.inl hj)]; exact hl j hj) (s_sw hg hk hY hv' hl h 360 (Nat.le_refl _))
theorem ok_wh (hg : mG σ P) (hk : k < 9) : ∀ (N : Nat) (x : HC), vH σ P k x → vH σ P k (whH σ P k N x) ∧ (∀ j, ¬ x.1 j = 0 → ¬ (whH σ P k N x).1 j = 0) ∧ ∀ j, (j < 360 * k ∨ 360 * k + 360 ≤ j) → (whH σ P k N x).1 j = x.1 j
  | 0, _, h => ⟨h, fun _ h => h, fun _ _ => rfl⟩
  | N + 1, x, hv => by
    rw [whH]; split
    · exact ⟨hv, fun _ h => h, fun _ _ => rfl⟩
    · have hv' : vH σ P k (flH x (nI 0)) := vH_fl hv (Or.inl rfl)
      have hok := ok_swH hg hk hv' 360 (Nat.le_refl _)
      obtain ⟨h1, h2, h3⟩ := ok_wh hg hk N _ (hok.1 hv')
      exact ⟨h1, fun j q => h2 j (hok.2.1.1 j q), fun j hj => by rw [h3 j hj]; exact hok.2.2 j hj⟩
/-! the first items -/
theorem s_sc (hg : mG σ P) (hk : k < 9) {x : HC} {lo : Nat → Int32} {p d : Nat} (hp : p < P) (hd : d < mn σ p) (hl : ∀ j, j < 360 * k → x.1 j = lo j) (hc : ∀ o, o < k → ¬ lo (ix (k - 1) p d o) = 0 → Y p (d + 1) o) (h : sY σ P k Y x) : ∀ n, n ≤ k → sY σ P k Y (scH k p d x n)
  | 0, _ => h
  | n + 1, hn => by
    have ih := s_sc hg hk hp hd hl hc h n (by omega)
    have m1 := mG_m hg hp
    have hP := hg.1
    rw [scH]; split
    · exact ih
    · rename_i hne
      have hlt : ix (k - 1) p d n < 360 * k := ix_low (by omega) (by omega) (by omega) (by omega)
      rw [(ok_scH (x := x) hg hk hp hd n (by omega)).2.2 _ (Or.inl hlt), hl _ hlt] at hne
      exact s_put hg hp (by omega) (by omega) ih (hc n (by omega) hne)
theorem s_sd (hg : mG σ P) (hk : k < 9) {x : HC} {lo : Nat → Int32} {p : Nat} (hp : p < P) (hl : ∀ j, j < 360 * k → x.1 j = lo j) (hc : ∀ d o, d < mn σ p → bhF σ p d = σ 4 k → o < k → ¬ lo (ix (k - 1) p d o) = 0 → Y p (d + 1) o) (h : sY σ P k Y x) : ∀ n, n ≤ mn σ p → sY σ P k Y (sdH σ k p x n)
  | 0, _ => h
  | n + 1, hn => by
    have ih := s_sd hg hk hp hl hc h n (by omega)
    rw [sdH]; split
    · rename_i e
      refine s_sc hg hk hp (by omega) (fun j hj => ?_) (fun o => hc n o (by omega) e) ih _ (Nat.le_refl _)
      rw [(ok_sdH (x := x) hg hk hp n (by omega)).2.2 j (Or.inl hj)]; exact hl j hj
    · exact ih
theorem s_s0 (hg : mG σ P) {x : HC} {p : Nat} (hp : p < P) (hc : k = 0 → σ 1 p = σ 1 0 → Y p 0 0) (h : sY σ P k Y x) : sY σ P k Y (s0H σ k p x) := by
  unfold s0H
  by_cases e : k = 0
  · subst e
    rw [if_pos rfl]
    split
    · rename_i e2
      exact s_put hg hp (Nat.zero_le _) (by omega) h (hc rfl e2)
    · exact h
  · rw [if_neg e]; exact h
theorem s_sp (hg : mG σ P) (hk : k < 9) {x : HC} {lo : Nat → Int32} (hl : ∀ j, j < 360 * k → x.1 j = lo j) (h0 : ∀ p, p < P → k = 0 → σ 1 p = σ 1 0 → Y p 0 0) (hc : ∀ p d o, p < P → d < mn σ p → bhF σ p d = σ 4 k → o < k → ¬ lo (ix (k - 1) p d o) = 0 → Y p (d + 1) o) (h : sY σ P k Y x) : ∀ n, n ≤ P → sY σ P k Y (spH σ k x n)
  | 0, _ => h
  | n + 1, hn => by
    have ih := s_sp hg hk hl h0 hc h n (by omega)
    rw [spH]
    refine s_sd hg hk (by omega) (fun j hj => ?_) (fun d o => hc n d o (by omega)) (s_s0 hg (by omega) (h0 n (by omega)) ih) _ (Nat.le_refl _)
    rw [(ok_s0H (x := spH σ k x n) hg hk (by omega)).2.2 j (Or.inl hj), (ok_spH (x := x) hg hk n (by omega)).2.2 j (Or.inl hj)]; exact hl j hj
theorem c_sc (hg : mG σ P) (hk : k < 9) {x : HC} {lo : Nat → Int32} {p d : Nat} (hp : p < P) (hd : d < mn σ p) (hl : ∀ j, j < 360 * k → x.1 j = lo j) : ∀ n, n ≤ k → ∀ o, o < n → ¬ lo (ix (k - 1) p d o) = 0 → ¬ (scH k p d x n).1 (ix k p (d + 1) o) = 0
  | 0, _ => fun _ h => absurd h (Nat.not_lt_zero _)
  | n + 1, hn => fun o ho hlo => by
    have ih := c_sc hg hk hp hd hl n (by omega) o
    have m1 := mG_m hg hp
    have hP := hg.1
    have hlt : ix (k - 1) p d n < 360 * k := ix_low (by omega) (by omega) (by omega) (by omega)
    have hcur := (ok_scH (x := x) hg hk hp hd n (by omega)).2.2 _ (Or.inl hlt)
    rw [hl _ hlt] at hcur
    rw [scH]
    by_cases e : o = n
    · subst e
      rw [if_neg (by rw [hcur]; exact hlo)]
      show ¬ upd _ _ _ _ = 0
      unfold upd; rw [if_pos rfl]; decide
    · have h1 := ih (by omega) hlo
      split
      · exact h1
      · show ¬ upd _ _ _ _ = 0
        unfold upd; split
        · decide
        · exact h1
theorem c_sd (hg : mG σ P) (hk : k < 9) {x : HC} {lo : Nat → Int32} {p : Nat} (hp : p < P) (hl : ∀ j, j < 360 * k → x.1 j = lo j) : ∀ n, n ≤ mn σ p → ∀ d o, d < n → bhF σ p d = σ 4 k → o < k → ¬ lo (ix (k - 1) p d o) = 0 → ¬ (sdH σ k p x n).1 (ix k p (d + 1) o) = 0
  | 0, _ => fun _ _ h => absurd h (Nat.not_lt_zero _)
  | n + 1, hn => fun d o hd hb ho hlo => by
    have ih := c_sd hg hk hp hl n (by omega) d o
    have hok := ok_sdH (x := x) hg hk hp n (by omega)
    rw [sdH]
    by_cases e : d = n
    · subst e
      rw [if_pos hb]
      exact c_sc hg hk hp (by omega) (fun j hj => by rw [hok.2.2 j (Or.inl hj)]; exact hl j hj) k (Nat.le_refl _) o ho hlo
    · have h1 := ih (by omega) hb ho hlo
      split
      · exact (ok_scH hg hk hp (by omega) k (Nat.le_refl _)).2.1.1 _ h1
      · exact h1
theorem c_sp (hg : mG σ P) (hk : k < 9) {x : HC} {lo : Nat → Int32} (hl : ∀ j, j < 360 * k → x.1 j = lo j) : ∀ n, n ≤ P → (∀ p, p < n → k = 0 → σ 1 p = σ 1 0 → ¬ (spH σ k x n).1 (ix k p 0 0) = 0) ∧ ∀ p d o, p < n → d < mn σ p → bhF σ p d = σ 4 k → o < k → ¬ lo (ix (k - 1) p d o) = 0 → ¬ (spH σ k x n).1 (ix k p (d + 1) o) = 0
  | 0, _ => ⟨fun _ h => absurd h (Nat.not_lt_zero _), fun _ _ _ h => absurd h (Nat.not_lt_zero _)⟩
  | n + 1, hn => by
    obtain ⟨i1, i2⟩ := c_sp hg hk hl n (by omega)
    have k0 := ok_s0H (σ := σ) (P := P) (k := k) (p := n) (x := spH σ k x n) hg hk (by omega)
    have k1 := ok_sdH (σ := σ) (P := P) (k := k) (p := n) (x := s0H σ k n (spH σ k x n)) hg hk (by omega) (mn σ n) (Nat.le_refl _)
    have kp := ok_spH (x := x) hg hk n (by omega)
    rw [spH]
    refine ⟨fun p hp h0 hb => ?_, fun p d o hp hd hb ho hlo => ?_⟩
    · by_cases e : p = n
      · subst e
        refine k1.2.1.1 _ ?_
        unfold s0H; rw [if_pos h0, if_pos hb]
        subst h0
        show ¬ upd _ _ _ _ = 0
        unfold upd; rw [if_pos rfl]; decide
      · exact k1.2.1.1 _ (k0.2.1.1 _ (i1 p (by omega) h0 hb))
    · by_cases e : p = n
      · subst e
        exact c_sd hg hk (by omega) (fun j hj => by rw [k0.2.2 j (Or.inl hj), kp.2.2 j (Or.inl hj)]; exact hl j hj) (mn σ p) (Nat.le_refl _) d o hd hb ho hlo
      · exact k1.2.1.1 _ (k0.2.1.1 _ (i2 p d o (by omega) hd hb ho hlo))
theorem cl_far {x : HC} : ∀ n j, (j < 360 * k ∨ 360 * k + n ≤ j) → (clH k x n).1 j = x.1 j
  | 0, _, _ => rfl
  | n + 1, j, h => by
    rw [clH]
    show upd _ _ _ _ = _
    unfold upd; rw [if_neg (by omega)]; exact cl_far n j (by omega)
theorem cl_z {x : HC} : ∀ n j, 360 * k ≤ j → j < 360 * k + n → (clH k x n).1 j = 0
  | 0, _, h1, h2 => absurd h2 (by omega)
  | n + 1, j, h1, h2 => by
    rw [clH]
    show upd _ _ _ _ = _
    unfold upd; by_cases e : j = 360 * k + n
    · rw [if_pos e]; rfl
    · rw [if_neg e]; exact cl_z n j h1 (by omega)
/-- set k of the model -/
theorem fil_ok {τ : Mem} {tok : Nat → Nat} (hg : mG σ P) (hk : k < 9) (hb : bH (σ 5, σ 0 10)) (ht : k ≠ 0 → σ 4 k = nI (tok k) ∧ 100 ≤ tok k ∧ tok k < 200) (hv0 : ∀ j, j < k → ∀ p d o, p < P → d ≤ mn σ p → o < 9 → ¬ σ 5 (ix j p d o) = 0 → o ≤ j) (h : filP σ P k τ) :
    leastX (Gm σ P) k (Bs (Gm σ P) tok k (XM σ P (k - 1))) (XM σ P) (XM τ P k) ∧ vH σ P k (τ 5, τ 0 10) ∧ ∀ j, (j < 360 * k ∨ 360 * k + 360 ≤ j) → τ 5 j = σ 5 j := by
  obtain ⟨N, rfl, h2⟩ := h
  have hP := hg.1
  have hvc : vH σ P k (clH k (σ 5, σ 0 10) 360) := vH_cl hb
  have hlc : ∀ j, j < 360 * k → (clH k (σ 5, σ 0 10) 360).1 j = σ 5 j := fun j hj => cl_far 360 j (Or.inl hj)
  have hok := ok_spH (x := clH k (σ 5, σ 0 10) 360) hg hk P (Nat.le_refl _)
  generalize hx1 : spH σ k (clH k (σ 5, σ 0 10) 360) P = x1 at h2 hok ⊢
  have hv1 : vH σ P k (flH x1 (nI 1)) := vH_fl (hok.1 hvc) (Or.inr rfl)
  have hl1 : ∀ j, j < 360 * k → (flH x1 (nI 1)).1 j = σ 5 j := fun j hj => (hok.2.2 j (Or.inl hj)).trans (hlc j hj)
  obtain ⟨w1, w2, w3⟩ := ok_wh hg hk N (flH x1 (nI 1)) hv1
  have hq := q_wh N (flH x1 (nI 1)) hv1.1 (by show ¬ nI 1 = 0; decide) h2
  have hsY : ∀ Y, clS (Gm σ P) k (Bs (Gm σ P) tok k (XM σ P (k - 1))) (XM σ P) Y → sY σ P k Y (whH σ P k N (flH x1 (nI 1))) := fun Y hY => by
    refine s_wh hg hk (lo := σ 5) hY N _ hv1 hl1 ?_
    have hs : sY σ P k Y x1 := by
      rw [← hx1]
      refine s_sp hg hk hlc (fun p hp h0 h6 => hY.1 p 0 0 ⟨hp, Or.inl ⟨h0, rfl, rfl, ?_⟩⟩) (fun p d o hp hd hbh ho hlo => hY.1 p (d + 1) o ⟨hp, Or.inr ⟨by omega, d, rfl, ?_, hp, by omega, by omega, hlo⟩⟩) (fun p d o hp hd ho hn => absurd (cl_z 360 _ (by unfold ix; omega) (by have := mG_m hg hp; unfold ix; omega)) hn) P (Nat.le_refl _)
      · rw [(hg.2.2 p hp).1, (hg.2.2 0 (by omega)).1] at h6
        have := (hg.2.2 p hp).2.1
        have := (hg.2.2 0 (by omega)).2.1
        exact (nI_eq (a := ml σ p) (b := ml σ 0) (by omega) (by omega)).mp h6
      · rw [Gm_get hd]
        obtain ⟨t1, t2, t3⟩ := ht (by omega)
        rw [t1, (bh_lt hg hp hd).1] at hbh
        rw [(nI_eq (by have := (bh_lt hg hp hd).2; omega) (by omega)).mp hbh]
    exact hs
  generalize hx : whH σ P k N (flH x1 (nI 1)) = x at h2 w1 w2 w3 hq hsY ⊢
  have e5 : mhc σ x 5 = x.1 := mhc_5
  have eX : XM (mhc σ x) P k = hX σ P k x.1 := by unfold XM hX; rw [mn_mhc, e5]
  rw [eX, e5, mhc_10]
  refine ⟨⟨⟨fun p d o hB => ?_, fun p d o y q hx hy hq' hqy => ?_, fun p o q e w hp hx hc hy => ?_⟩, fun Y hY p d o q => hsY Y hY p d o q.1 q.2.1 q.2.2.1 q.2.2.2⟩, w1, fun j hj => ?_⟩
  · obtain ⟨c1, c2⟩ := c_sp hg hk hlc P (Nat.le_refl _)
    rw [hx1] at c1 c2
    obtain ⟨hp, ⟨h0, rfl, rfl, h6⟩ | ⟨h0, e, rfl, h3, h4⟩⟩ := hB
    · refine ⟨hp, Nat.zero_le _, by omega, w2 _ (c1 p hp h0 ?_)⟩
      have h6' : ml σ p = ml σ 0 := h6
      rw [(hg.2.2 p hp).1, (hg.2.2 0 (by have hp' : p < P := hp; omega)).1, h6']
    · obtain ⟨g1, g2⟩ := Gm_some h3
      have hp' : p < P := hp
      have ho := hv0 (k - 1) (by omega) p e o hp' h4.2.1 h4.2.2.1 h4.2.2.2
      refine ⟨hp', by omega, by omega, w2 _ (c2 p e o hp' g1 ?_ (by omega) h4.2.2.2)⟩
      rw [(bh_lt hg hp' g1).1, (ht h0).1, g2]
  · obtain ⟨g1, g2⟩ := Gm_some hy
    obtain ⟨hp, hd, ho, hn⟩ := hx
    have hq2 : q < P := hq'
    have m := mG_m hg hp
    have hi : 45 * p + 9 * d + o < 360 := by omega
    have hbr := hq (45 * p + 9 * d + o) hi (by rw [show 360 * k + (45 * p + 9 * d + o) = ix k p d o by unfold ix; omega]; exact hn)
    rw [show (45 * p + 9 * d + o) / 45 = p by omega, show (45 * p + 9 * d + o) / 9 % 5 = d by omega] at hbr
    have hqy' : ml σ q = y := hqy
    have h6 := (hg.2.2 q hq2).2.1
    refine ⟨hq2, Nat.zero_le _, hk, hbr.2 ?_ ?_ q hq2 ?_⟩
    · rw [(bh_lt hg hp g1).1]; exact nI_pos (by have := (bh_lt hg hp g1).2; omega)
    · rw [(bh_lt hg hp g1).1, g2]; intro z
      have := (nI_leI (by decide) (by omega)).mp z; omega
    · rw [(bh_lt hg hp g1).1, g2, (hg.2.2 q hq2).1, hqy']
  · obtain ⟨-, hd, ho, hn⟩ := hx
    have hp' : p < P := hp
    rw [Gm_len] at hd hn
    have m := mG_m hg hp'
    obtain ⟨g1, g2⟩ := Gm_some hy
    have hi : 45 * p + 9 * mn σ p + o < 360 := by omega
    have hgi := w1.2 (ix k p (mn σ p) o) (by unfold ix; omega) (by unfold ix; omega) hn
    have hok2 : o ≤ k := by
      obtain ⟨p2, d2, o2, a1, a2, a3, a4⟩ := hgi
      have := mG_m hg a1
      unfold ix at a4; omega
    have hbr := hq (45 * p + 9 * mn σ p + o) hi (by rw [show 360 * k + (45 * p + 9 * mn σ p + o) = ix k p (mn σ p) o by unfold ix; omega]; exact hn)
    rw [show (45 * p + 9 * mn σ p + o) / 45 = p by omega, show (45 * p + 9 * mn σ p + o) / 9 % 5 = mn σ p by omega, show (45 * p + 9 * mn σ p + o) % 9 = o by omega] at hbr
    have hqP : q < P := by
      rcases hc with ⟨-, c⟩ | ⟨-, c⟩
      · exact c.1
      · exact c.1
    have mq := mG_m hg hqP
    have hml6 := (hg.2.2 p hp').2.1
    have hw9 : w ≤ o ∧ ¬ x.1 (ix o q e w) = 0 ∧ w < 9 := by
      rcases hc with ⟨c1, c2⟩ | ⟨c1, c2⟩
      · obtain ⟨d1, d2, d3, d4⟩ := c2
        refine ⟨?_, ?_, d3⟩
        · exact hv0 o c1 q e w d1 d2 d3 d4
        · rw [w3 _ (Or.inl (ix_low c1 (by omega) (by omega) d3)), hl1 _ (ix_low c1 (by omega) (by omega) d3)]; exact d4
      · obtain ⟨d1, d2, d3, d4⟩ := c2
        subst c1
        obtain ⟨p2, d2', o2, a1, a2, a3, a4⟩ := w1.2 (ix o q e w) (by unfold ix; omega) (by unfold ix; omega) d4
        have := mG_m hg a1
        exact ⟨by unfold ix at a4; omega, d4, d3⟩
    refine ⟨hqP, by omega, hw9.2.2, hbr.1 ?_ q hqP e g1 ?_ w (by omega) hw9.2.1⟩
    · rw [bh_ge (by omega)]; decide
    · have g2' : mr σ (4 * q + e) = ml σ p := g2
      rw [(bh_lt hg hqP g1).1, g2', (hg.2.2 p hp').1]
  · rw [w3 j hj]
    show (flH x1 (nI 1)).1 j = _
    show x1.1 j = _
    rw [hok.2.2 j hj, cl_far 360 j hj]
end SM
