/-! the two sides' relation -/
def PL (μ : Mem) (P k : Nat) : Prop := ∀ j, 360 * k ≤ j → j < 360 * k + 360 → ¬ μ 5 j = 0 → GI μ P k j
/-- the class's side, for the grammar G -/
def RA (G : Grm) (tok : Nat → Nat) (σ : Mem) (S n V T : Nat) : Prop := eI σ G.1 S n V T ∧ GO G σ S ∧ TK σ tok n ∧ okE G σ S n ∧ CH G tok n (XE G σ) ∧ TE G tok σ S n
/-- the model's side -/
def RM (tok : Nat → Nat) (μ : Mem) (P n V T : Nat) (s r : Nat → Nat) : Prop := mI μ P n V T ∧ MK μ tok n ∧ CH (Gm μ P) tok n (XM μ P) ∧ (∀ k, k ≤ n → PL μ P k) ∧ (μ 6 = nR s ∧ μ 7 = nR r ∧ leN s ∧ leN r) ∧ (¬ μ 0 12 = 0 → TM (Gm μ P) tok n s)
def RWt (σ μ : Mem) : Prop := ∃ c, c ≤ 8000 ∧ σ 5 3 = nI c ∧ μ 0 14 = nI c ∧ ∀ i, i < c → σ 15 i = μ 8 i
def REL (tok : Nat → Nat) (σ μ : Mem) (P S n V T : Nat) (s r : Nat → Nat) : Prop := RA (Gm μ P) tok σ S n V T ∧ RM tok μ P n V T s r ∧ RWt σ μ
def RELX (σ μ : Mem) : Prop := ∃ tok P S n V T s r, REL tok σ μ P S n V T s r
section RL
variable {G : Grm} {tok : Nat → Nat} {σ μ : Mem} {P S n V T : Nat} {s r : Nat → Nat}
theorem GO_of {τ : Mem} (h : GO G σ S) (h1 : τ 1 = σ 1) (h6 : τ 6 = σ 6) (h7 : τ 7 = σ 7) (h8 : τ 8 = σ 8) (h9 : τ 9 = σ 9) : GO G τ S := by
  obtain ⟨a, b, c, d, e⟩ := h
  have e1 : gv τ = gv σ := by funext p; unfold gv; rw [h6]
  have e2 : gf τ = gf σ := by funext p; unfold gf; rw [h7]
  have e3 : gp τ = gp σ := by funext p; unfold gp; rw [h9]
  exact ⟨gS_of a h1 h6 h7 h8 h9, b, by rw [e1, e2]; exact c, d, by rw [e3, h8]; exact e⟩
theorem okE_of {τ : Mem} (h : okE G σ S n) (hF : SF G τ S) (hr : ∀ j, j < 9 → τ (j + 19) = σ (j + 19)) : okE G τ S n := by
  obtain ⟨-, b, c, d⟩ := h
  exact ⟨hF, fun j hj => by rw [hr j hj]; exact b j hj, c, fun j hj t o ht hb => d j hj t o ht (by rw [← hr j (by omega)]; exact hb)⟩
theorem CH_of {τ : Mem} (h : CH G tok n (XE G σ)) (hn : n < 9) (h7 : τ 7 = σ 7) (hr : ∀ j, j < 9 → τ (j + 19) = σ (j + 19)) : CH G tok n (XE G τ) := fun k hk => by
  have e : ∀ j, j ≤ n → XE G τ j = XE G σ j := fun j hj => XE_congr h7 (hr j (by omega))
  refine least_congr (Bs_congr (fun h0 p d o => by rw [e (k - 1) (by omega)])) (fun j hj p d o => by rw [e j (by omega)]) (fun p d o => by rw [e k hk]) (h k hk)
theorem eI_of {τ : Mem} (h : eI σ P S n V T) (h0 : τ 0 = σ 0) (ht : tS τ P S n) : eI τ P S n V T := by
  obtain ⟨-, a, b, c, d, e, f⟩ := h
  exact ⟨ht, a, b, c, by rw [h0]; exact d, e, by rw [h0]; exact f⟩
/-- after a change of the grammar -/
theorem gc_ok (h : GO G σ S) (hR : rows9 σ) : GO G (gcM G.1 S 0 σ) S ∧ okE G (gcM G.1 S 0 σ) S 0 ∧ CH G tok 0 (XE G (gcM G.1 S 0 σ)) ∧ TE G tok (gcM G.1 S 0 σ) S 0 ∧ gcM G.1 S 0 σ 5 3 = nI 0 := by
  have h0 : GO G (mset σ 5 3 (nI 0)) S := GO_of h (mset_n (by decide)) (mset_n (by decide)) (mset_n (by decide)) (mset_n (by decide)) (mset_n (by decide))
  have hR0 : rows9 (mset σ 5 3 (nI 0)) := fun j hj => by rw [mset_n (by omega)]; exact hR j hj
  obtain ⟨f1, f2⟩ := first_ok (tok := tok) (GO_SF h0) hR0
  have lo : ∀ q, q < 28 → gcM G.1 S 0 σ q = mfM G.1 S (mset σ 5 3 (nI 0)) q := fun q hq => upF_lo _ _ hq
  have lo2 : ∀ q, q < 28 → q ≠ 5 → q ≠ 12 → q ≠ 19 → gcM G.1 S 0 σ q = σ q := fun q a b c d => by rw [lo q a, mfM_n c d, mset_n b]
  have hGO : GO G (gcM G.1 S 0 σ) S := GO_of h (lo2 1 (by decide) (by decide) (by decide) (by decide)) (lo2 6 (by decide) (by decide) (by decide) (by decide)) (lo2 7 (by decide) (by decide) (by decide) (by decide)) (lo2 8 (by decide) (by decide) (by decide) (by decide)) (lo2 9 (by decide) (by decide) (by decide) (by decide))
  refine ⟨hGO, okE_of f1 (GO_SF hGO) (fun j hj => lo _ (by omega)), CH_of f2 (by decide) (lo 7 (by decide)) (fun j hj => lo _ (by omega)), ?_, ?_⟩
  · intro i j hij hj
    unfold gcM
    exact upF_ok (G := G) (tok := tok) (n := 0) (j := 0) (by decide) (Nat.le_refl _) (0 + 1) _ (by decide) f1.1.1 (fun i hi => absurd hi (Nat.not_lt_zero _)) (fun a b h1 h2 h3 => absurd h3 (by omega)) i j hij hj
  · rw [lo 5 (by decide), mfM_n (by decide) (by decide), mset_s]
theorem Dr_tok_iff {tok' : Nat → Nat} (ht : ∀ k, 1 ≤ k → k ≤ n → tok' k = tok k) {v i j m : Nat} (hj : j ≤ n) : Dr G tok' v i j m ↔ Dr G tok v i j m := ⟨Dr_tok ht hj, Dr_tok (fun k a b => (ht k a b).symm) hj⟩
theorem Lv_tok {tok' : Nat → Nat} (ht : ∀ k, 1 ≤ k → k ≤ n → tok' k = tok k) {v i j : Nat} (hj : j ≤ n) : Lv G tok' v i j = Lv G tok v i j := by
  unfold Lv; congr 1; funext m; exact propext (Dr_tok_iff ht hj)
theorem Rw_tok {tok tok' : Nat → Nat} (ht : ∀ k, 1 ≤ k → k ≤ n → tok' k = tok k) {ys : List Nat} {i j m : Nat} (hj : j ≤ n) (h : Rw (Sy tok' (Dr G tok')) ys i j m) : Rw (Sy tok (Dr G tok)) ys i j m := by
  refine Rw_mono (i0 := i) (j0 := j) (fun y i' k a h1 h2 h3 h4 => ?_) ys (Nat.le_refl _) (Nat.le_refl _) h
  by_cases hy : y < 6
  · rw [Sy_v hy] at h4 ⊢; exact Dr_tok ht (by omega) h4
  · rw [Sy_t hy] at h4 ⊢; exact ⟨h4.1, by rw [← ht k (by omega) (by omega)]; exact h4.2.1, h4.2.2⟩
theorem Lr_tok {tok' : Nat → Nat} (ht : ∀ k, 1 ≤ k → k ≤ n → tok' k = tok k) {ys : List Nat} {i j : Nat} (hj : j ≤ n) : Lr G tok' ys i j = Lr G tok ys i j := by
  unfold Lr; congr 1; funext m; exact propext ⟨Rw_tok ht hj, Rw_tok (fun k a b => (ht k a b).symm) hj⟩
/-- a token is fed: the class's side -/
theorem feed_ok {tok' : Nat → Nat} {x : Nat} (h : RA G tok σ S n V T) (hn : n < 8) (ht : ∀ k, 1 ≤ k → k ≤ n → tok' k = tok k) (hx : tok' (n + 1) = x) (hx1 : 100 ≤ x ∧ x < 200) : RA G tok' (feedE σ G.1 S n (nI x)) S (n + 1) V T ∧ feedE σ G.1 S n (nI x) 5 3 = nI 0 := by
  obtain ⟨h1, h2, h3, h4, h5, h6⟩ := h
  have fn : ∀ q, q ≠ 5 → q ≠ 10 → q ≠ 2 → fedE σ n (nI x) q = σ q := fun q a b c => fedE_n a b c
  have hGOf : GO G (fedE σ n (nI x)) S := GO_of h2 (fn 1 (by decide) (by decide) (by decide)) (fn 6 (by decide) (by decide) (by decide)) (fn 7 (by decide) (by decide) (by decide)) (fn 8 (by decide) (by decide) (by decide)) (fn 9 (by decide) (by decide) (by decide))
  have hok : okE G (fedE σ n (nI x)) S n := okE_of h4 (GO_SF hGOf) (fun j hj => fn _ (by omega) (by omega) (by omega))
  have hch : CH G tok n (XE G (fedE σ n (nI x))) := CH_of h5 (by omega) (fn 7 (by decide) (by decide) (by decide)) (fun j hj => fn _ (by omega) (by omega) (by omega))
  have hch' : CH G tok' n (XE G (fedE σ n (nI x))) := fun k hk => by
    refine least_congr (fun p d o => ?_) (fun j hj p d o => Iff.rfl) (fun p d o => Iff.rfl) (hch k hk)
    unfold Bs
    by_cases h0 : k = 0
    · simp [h0]
    · rw [ht k (by omega) hk]
  obtain ⟨g1, g2⟩ := next_ok (tok := tok') hok hn (by rw [hx]; exact hx1) hch'
  rw [hx] at g1 g2
  have eN : closeM (n + 1) G.1 S 1000 (mrow (fedE σ n (nI x)) (n + 1 + 19) (nextR (fedE σ n (nI x)) (n + 1) (nI x) (S - 1))) = nxE σ G.1 S n (nI x) := rfl
  rw [eN] at g1 g2
  have lo : ∀ q, q < 28 → feedE σ G.1 S n (nI x) q = nxE σ G.1 S n (nI x) q := fun q hq => feedE_n hq
  have lo2 : ∀ q, q < 19 → q ≠ 12 → feedE σ G.1 S n (nI x) q = fedE σ n (nI x) q := fun q a b => by rw [lo q (by omega), nxE_n b a]
  have hi2 : ∀ q, 28 ≤ q → nxE σ G.1 S n (nI x) q = σ q := fun q hq => by
    unfold nxE; rw [closeM_n (by omega) (by omega), mrow_n (by omega), fn q (by omega) (by omega) (by omega)]
  have hGO : GO G (feedE σ G.1 S n (nI x)) S := GO_of hGOf (lo2 1 (by decide) (by decide)) (lo2 6 (by decide) (by decide)) (lo2 7 (by decide) (by decide)) (lo2 8 (by decide) (by decide)) (lo2 9 (by decide) (by decide))
  have hTK' : TK (nxE σ G.1 S n (nI x)) tok' (n + 1) := fun i hi => by
    rw [nxE_n (by decide) (by decide)]
    by_cases e : i = n
    · subst e
      have : fedE σ i (nI x) 10 i = nI x := by unfold fedE; rw [mset_n (by decide), mset_s]
      rw [this, hx]; exact ⟨rfl, hx1⟩
    · have : fedE σ n (nI x) 10 i = σ 10 i := by unfold fedE; rw [mset_n (by decide), mset_i e, mset_n (by decide)]
      rw [this, ht (i + 1) (by omega) (by omega)]; exact h3 i (by omega)
  have hSEn : SE G (nxE σ G.1 S n (nI x)) S := g1.1.1
  have eRB : RB G (nxE σ G.1 S n (nI x)) = RB G σ := RB_of (by rw [nxE_n (by decide) (by decide), fn 7 (by decide) (by decide) (by decide)]) (by rw [nxE_n (by decide) (by decide), fn 9 (by decide) (by decide) (by decide)])
  refine ⟨⟨?_, hGO, fun i hi => by rw [lo 10 (by decide)]; exact hTK' i hi, okE_of g1 (GO_SF hGO) (fun j hj => lo _ (by omega)), CH_of g2 (by omega) (lo 7 (by decide)) (fun j hj => lo _ (by omega)), ?_⟩, ?_⟩
  · obtain ⟨a1, a2, a3, a4, a5, a6, a7⟩ := h1
    have e0 : feedE σ G.1 S n (nI x) 0 = σ 0 := by rw [lo2 0 (by decide) (by decide), fn 0 (by decide) (by decide) (by decide)]
    exact ⟨tS_feed a1.1 hn, a2, a3, a4, by rw [e0]; exact a5, a6, by rw [e0]; exact a7⟩
  · intro i j hij hj
    unfold feedE
    refine upF_ok (G := G) (tok := tok') (n := n + 1) (j := n + 1) (by omega) (Nat.le_refl _) (n + 1 + 1) _ (Nat.le_refl _) hSEn hTK' (fun a b q1 q2 q3 => ?_) i j hij hj
    have hb : b ≤ n := by omega
    obtain ⟨z1, z2⟩ := h6 a b q1 hb
    exact ⟨fun v hv => by rw [hi2 _ (by omega), Lv_tok ht hb]; exact z1 v hv, fun t ht' => by rw [hi2 _ (by omega), eRB, Lr_tok ht hb]; exact z2 t ht'⟩
  · rw [lo2 5 (by decide) (by decide)]
    unfold fedE; rw [mset_n (by decide), mset_n (by decide), mset_s]
/-! the model's side -/
theorem XM_congr {τ : Mem} {k : Nat} (h2 : τ 2 = μ 2) (h5 : ∀ j, 360 * k ≤ j → j < 360 * k + 360 → τ 5 j = μ 5 j) (hP : P ≤ 8) (hm : ∀ p, p < P → mn μ p ≤ 4) : ∀ p d o, XM τ P k p d o ↔ XM μ P k p d o := fun p d o => by
  have em : mn τ = mn μ := by funext q; unfold mn; rw [h2]
  unfold XM hX
  rw [em]
  have key : p < P → d ≤ mn μ p → o < 9 → τ 5 (ix k p d o) = μ 5 (ix k p d o) := fun a b c => h5 _ (by unfold ix; omega) (by have := hm p a; unfold ix; omega)
  constructor
  · rintro ⟨a, b, c, d⟩; exact ⟨a, b, c, by rw [← key a b c]; exact d⟩
  · rintro ⟨a, b, c, d⟩; exact ⟨a, b, c, by rw [key a b c]; exact d⟩
theorem PL_of {τ : Mem} {k : Nat} (h : PL μ P k) (h2 : τ 2 = μ 2) (h5 : ∀ j, 360 * k ≤ j → j < 360 * k + 360 → τ 5 j = μ 5 j) : PL τ P k := fun j a b c => by
  have em : mn τ = mn μ := by funext q; unfold mn; rw [h2]
  rw [h5 j a b] at c
  obtain ⟨p, d, o, q1, q2, q3, q4⟩ := h j a b c
  exact ⟨p, d, o, q1, by rw [em]; exact q2, q3, q4⟩
theorem PL_o {k : Nat} (hg : mG μ P) (hk : k < 9) (h : PL μ P k) {p d o : Nat} (hp : p < P) (hd : d ≤ mn μ p) (ho : o < 9) (hn : ¬ μ 5 (ix k p d o) = 0) : o ≤ k := by
  have := mG_m hg hp
  have := hg.1
  obtain ⟨p2, d2, o2, q1, q2, q3, q4⟩ := h (ix k p d o) (by unfold ix; omega) (by unfold ix; omega) hn
  have := mG_m hg q1
  unfold ix at q4; omega
/-- what the model's numbers are behind a filling -/
theorem filQ_rows {τ : Mem} {k : Nat} (h : filQ μ P k τ) : (∀ q, q ≠ 0 → q ≠ 5 → τ q = μ q) ∧ (∀ f, f ≠ 10 → f ≠ 12 → f ≠ 14 → τ 0 f = μ 0 f) ∧ τ 0 12 = nI 0 ∧ τ 0 14 = nI 0 := by
  refine ⟨fun q a b => filQ_n h a b, fun f a b c => ?_, ?_, ?_⟩
  · rw [filP_0 h a]; unfold mCh; rw [mset_i b, mset_i c]
  · rw [filP_0 h (by decide)]; unfold mCh; rw [mset_s]
  · rw [filP_0 h (by decide)]; unfold mCh; rw [mset_i (by decide), mset_s]
/-- set k is filled, the sets before it stand: the model's side -/
theorem fil_RM {τ : Mem} {k : Nat} (hg : mG μ P) (hk : k ≤ 8) (hb : bH (μ 5, μ 0 10)) (hk7 : μ 0 7 = nI k) (hV : V ≤ 6 ∧ μ 0 0 = nI V ∧ T ≤ 6 ∧ μ 0 1 = nI T) (hm : MK μ tok k) (hs : μ 6 = nR s ∧ μ 7 = nR r ∧ leN s ∧ leN r) (hlow : k ≠ 0 → CH (Gm μ P) tok (k - 1) (XM μ P) ∧ ∀ j, j < k → PL μ P j) (h : filQ μ P k τ) : RM tok τ P k V T s r := by
  obtain ⟨r1, r2, r3, -⟩ := filQ_rows h
  have hch : ∀ q, q ≠ 0 → mCh μ q = μ q := fun q hq => by unfold mCh; rw [mset_n hq, mset_n hq]
  have h0 : ∀ f, f ≠ 12 → f ≠ 14 → mCh μ 0 f = μ 0 f := fun f a b => by unfold mCh; rw [mset_i a, mset_i b]
  have hg' : mG (mCh μ) P := mG_ch hg
  have eG : Gm (mCh μ) P = Gm μ P := Gm_of (hch 1 (by decide)) (hch 2 (by decide)) (hch 3 (by decide))
  have eGτ : Gm τ P = Gm μ P := Gm_of (r1 1 (by decide) (by decide)) (r1 2 (by decide) (by decide)) (r1 3 (by decide) (by decide))
  have eX : ∀ j, XM (mCh μ) P j = XM μ P j := fun j => by
    funext p d o; unfold XM hX mn; rw [hch 2 (by decide), hch 5 (by decide)]
  have e5 : mCh μ 5 = μ 5 := hch 5 (by decide)
  obtain ⟨f1, f2, f3⟩ := fil_ok (tok := tok) hg' (show k < 9 by omega) (by rw [e5, h0 10 (by decide) (by decide)]; exact hb) (fun h0' => by rw [hch 4 (by decide)]; exact hm k (by omega) (Nat.le_refl _)) (fun j hj p d o hp hd ho hn => by
    have em : mn (mCh μ) = mn μ := by funext q; unfold mn; rw [hch 2 (by decide)]
    rw [em] at hd; rw [e5] at hn
    exact PL_o hg (by omega) ((hlow (by omega)).2 j hj) hp hd ho hn) h
  rw [eG, eX] at f1
  have f1' : leastX (Gm μ P) k (Bs (Gm μ P) tok k (XM μ P (k - 1))) (XM μ P) (XM τ P k) := least_congr (fun _ _ _ => Iff.rfl) (fun j _ p d o => by rw [eX j]) (fun _ _ _ => Iff.rfl) f1
  have hP := hg.1
  have f3' : ∀ j, (j < 360 * k ∨ 360 * k + 360 ≤ j) → τ 5 j = μ 5 j := fun j hj => by rw [f3 j hj, e5]
  have hbτ : bH (τ 5, τ 0 10) := f2.1
  refine ⟨⟨mG_of hg (r2 3 (by decide) (by decide) (by decide)) (r1 1 (by decide) (by decide)) (r1 2 (by decide) (by decide)) (r1 3 (by decide) (by decide)), hk, by rw [r2 7 (by decide) (by decide) (by decide)]; exact hk7, hbτ, hV.1, by rw [r2 0 (by decide) (by decide) (by decide)]; exact hV.2.1, hV.2.2.1, by rw [r2 1 (by decide) (by decide) (by decide)]; exact hV.2.2.2⟩, fun j a b => by rw [r1 4 (by decide) (by decide)]; exact hm j a b, ?_, fun j hj => ?_, ⟨by rw [r1 6 (by decide) (by decide)]; exact hs.1, by rw [r1 7 (by decide) (by decide)]; exact hs.2.1, hs.2.2⟩, fun q => absurd r3 q⟩
  · rw [eGτ]
    cases k with
    | zero =>
      intro j hj
      obtain rfl : j = 0 := by omega
      exact least_congr (Bs_congr (fun q => absurd rfl q)) (fun j hj => absurd hj (Nat.not_lt_zero _)) (fun _ _ _ => Iff.rfl) f1'
    | succ k =>
      refine CH_succ (hlow (by omega)).1 (fun _ _ _ => rfl) (fun j hj => ?_) f1'
      exact XM_congr (r1 2 (by decide) (by decide)) (fun i a b => f3' i (by omega)) hP (fun p hp => mG_m hg hp)
  · by_cases e : j = k
    · subst e
      intro i a b c
      obtain ⟨p, d, o, q1, q2, q3, q4⟩ := f2.2 i a b c
      have em : mn (mCh μ) = mn τ := by funext q; unfold mn; rw [hch 2 (by decide), r1 2 (by decide) (by decide)]
      exact ⟨p, d, o, q1, by rw [← em]; exact q2, q3, q4⟩
    · refine PL_of ((hlow (by omega)).2 j (by omega)) (r1 2 (by decide) (by decide)) (fun i a b => f3' i (by omega))
/-- the model's flag of a throw is free -/
theorem RM_of {τ : Mem} (h : RM tok μ P n V T s r) (hq : ∀ q, q ≠ 0 → q ≠ 8 → q ≠ 9 → τ q = μ q) (h0 : ∀ f, f ≠ 2 → f ≠ 14 → τ 0 f = μ 0 f) : RM tok τ P n V T s r := by
  obtain ⟨⟨a1, a2, a3, a4, a5, a6, a7, a8⟩, b, c, d, e, f⟩ := h
  have q1 := hq 1 (by decide) (by decide) (by decide)
  have q2 := hq 2 (by decide) (by decide) (by decide)
  have q3 := hq 3 (by decide) (by decide) (by decide)
  have q5 := hq 5 (by decide) (by decide) (by decide)
  have eG : Gm τ P = Gm μ P := Gm_of q1 q2 q3
  have eX : XM τ P = XM μ P := by funext k p d o; unfold XM hX mn; rw [q2, q5]
  refine ⟨⟨mG_of a1 (h0 3 (by decide) (by decide)) q1 q2 q3, a2, by rw [h0 7 (by decide) (by decide)]; exact a3, by rw [q5, h0 10 (by decide) (by decide)]; exact a4, a5, by rw [h0 0 (by decide) (by decide)]; exact a6, a7, by rw [h0 1 (by decide) (by decide)]; exact a8⟩, fun j x y => by rw [hq 4 (by decide) (by decide) (by decide)]; exact b j x y, by rw [eG, eX]; exact c, fun k hk => PL_of (d k hk) q2 (fun j _ _ => by rw [q5]), ⟨by rw [hq 6 (by decide) (by decide) (by decide)]; exact e.1, by rw [hq 7 (by decide) (by decide) (by decide)]; exact e.2.1, e.2.2⟩, ?_⟩
  rw [h0 12 (by decide) (by decide), eG]; exact f
theorem RWt_zero {σ' μ' : Mem} (h1 : σ' 5 3 = nI 0) (h2 : μ' 0 14 = nI 0) : RWt σ' μ' := ⟨0, by decide, h1, h2, fun i hi => absurd hi (Nat.not_lt_zero _)⟩
end RL
