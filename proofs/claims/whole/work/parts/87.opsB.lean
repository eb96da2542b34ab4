/-! the calls that change something -/
section OPB
variable {tok : Nat → Nat} {σ μ : Mem} {P S n V T : Nat} {s r : Nat → Nat}
theorem op_nullable {x b : Int32} {μ1 : Mem} (h : REL tok σ μ P S n V T s r) (hM : isVn V x = false ∧ b = nI 0 ∧ μ1 = mset (msr μ s r) 0 2 (nI 1) ∨ isVn V x = true ∧ ∃ κ s1 r1, wrkP (mset μ 0 2 (nI 0)) P n s r μ1 ∧ μ1 = msr κ s1 r1 ∧ leN s1 ∧ b = zb (decide (stN κ s1 x.toNatClampNeg 0 0 < 1000000))) :
    (∀ v σ1, (isVn V x = true ∧ v = zb (!decide (symS σ n x 0 0 = -1)) ∧ σ1 = σ) → μ1 0 2 = nI 0 ∧ v = b ∧ RELX σ1 μ1) ∧ (isVn V x = false → μ1 0 2 = nI 1 ∧ RELX σ μ1) := by
  rw [← rel_msr h] at hM
  have hV6 := h.2.1.1.2.2.2.2.1
  rcases hM with ⟨q1, q2, rfl⟩ | ⟨q1, κ, s1, r1, q3, q4, ql, q5⟩
  · exact ⟨(fun v σ1 w => by rw [q1] at w; cases w.1), fun _ => ⟨mset_s, relx_thr h⟩⟩
  · obtain ⟨κ', s', r', e1, hR, tm, h4, h2⟩ := rel_wrk h q3
    refine ⟨fun v σ1 w => ⟨h2, ?_, w.2.2 ▸ relx hR⟩, (fun w => by rw [q1] at w; cases w)⟩
    have hk4 : κ 4 = μ 4 := by
      have : κ 4 = μ1 4 := by rw [q4, msr_n (by decide) (by decide)]
      rw [this, e1, msr_n (by decide) (by decide), h4]
    have hs1 : s1 = s' := msr_inj (q4.symm.trans e1) ql (by have := hR.2.1.2.2.2.2.1.2.2.1; exact this)
    subst hs1
    obtain ⟨w1, w2⟩ := isVn_of hV6 q1
    have key := (sym_eq (κ := κ) (y := x.toNatClampNeg) (i := 0) (j := 0) h tm hk4 (Or.inl (by omega)) (Nat.le_refl _) (Nat.zero_le _)).2
    rw [w.2.1, q5]
    congr 1
    rw [← w1] at key
    by_cases e : symS σ n x 0 0 = -1
    · rw [decide_eq_true e, decide_eq_false (key.mp e)]; rfl
    · rw [decide_eq_false e, decide_eq_true (Decidable.not_not.mp (fun z => e (key.mpr z)))]; rfl
theorem op_clear (h : REL tok σ μ P S n V T s r) : RELX (mset (mset σ 2 1 (nI 0)) 5 3 (nI 0)) (mset (mset (mset (mset μ 0 2 (nI 0)) 0 7 (nI 0)) 0 14 (nI 0)) 0 12 (nI 0)) := by
  obtain ⟨⟨⟨a1, a2, a3, a4, a5, a6, a7⟩, g2, g3, g4, g5, g6⟩, ⟨⟨m1, m2, m3, m4, m5, m6, m7, m8⟩, b2, b3, b4, b5, b6⟩, -⟩ := h
  have hn9 := g4.2.2.1
  have sq : ∀ q, q ≠ 2 → q ≠ 5 → mset (mset σ 2 1 (nI 0)) 5 3 (nI 0) q = σ q := fun q a b => by rw [mset_n b, mset_n a]
  have uq : ∀ q, q ≠ 0 → mset (mset (mset (mset μ 0 2 (nI 0)) 0 7 (nI 0)) 0 14 (nI 0)) 0 12 (nI 0) q = μ q := fun q a => by rw [mset_n a, mset_n a, mset_n a, mset_n a]
  have u0 : ∀ f, f ≠ 2 → f ≠ 7 → f ≠ 14 → f ≠ 12 → mset (mset (mset (mset μ 0 2 (nI 0)) 0 7 (nI 0)) 0 14 (nI 0)) 0 12 (nI 0) 0 f = μ 0 f := fun f a b c d => by rw [mset_i d, mset_i c, mset_i b, mset_i a]
  have u7 : mset (mset (mset (mset μ 0 2 (nI 0)) 0 7 (nI 0)) 0 14 (nI 0)) 0 12 (nI 0) 0 7 = nI 0 := by rw [mset_i (by decide), mset_i (by decide), mset_s]
  have u14 : mset (mset (mset (mset μ 0 2 (nI 0)) 0 7 (nI 0)) 0 14 (nI 0)) 0 12 (nI 0) 0 14 = nI 0 := by rw [mset_i (by decide), mset_s]
  have u12 : mset (mset (mset (mset μ 0 2 (nI 0)) 0 7 (nI 0)) 0 14 (nI 0)) 0 12 (nI 0) 0 12 = nI 0 := mset_s
  generalize mset (mset (mset (mset μ 0 2 (nI 0)) 0 7 (nI 0)) 0 14 (nI 0)) 0 12 (nI 0) = τ at uq u0 u7 u14 u12
  have eG : Gm τ P = Gm μ P := Gm_of (uq 1 (by decide)) (uq 2 (by decide)) (uq 3 (by decide))
  have eX : XM τ P = XM μ P := by funext k p d o; unfold XM hX mn; rw [uq 2 (by decide), uq 5 (by decide)]
  have hGO : GO (Gm μ P) (mset (mset σ 2 1 (nI 0)) 5 3 (nI 0)) S := GO_of g2 (sq 1 (by decide) (by decide)) (sq 6 (by decide) (by decide)) (sq 7 (by decide) (by decide)) (sq 8 (by decide) (by decide)) (sq 9 (by decide) (by decide))
  have eRB : RB (Gm μ P) (mset (mset σ 2 1 (nI 0)) 5 3 (nI 0)) = RB (Gm μ P) σ := RB_of (sq 7 (by decide) (by decide)) (sq 9 (by decide) (by decide))
  refine ⟨tok, P, S, 0, V, T, s, r, ⟨⟨⟨by rw [eG]; exact hGO.1, by decide, by rw [mset_n (by decide), mset_s]⟩, by rw [eG]; exact a2, by rw [eG]; exact a3, a4, by rw [sq 0 (by decide) (by decide)]; exact a5, a6, by rw [sq 0 (by decide) (by decide)]; exact a7⟩, by rw [eG]; exact hGO, fun i hi => absurd hi (Nat.not_lt_zero _), ?_, ?_, ?_⟩, ⟨⟨mG_of m1 (u0 3 (by decide) (by decide) (by decide) (by decide)) (uq 1 (by decide)) (uq 2 (by decide)) (uq 3 (by decide)), by decide, u7, by rw [uq 5 (by decide), u0 10 (by decide) (by decide) (by decide) (by decide)]; exact m4, m5, by rw [u0 0 (by decide) (by decide) (by decide) (by decide)]; exact m6, m7, by rw [u0 1 (by decide) (by decide) (by decide) (by decide)]; exact m8⟩, fun j a b => absurd b (by omega), by rw [eG, eX]; exact CH_less b3 (Nat.zero_le _), fun k hk => PL_of (b4 k (by omega)) (uq 2 (by decide)) (fun j _ _ => by rw [uq 5 (by decide)]), ⟨by rw [uq 6 (by decide)]; exact b5.1, by rw [uq 7 (by decide)]; exact b5.2.1, b5.2.2⟩, fun q => absurd u12 q⟩, RWt_zero mset_s u14⟩
  · rw [eG]
    obtain ⟨z1, z2, z3, z4⟩ := okE_of g4 (GO_SF hGO) (fun j hj => sq _ (by omega) (by omega))
    exact ⟨z1, z2, by decide, fun j hj => z4 j (by omega)⟩
  · rw [eG]
    exact CH_less (CH_of g5 hn9 (sq 7 (by decide) (by decide)) (fun j hj => sq _ (by omega) (by omega))) (Nat.zero_le _)
  · rw [eG]
    intro i j hij hj
    obtain ⟨z1, z2⟩ := g6 i j hij (by omega)
    exact ⟨fun v hv => by rw [sq _ (by omega) (by omega)]; exact z1 v hv, fun t ht => by rw [sq _ (by omega) (by omega), eRB]; exact z2 t ht⟩
/-- a new grammar on both sides, nothing is fed -/
theorem rel_new {G' : Grm} {σ' μ' μ1 : Mem} {P' S' : Nat} (hGO : GO G' σ' S') (hR : rows9 σ') (hG : Gm μ' P' = G') (hS1 : P' ≤ S') (hS2 : S' ≤ P' + 16) (hV : V ≤ 6 ∧ σ' 0 0 = nI V ∧ T ≤ 6 ∧ σ' 0 1 = nI T) (h21 : σ' 2 1 = nI 0)
    (hg : mG μ' P') (hb : bH (μ' 5, μ' 0 10)) (hk7 : μ' 0 7 = nI 0) (hVm : μ' 0 0 = nI V ∧ μ' 0 1 = nI T) (hs : μ' 6 = nR s ∧ μ' 7 = nR r ∧ leN s ∧ leN r) (hf : filQ μ' P' 0 μ1) : REL tok (gcM P' S' 0 σ') μ1 P' S' 0 V T s r := by
  subst hG
  obtain ⟨r1, r2, r3, r4⟩ := filQ_rows hf
  have eG : Gm μ1 P' = Gm μ' P' := Gm_of (r1 1 (by decide) (by decide)) (r1 2 (by decide) (by decide)) (r1 3 (by decide) (by decide))
  obtain ⟨c1, c2, c3, c4, c5⟩ := gc_ok (tok := tok) hGO hR
  have c1 : GO (Gm μ' P') (gcM P' S' 0 σ') S' := c1
  have e0 : gcM P' S' 0 σ' 0 = σ' 0 := gcM_n (by decide) (by decide) (by decide)
  have e2 : gcM P' S' 0 σ' 2 = σ' 2 := gcM_n (by decide) (by decide) (by decide)
  have hRM : RM tok μ1 P' 0 V T s r := fil_RM hg (by decide) hb hk7 ⟨hV.1, hVm.1, hV.2.2.1, hVm.2⟩ (fun j a b => absurd b (by omega)) hs (fun q => absurd rfl q) hf
  refine ⟨?_, hRM, RWt_zero c5 r4⟩
  rw [eG]
  exact ⟨⟨⟨c1.1, by decide, by rw [e2]; exact h21⟩, hS1, hS2, hV.1, by rw [e0]; exact hV.2.1, hV.2.2.1, by rw [e0]; exact hV.2.2.2⟩, c1, fun i hi => absurd hi (Nat.not_lt_zero _), c2, c3, c4⟩
theorem Gm_mAdd {y : Nat} (hy : y < 6) (hP : P < 8) : (Gm (mAdd μ P (nI y)) (P + 1)).2.1 P = y ∧ (Gm (mAdd μ P (nI y)) (P + 1)).2.2 P = [] ∧ ∀ p, p < P → (Gm (mAdd μ P (nI y)) (P + 1)).2.1 p = ml μ p ∧ (Gm (mAdd μ P (nI y)) (P + 1)).2.2 p = (Gm μ P).2.2 p := by
  have e3 : mAdd μ P (nI y) 3 = μ 3 := by unfold mAdd; rw [mset_n (by decide), mset_n (by decide), mset_n (by decide), mset_n (by decide)]
  have e1 : mAdd μ P (nI y) 1 P = nI y := by unfold mAdd; rw [mset_n (by decide), mset_n (by decide), mset_s]
  have e2 : mAdd μ P (nI y) 2 P = nI 0 := by unfold mAdd; rw [mset_n (by decide), mset_s]
  refine ⟨?_, ?_, fun p hp => ⟨?_, ?_⟩⟩
  · show ml _ P = y
    unfold ml; rw [e1, nI_clamp (by omega)]
  · show (List.range (mn _ P)).map _ = []
    have : mn (mAdd μ P (nI y)) P = 0 := by unfold mn; rw [e2, nI_clamp (by decide)]
    rw [this]; rfl
  · show ml _ p = _
    unfold ml; rw [mAdd_lo (Or.inl rfl) (by omega)]
  · show (List.range (mn _ p)).map _ = (List.range (mn _ p)).map _
    have h1 : mn (mAdd μ P (nI y)) p = mn μ p := by unfold mn; rw [mAdd_lo (Or.inr rfl) (by omega)]
    have h2 : mr (mAdd μ P (nI y)) = mr μ := by funext i; unfold mr; rw [e3]
    rw [h1, h2]
theorem op_addProd {x b : Int32} {μ1 : Mem} (h : REL tok σ μ P S n V T s r) (hM : (0 < n ∨ 8 ≤ P) ∧ b = nI 0 ∧ μ1 = mset μ 0 2 (nI 1) ∨ ¬ (0 < n ∨ 8 ≤ P) ∧ isVn V x = false ∧ b = nI 0 ∧ μ1 = mset μ 0 2 (nI 2) ∨ ¬ (0 < n ∨ 8 ≤ P) ∧ isVn V x = true ∧ b = nI P ∧ filQ (mAdd μ P x) (P + 1) 0 μ1) :
    (∀ v σ1, (¬ (0 < n ∨ 8 ≤ P) ∧ isVn V x = true ∧ v = nI P ∧ σ1 = gcM (P + 1) (S + 1) n (addE σ P S x)) → μ1 0 2 = nI 0 ∧ v = b ∧ RELX σ1 μ1) ∧ ((0 < n ∨ 8 ≤ P) → μ1 0 2 = nI 1 ∧ RELX σ μ1) ∧ ((¬ (0 < n ∨ 8 ≤ P) ∧ isVn V x = false) → μ1 0 2 = nI 2 ∧ RELX σ μ1) := by
  rcases hM with ⟨q1, q2, rfl⟩ | ⟨q1, q2, q3, rfl⟩ | ⟨q1, q2, q3, q4⟩
  · exact ⟨fun v σ1 w => absurd q1 w.1, fun _ => ⟨mset_s, relx_thr h⟩, fun w => absurd q1 w.1⟩
  · exact ⟨(fun v σ1 w => by rw [q2] at w; cases w.2.1), fun w => absurd w q1, fun _ => ⟨mset_s, relx_thr h⟩⟩
  · refine ⟨fun v σ1 w => ?_, fun w => absurd w q1, (fun w => by rw [q2] at w; cases w.2)⟩
    obtain ⟨⟨⟨a1, a2, a3, a4, a5, a6, a7⟩, g2, g3, g4, g5, g6⟩, ⟨⟨m1, m2, m3, m4, m5, m6, m7, m8⟩, b2, b3, b4, b5, b6⟩, -⟩ := h
    obtain ⟨-, -, w3, w4⟩ := w
    have hn0 : n = 0 := by omega
    subst hn0
    have hP8 : P < 8 := by omega
    obtain ⟨x1, x2⟩ := isVn_of m5 q2
    generalize x.toNatClampNeg = y at x1 x2
    subst x1
    have a2' : P ≤ S := a2
    have a3' : S ≤ P + 16 := a3
    obtain ⟨e2, e3, e4⟩ := Gm_mAdd (μ := μ) (P := P) (y := y) (by omega) hP8
    have hGO := GO_add (G' := Gm (mAdd μ P (nI y)) (P + 1)) (y := y) g2 (show P < 8 by omega) (by omega) (by omega) rfl e2 e3 e4
    have eq : ∀ q, q ≠ 1 → q ≠ 6 → q ≠ 7 → q ≠ 8 → q ≠ 9 → addE σ P S (nI y) q = σ q := fun q z1 z6 z7 z8 z9 => by unfold addE; rw [mset_n z1, mset_n z9, mset_n z8, mset_n z1, mset_n z7, mset_n z6]
    have uq : ∀ q, q ≠ 0 → q ≠ 1 → q ≠ 2 → mAdd μ P (nI y) q = μ q := fun q z0 z1 z2 => by unfold mAdd; rw [mset_n z0, mset_n z2, mset_n z1, mset_n z0]
    have u0 : ∀ f, f ≠ 2 → f ≠ 3 → mAdd μ P (nI y) 0 f = μ 0 f := fun f z2 z3 => by unfold mAdd; rw [mset_i z3, mset_n (by decide), mset_n (by decide), mset_i z2]
    obtain ⟨r1, r2, r3, r4⟩ := filQ_rows q4
    refine ⟨?_, by rw [w3, q3], ?_⟩
    · rw [r2 2 (by decide) (by decide) (by decide)]; unfold mAdd; rw [mset_i (by decide), mset_n (by decide), mset_n (by decide), mset_s]
    · rw [w4]
      refine relx (tok := tok) (s := s) (r := r) (V := V) (T := T) (rel_new (G' := Gm (mAdd μ P (nI y)) (P + 1)) hGO (fun j hj => by rw [eq _ (by omega) (by omega) (by omega) (by omega) (by omega)]; exact g4.2.1 j hj) rfl (by omega) (by omega) ⟨a4, by rw [eq 0 (by decide) (by decide) (by decide) (by decide) (by decide)]; exact a5, a6, by rw [eq 0 (by decide) (by decide) (by decide) (by decide) (by decide)]; exact a7⟩ (by rw [eq 2 (by decide) (by decide) (by decide) (by decide) (by decide)]; exact a1.2.2) (mG_add m1 hP8 (by omega)) (bH_add m4) (by rw [u0 7 (by decide) (by decide)]; exact m3) ⟨by rw [u0 0 (by decide) (by decide)]; exact m6, by rw [u0 1 (by decide) (by decide)]; exact m8⟩ ⟨by rw [uq 6 (by decide) (by decide) (by decide)]; exact b5.1, by rw [uq 7 (by decide) (by decide) (by decide)]; exact b5.2.1, b5.2.2⟩ q4)
theorem Gm_mRhs {q y : Nat} (hL : mn μ q < 4) (hy : y < 200) : (Gm (mRhs μ q (mn μ q) (nI y)) P).2.2 q = (Gm μ P).2.2 q ++ [y] ∧ (∀ p, (Gm (mRhs μ q (mn μ q) (nI y)) P).2.1 p = ml μ p) ∧ ∀ p, p ≠ q → (∀ d, d < mn μ p → 4 * p + d ≠ 4 * q + mn μ q) → (Gm (mRhs μ q (mn μ q) (nI y)) P).2.2 p = (Gm μ P).2.2 p := by
  have h1 : mRhs μ q (mn μ q) (nI y) 1 = μ 1 := by unfold mRhs; rw [mset_n (by decide), mset_n (by decide), mset_n (by decide)]
  have r3 : ∀ i, i ≠ 4 * q + mn μ q → mRhs μ q (mn μ q) (nI y) 3 i = μ 3 i := fun i hi => by unfold mRhs; rw [mset_n (by decide), mset_i hi, mset_n (by decide)]
  have r3' : mRhs μ q (mn μ q) (nI y) 3 (4 * q + mn μ q) = nI y := by unfold mRhs; rw [mset_n (by decide), mset_s]
  have e2 : mRhs μ q (mn μ q) (nI y) 2 q = nI (mn μ q + 1) := mset_s
  have m2 : mn (mRhs μ q (mn μ q) (nI y)) q = mn μ q + 1 := by rw [mn, e2, nI_clamp (by omega)]
  refine ⟨?_, fun p => ?_, fun p hp hd => ?_⟩
  · show (List.range (mn _ q)).map _ = (List.range (mn _ q)).map _ ++ [y]
    rw [m2, List.range_succ, List.map_append]
    congr 1
    · refine List.map_congr_left (fun d hd => ?_)
      have := List.mem_range.mp hd
      unfold mr; rw [r3 _ (by omega)]
    · show [mr _ _] = [y]
      unfold mr; rw [r3', nI_clamp (by omega)]
  · show ml _ p = _
    unfold ml; rw [h1]
  · show (List.range (mn _ p)).map _ = (List.range (mn _ p)).map _
    have e2 : mRhs μ q (mn μ q) (nI y) 2 p = μ 2 p := by unfold mRhs; rw [mset_i hp, mset_n (by decide), mset_n (by decide)]
    have m2 : mn (mRhs μ q (mn μ q) (nI y)) p = mn μ p := by rw [mn, e2]; rfl
    rw [m2]
    refine List.map_congr_left (fun d hd' => ?_)
    unfold mr; rw [r3 _ (hd d (List.mem_range.mp hd'))]
abbrev rhsE (σ : Mem) (P S n : Nat) : Prop := 0 < n ∨ (decide (0 < P) && (decide (S - 1 - gf σ (P - 1) < 4) && decide (S - P < 16))) = false
theorem rhs_iff (h : GO (Gm μ P) σ S) : (rhsE σ P S n ↔ rhsC μ P n) ∧ (0 < P → S - gf σ (P - 1) = mn μ (P - 1) + 1 ∧ S = P + allN (mn μ) P) := by
  have hS := h.2.2.2.1
  have hS2 : S = P + allN (mn μ) P := by rw [hS]; exact offs_all h P
  have hl : 0 < P → S - gf σ (P - 1) = mn μ (P - 1) + 1 := fun hP => by
    rw [(h.2.2.1 (P - 1) (show P - 1 < P by omega)).2]
    have : offs (Gm μ P) P = offs (Gm μ P) (P - 1) + mn μ (P - 1) + 1 := by
      have e : P = (P - 1) + 1 := by omega
      have e2 : offs (Gm μ P) ((P - 1) + 1) = offs (Gm μ P) (P - 1) + mn μ (P - 1) + 1 := by rw [offs, Gm_len]
      rw [← e] at e2; exact e2
    have hS' : S = offs (Gm μ P) P := hS
    omega
  refine ⟨?_, fun hP => ⟨hl hP, hS2⟩⟩
  unfold rhsE rhsC
  by_cases hP : 0 < P
  · have := hl hP
    simp only [Bool.and_eq_false_iff, decide_eq_false_iff_not]
    omega
  · simp only [Bool.and_eq_false_iff, decide_eq_false_iff_not]
    omega
theorem op_addRhs {x b : Int32} {μ1 : Mem} (h : REL tok σ μ P S n V T s r) (hM : rhsC μ P n ∧ b = nI 0 ∧ μ1 = mset μ 0 2 (nI 1) ∨ ¬ rhsC μ P n ∧ isVn V x = false ∧ isTn T x = false ∧ b = nI 0 ∧ μ1 = mset μ 0 2 (nI 2) ∨ ¬ rhsC μ P n ∧ (isVn V x = true ∨ isTn T x = true) ∧ b = nI (mn μ (P - 1) + 1) ∧ filQ (mRhs μ (P - 1) (mn μ (P - 1)) x) P 0 μ1) :
    (∀ v σ1, (¬ rhsE σ P S n ∧ (isVn V x = true ∨ isTn T x = true) ∧ v = nI (S - gf σ (P - 1)) ∧ σ1 = gcM P (S + 1) n (appE σ P S x)) → μ1 0 2 = nI 0 ∧ v = b ∧ RELX σ1 μ1) ∧ (rhsE σ P S n → μ1 0 2 = nI 1 ∧ RELX σ μ1) ∧ ((¬ rhsE σ P S n ∧ isVn V x = false ∧ isTn T x = false) → μ1 0 2 = nI 2 ∧ RELX σ μ1) := by
  obtain ⟨hi, hj⟩ := rhs_iff (n := n) h.1.2.1
  rcases hM with ⟨q1, q2, rfl⟩ | ⟨q1, q2, q2', q3, rfl⟩ | ⟨q1, q2, q3, q4⟩
  · exact ⟨fun v σ1 w => absurd (hi.mpr q1) w.1, fun _ => ⟨mset_s, relx_thr h⟩, fun w => absurd (hi.mpr q1) w.1⟩
  · refine ⟨fun v σ1 w => ?_, fun w => absurd (hi.mp w) q1, fun _ => ⟨mset_s, relx_thr h⟩⟩
    rcases w.2.1 with z | z
    · rw [q2] at z; cases z
    · rw [q2'] at z; cases z
  · refine ⟨fun v σ1 w => ?_, fun w => absurd (hi.mp w) q1, fun w => ?_⟩
    · obtain ⟨⟨⟨a1, a2, a3, a4, a5, a6, a7⟩, g2, g3, g4, g5, g6⟩, ⟨⟨m1, m2, m3, m4, m5, m6, m7, m8⟩, b2, b3, b4, b5, b6⟩, -⟩ := h
      obtain ⟨-, -, w3, w4⟩ := w
      have q1' := q1
      unfold rhsC at q1'
      have hn0 : n = 0 := by omega
      subst hn0
      have hP0 : 0 < P := by omega
      have hL : mn μ (P - 1) < 4 := by omega
      obtain ⟨j1, j2⟩ := hj hP0
      have hP8 := m1.1
      have hx : x = nI x.toNatClampNeg ∧ (x.toNatClampNeg < 6 ∨ (100 ≤ x.toNatClampNeg ∧ x.toNatClampNeg < 106)) := by
        rcases q2 with z | z
        · obtain ⟨x1, x2⟩ := isVn_of m5 z; exact ⟨x1, Or.inl (by omega)⟩
        · obtain ⟨x1, x2, x3⟩ := isTn_of m7 z; exact ⟨x1, Or.inr (by omega)⟩
      obtain ⟨x1, x2⟩ := hx
      generalize x.toNatClampNeg = y at x1 x2
      subst x1
      have a2' : P ≤ S := a2
      have a3' : S ≤ P + 16 := a3
      obtain ⟨e3, e2, e4⟩ := Gm_mRhs (μ := μ) (P := P) (q := P - 1) (y := y) hL (by omega)
      have hGO := GO_app (G' := Gm (mRhs μ (P - 1) (mn μ (P - 1)) (nI y)) P) (y := y) g2 hP0 (by omega) x2 (by rw [Gm_len]; exact hL) rfl (fun p _ => e2 p) e3 (fun p hp => e4 p (by have hp' : p < P - 1 := hp; omega) (fun d hd => by
        have hp' : p < P - 1 := hp
        have := mG_m m1 (show p < P by omega)
        omega))
      have eq : ∀ q, q ≠ 1 → q ≠ 8 → q ≠ 9 → appE σ P S (nI y) q = σ q := fun q z1 z8 z9 => by unfold appE; rw [mset_n z1, mset_n z9, mset_n z8, mset_n z8]
      have uq : ∀ q, q ≠ 0 → q ≠ 3 → q ≠ 2 → mRhs μ (P - 1) (mn μ (P - 1)) (nI y) q = μ q := fun q z0 z1 z2 => by unfold mRhs; rw [mset_n z2, mset_n z1, mset_n z0]
      have u0 : ∀ f, f ≠ 2 → mRhs μ (P - 1) (mn μ (P - 1)) (nI y) 0 f = μ 0 f := fun f z2 => by unfold mRhs; rw [mset_n (by decide), mset_n (by decide), mset_i z2]
      obtain ⟨r1, r2, r3, r4⟩ := filQ_rows q4
      refine ⟨?_, by rw [w3, q3, j1], ?_⟩
      · rw [r2 2 (by decide) (by decide) (by decide)]; unfold mRhs; rw [mset_n (by decide), mset_n (by decide), mset_s]
      · rw [w4]
        refine relx (tok := tok) (s := s) (r := r) (V := V) (T := T) (rel_new (G' := Gm (mRhs μ (P - 1) (mn μ (P - 1)) (nI y)) P) hGO (fun j hj => by rw [eq _ (by omega) (by omega) (by omega)]; exact g4.2.1 j hj) rfl (by omega) (by omega) ⟨a4, by rw [eq 0 (by decide) (by decide) (by decide)]; exact a5, a6, by rw [eq 0 (by decide) (by decide) (by decide)]; exact a7⟩ (by rw [eq 2 (by decide) (by decide) (by decide)]; exact a1.2.2) (mG_rhs m1 (by omega) hL x2) (bH_rhs m4) (by rw [u0 7 (by decide)]; exact m3) ⟨by rw [u0 0 (by decide)]; exact m6, by rw [u0 1 (by decide)]; exact m8⟩ ⟨by rw [uq 6 (by decide) (by decide) (by decide)]; exact b5.1, by rw [uq 7 (by decide) (by decide) (by decide)]; exact b5.2.1, b5.2.2⟩ q4)
    · rcases q2 with z | z
      · rw [w.2.1] at z; cases z
      · rw [w.2.2] at z; cases z
theorem op_erase {μ1 : Mem} (h : REL tok σ μ P S n V T s r) (hf : filQ (mset (mset (mset μ 0 2 (nI 0)) 0 7 (nI 0)) 0 3 (nI 0)) 0 0 μ1) : RELX (gcM 0 0 0 (mset (mset (mset σ 2 1 (nI 0)) 1 4 (nI 0)) 1 5 (nI 0))) μ1 := by
  obtain ⟨⟨⟨a1, a2, a3, a4, a5, a6, a7⟩, g2, g3, g4, g5, g6⟩, ⟨⟨m1, m2, m3, m4, m5, m6, m7, m8⟩, b2, b3, b4, b5, b6⟩, -⟩ := h
  have sq : ∀ q, q ≠ 2 → q ≠ 1 → mset (mset (mset σ 2 1 (nI 0)) 1 4 (nI 0)) 1 5 (nI 0) q = σ q := fun q a b => by rw [mset_n b, mset_n b, mset_n a]
  have uq : ∀ q, q ≠ 0 → mset (mset (mset μ 0 2 (nI 0)) 0 7 (nI 0)) 0 3 (nI 0) q = μ q := fun q a => by rw [mset_n a, mset_n a, mset_n a]
  have u0 : ∀ f, f ≠ 2 → f ≠ 7 → f ≠ 3 → mset (mset (mset μ 0 2 (nI 0)) 0 7 (nI 0)) 0 3 (nI 0) 0 f = μ 0 f := fun f a b c => by rw [mset_i c, mset_i b, mset_i a]
  have hGO : GO (Gm (mset (mset (mset μ 0 2 (nI 0)) 0 7 (nI 0)) 0 3 (nI 0)) 0) (mset (mset (mset σ 2 1 (nI 0)) 1 4 (nI 0)) 1 5 (nI 0)) 0 :=
    ⟨⟨Nat.zero_le 8, by decide, by rw [mset_i (by decide), mset_s]; rfl, mset_s, fun p hp => absurd hp (Nat.not_lt_zero _), fun t ht => absurd ht (Nat.not_lt_zero _), fun t ht => absurd ht (Nat.not_lt_zero _)⟩, ⟨Nat.zero_le 8, fun p hp => absurd hp (Nat.not_lt_zero _)⟩, fun p hp => absurd hp (Nat.not_lt_zero _), rfl, fun p hp => absurd hp (Nat.not_lt_zero _)⟩
  exact relx (tok := tok) (s := s) (r := r) (V := V) (T := T) (rel_new hGO (fun j hj => by rw [sq _ (by omega) (by omega)]; exact g4.2.1 j hj) rfl (by decide) (by decide) ⟨a4, by rw [sq 0 (by decide) (by decide)]; exact a5, a6, by rw [sq 0 (by decide) (by decide)]; exact a7⟩ (by rw [mset_n (by decide), mset_n (by decide), mset_s]) ⟨by decide, mset_s, fun p hp => absurd hp (Nat.not_lt_zero _)⟩ (by rw [uq 5 (by decide), u0 10 (by decide) (by decide) (by decide)]; exact m4) (by rw [mset_i (by decide), mset_s]) ⟨by rw [u0 0 (by decide) (by decide) (by decide)]; exact m6, by rw [u0 1 (by decide) (by decide) (by decide)]; exact m8⟩ ⟨by rw [uq 6 (by decide)]; exact b5.1, by rw [uq 7 (by decide)]; exact b5.2.1, b5.2.2⟩ hf)
theorem op_feed {x b : Int32} {μ1 : Mem} (h : REL tok σ μ P S n V T s r) (hM : (P = 0 ∨ 8 ≤ n) ∧ b = nI 0 ∧ μ1 = mset μ 0 2 (nI 1) ∨ ¬ (P = 0 ∨ 8 ≤ n) ∧ isTn T x = false ∧ b = nI 0 ∧ μ1 = mset μ 0 2 (nI 2) ∨ ¬ (P = 0 ∨ 8 ≤ n) ∧ isTn T x = true ∧ b = nI (cntH (μ1 5) (360 * (n + 1)) 360) ∧ filQ (mFed μ n x) P (n + 1) μ1) :
    (∀ v σ1, (¬ (P = 0 ∨ 8 ≤ n) ∧ isTn T x = true ∧ v = sizF ((feedE σ P S n x) (n + 1 + 19)) S ∧ σ1 = feedE σ P S n x) → μ1 0 2 = nI 0 ∧ v = b ∧ RELX σ1 μ1) ∧ ((P = 0 ∨ 8 ≤ n) → μ1 0 2 = nI 1 ∧ RELX σ μ1) ∧ ((¬ (P = 0 ∨ 8 ≤ n) ∧ isTn T x = false) → μ1 0 2 = nI 2 ∧ RELX σ μ1) := by
  rcases hM with ⟨q1, q2, rfl⟩ | ⟨q1, q2, q3, rfl⟩ | ⟨q1, q2, q3, q4⟩
  · exact ⟨fun v σ1 w => absurd q1 w.1, fun _ => ⟨mset_s, relx_thr h⟩, fun w => absurd q1 w.1⟩
  · exact ⟨(fun v σ1 w => by rw [q2] at w; cases w.2.1), fun w => absurd w q1, fun _ => ⟨mset_s, relx_thr h⟩⟩
  · refine ⟨fun v σ1 w => ?_, fun w => absurd w q1, (fun w => by rw [q2] at w; cases w.2)⟩
    obtain ⟨hA, ⟨⟨m1, m2, m3, m4, m5, m6, m7, m8⟩, b2, b3, b4, b5, b6⟩, -⟩ := h
    obtain ⟨-, -, w3, w4⟩ := w
    obtain ⟨x1, x2, x3⟩ := isTn_of m7 q2
    generalize x.toNatClampNeg = y at x1 x2 x3
    subst x1
    obtain ⟨r1, r2, r3, r4⟩ := filQ_rows q4
    have eq : ∀ q, q ≠ 0 → q ≠ 4 → mFed μ n (nI y) q = μ q := fun q a b => by unfold mFed; rw [mset_n b, mset_n a, mset_n a]
    have e0 : ∀ f, f ≠ 2 → f ≠ 7 → mFed μ n (nI y) 0 f = μ 0 f := fun f a b => by unfold mFed; rw [mset_n (by decide), mset_i b, mset_i a]
    have e07 : mFed μ n (nI y) 0 7 = nI (n + 1) := by unfold mFed; rw [mset_n (by decide), mset_s]
    have e02 : mFed μ n (nI y) 0 2 = nI 0 := by unfold mFed; rw [mset_n (by decide), mset_i (by decide), mset_s]
    have e4 : ∀ j, mFed μ n (nI y) 4 j = if j = n + 1 then nI y else μ 4 j := fun j => by
      unfold mFed
      by_cases e : j = n + 1
      · rw [if_pos e, e, mset_s]
      · rw [if_neg e, mset_i e, mset_n (by decide), mset_n (by decide)]
    have eG : Gm (mFed μ n (nI y)) P = Gm μ P := Gm_of (eq 1 (by decide) (by decide)) (eq 2 (by decide) (by decide)) (eq 3 (by decide) (by decide))
    have eG1 : Gm μ1 P = Gm μ P := by rw [← eG]; exact Gm_of (r1 1 (by decide) (by decide)) (r1 2 (by decide) (by decide)) (r1 3 (by decide) (by decide))
    have eX : XM (mFed μ n (nI y)) P = XM μ P := by funext k p d o; unfold XM hX mn; rw [eq 2 (by decide) (by decide), eq 5 (by decide) (by decide)]
    have hag : ∀ k, 1 ≤ k → k ≤ n → (fun k => if k = n + 1 then y else tok k) k = tok k := fun k a b => if_neg (by omega)
    have htn : (fun k => if k = n + 1 then y else tok k) (n + 1) = y := if_pos rfl
    obtain ⟨f1, f2⟩ := feed_ok (tok' := fun k => if k = n + 1 then y else tok k) (x := y) hA (by omega) hag htn (by omega)
    have hRM : RM (fun k => if k = n + 1 then y else tok k) μ1 P (n + 1) V T s r := by
      refine fil_RM (mG_fed m1) (by omega) (bH_fed m4) e07 ⟨m5, by rw [e0 0 (by decide) (by decide)]; exact m6, m7, by rw [e0 1 (by decide) (by decide)]; exact m8⟩ (fun j a b => ?_) ⟨by rw [eq 6 (by decide) (by decide)]; exact b5.1, by rw [eq 7 (by decide) (by decide)]; exact b5.2.1, b5.2.2⟩ (fun _ => ⟨?_, fun j hj => PL_of (b4 j (by omega)) (eq 2 (by decide) (by decide)) (fun i _ _ => by rw [eq 5 (by decide) (by decide)])⟩) q4
      · rw [e4]
        by_cases e : j = n + 1
        · simp only [if_pos e]; exact ⟨trivial, by omega, by omega⟩
        · simp only [if_neg e]; exact b2 j a (by omega)
      · rw [eG, eX, Nat.add_sub_cancel]
        intro k hk
        refine least_congr (fun p d o => ?_) (fun j hj p d o => Iff.rfl) (fun p d o => Iff.rfl) (b3 k hk)
        unfold Bs
        by_cases h0 : k = 0
        · simp [h0]
        · rw [hag k (by omega) hk]
    have hREL : REL (fun k => if k = n + 1 then y else tok k) (feedE σ P S n (nI y)) μ1 P S (n + 1) V T s r := ⟨by rw [eG1]; exact f1, hRM, RWt_zero f2 r4⟩
    refine ⟨by rw [r2 2 (by decide) (by decide) (by decide)]; exact e02, ?_, w4 ▸ relx hREL⟩
    rw [w3, q3]; exact (rel_siz hREL (Nat.le_refl _)).1
end OPB
