/-! every call keeps the relation, and the answers are the same -/
abbrev jISE : String := "java/lang/IllegalStateException"
abbrev jIAE : String := "java/lang/IllegalArgumentException"
abbrev jIOE : String := "java/lang/IndexOutOfBoundsException"
abbrev jNSE : String := "java/util/NoSuchElementException"
section OPS
variable {tok : Nat → Nat} {σ μ : Mem} {P S n V T : Nat} {s r : Nat → Nat}
theorem rel_of {τ : Mem} (h : REL tok σ μ P S n V T s r) (hq : ∀ q, q ≠ 0 → τ q = μ q) (h0 : ∀ f, f ≠ 2 → τ 0 f = μ 0 f) : REL tok σ τ P S n V T s r := by
  obtain ⟨h1, h2, c, h3, h4, h5, h6⟩ := h
  have eG : Gm τ P = Gm μ P := Gm_of (hq 1 (by decide)) (hq 2 (by decide)) (hq 3 (by decide))
  exact ⟨by rw [eG]; exact h1, RM_of h2 (fun q a _ _ => hq q a) (fun f a _ => h0 f a), c, h3, h4, by rw [h0 14 (by decide)]; exact h5, fun i hi => by rw [hq 8 (by decide)]; exact h6 i hi⟩
theorem rel_thr {x : Int32} (h : REL tok σ μ P S n V T s r) : REL tok σ (mset μ 0 2 x) P S n V T s r := rel_of h (fun q hq => mset_n hq) (fun f hf => mset_i hf)
theorem relx (h : REL tok σ μ P S n V T s r) : RELX σ μ := ⟨tok, P, S, n, V, T, s, r, h⟩
theorem relx_thr {x : Int32} (h : REL tok σ μ P S n V T s r) : RELX σ (mset μ 0 2 x) := relx (rel_thr h)
theorem rel_sets (h : REL tok σ μ P S n V T s r) {k : Nat} (hk : k ≤ n) : sameI (Gm μ P) (σ (k + 19)) (μ 5) (360 * k) ∧ gR (σ (k + 19)) := by
  obtain ⟨⟨a1, a2, a3, a4, a5, a6⟩, ⟨b1, b2, b3, b4, b5, b6⟩, -⟩ := h
  have hn := a4.2.2.1
  exact ⟨same_of (by omega) a2 b1.1 (b4 k hk) (a4.2.1 k (by omega)) (CH_uniq a5 b3 k hk), a4.2.1 k (by omega)⟩
theorem rel_siz (h : REL tok σ μ P S n V T s r) {k : Nat} (hk : k ≤ n) : sizF (σ (k + 19)) S = nI (cntH (μ 5) (360 * k) 360) ∧ szN (σ (k + 19)) S = cntH (μ 5) (360 * k) 360 := by
  obtain ⟨h1, h2⟩ := rel_sets h hk
  have hS := h.1.2.1.2.2.2.1
  have h24 := sl_24 (GO_SF h.1.2.1)
  have e : szN (σ (k + 19)) S = cntH (μ 5) (360 * k) 360 := by rw [cnt_all h.1.2.1.2.1 h1]; exact congrArg _ hS
  exact ⟨by rw [sizF_eq h2 S h24, e], e⟩
theorem rel_acc (h : REL tok σ μ P S n V T s r) : holdF σ (σ (n + 19)) S = accF μ n P := by
  obtain ⟨h1, h2⟩ := rel_sets h (Nat.le_refl n)
  have hi := hold_iff h.1.2.1 h2
  have ha := acc_iff (μ := μ) (n := n) P
  have key : holdF σ (σ (n + 19)) S = true ↔ accF μ n P = true := by
    rw [hi, ha]
    constructor
    · rintro ⟨p, q1, q2, q3⟩
      refine ⟨p, q1, q2, ?_⟩
      have := (h1.1 p _ 0 q1 (Nat.le_refl _) (by decide)).mpr q3
      rw [Gm_len] at this
      rw [show ix n p (mn μ p) 0 = 360 * n + (45 * p + 9 * mn μ p + 0) by unfold ix; omega]; exact this
    · rintro ⟨p, q1, q2, q3⟩
      refine ⟨p, q1, q2, (h1.1 p _ 0 q1 (Nat.le_refl _) (by decide)).mp ?_⟩
      rw [Gm_len, show 360 * n + (45 * p + 9 * mn μ p + 0) = ix n p (mn μ p) 0 by unfold ix; omega]; exact q3
  cases h3 : holdF σ (σ (n + 19)) S <;> cases h4 : accF μ n P
  · rfl
  · exact absurd (key.mpr h4) (by rw [h3]; decide)
  · exact absurd (key.mp h3) (by rw [h4]; decide)
  · rfl
theorem offs_all (h : GO (Gm μ P) σ S) : ∀ p, offs (Gm μ P) p = p + allN (mn μ) p
  | 0 => rfl
  | p + 1 => by rw [offs, allN, offs_all h p, Gm_len]; omega
/-! queries -/
theorem op_alive (h : REL tok σ μ P S n V T s r) : zb (!decide (sizF (σ (n + 19)) S ≤ 0)) = zb (decide (0 < cntH (μ 5) (360 * n) 360)) := by
  obtain ⟨e, -⟩ := rel_siz h (Nat.le_refl n)
  have hc := cntH_le (f := μ 5) (b := 360 * n) 360
  rw [e]
  congr 1
  by_cases q : 0 < cntH (μ 5) (360 * n) 360
  · rw [decide_eq_true q, decide_eq_false (fun z => by have := (nI_leI (b := 0) (by omega) (by decide)).mp z; omega)]; rfl
  · rw [decide_eq_false q, decide_eq_true (by rw [show cntH (μ 5) (360 * n) 360 = 0 by omega]; decide)]; rfl
theorem op_items {x b : Int32} {μ1 : Mem} (h : REL tok σ μ P S n V T s r) (hM : isKn n x = false ∧ b = nI 0 ∧ μ1 = mset μ 0 2 (nI 1) ∨ isKn n x = true ∧ b = nI (cntH (μ 5) (360 * x.toNatClampNeg) 360) ∧ μ1 = mset μ 0 2 (nI 0)) :
    (∀ v σ1, (isKn n x = true ∧ v = sizF (σ (x.toNatClampNeg + 19)) S ∧ σ1 = σ) → μ1 0 2 = nI 0 ∧ v = b ∧ RELX σ1 μ1) ∧ ((isKn n x = false ∧ jIOE = jIOE) → μ1 0 2 = nI 1 ∧ RELX σ μ1) := by
  have hn := h.2.1.1.2.1
  rcases hM with ⟨q1, q2, rfl⟩ | ⟨q1, q2, rfl⟩
  · exact ⟨(fun v σ1 z => by rw [q1] at z; cases z.1), fun _ => ⟨mset_s, relx_thr h⟩⟩
  · refine ⟨fun v σ1 z => ⟨mset_s, ?_, z.2.2 ▸ relx_thr h⟩, fun z => by rw [q1] at z; cases z.1⟩
    obtain ⟨-, hk⟩ := isKn_t hn q1
    rw [z.2.1, q2, (rel_siz h hk).1]
theorem op_item {x z b : Int32} {μ1 : Mem} (h : REL tok σ μ P S n V T s r) (hM : ¬ (¬ x < 0 ∧ ¬ nI n < x ∧ ¬ z < 0 ∧ ¬ nI (cntH (μ 5) (360 * x.toNatClampNeg) 360) ≤ z) ∧ b = nI 0 ∧ μ1 = mset μ 0 2 (nI 1) ∨ (¬ x < 0 ∧ ¬ nI n < x ∧ ¬ z < 0 ∧ ¬ nI (cntH (μ 5) (360 * x.toNatClampNeg) 360) ≤ z) ∧ ∃ a, itP (μ 5) (360 * x.toNatClampNeg) z.toNatClampNeg a ∧ b = nI (1000 * (a / 45) + 100 * (a / 9 % 5) + a % 9) ∧ μ1 = mset μ 0 2 (nI 0)) :
    (∀ v σ1, ((isKn n x = true ∧ ¬ z < 0 ∧ z < sizF (σ (x.toNatClampNeg + 19)) S) ∧ v = codeF σ (σ (x.toNatClampNeg + 19)) S 0 z ∧ σ1 = σ) → μ1 0 2 = nI 0 ∧ v = b ∧ RELX σ1 μ1) ∧ ((¬ (isKn n x = true ∧ ¬ z < 0 ∧ z < sizF (σ (x.toNatClampNeg + 19)) S) ∧ jIOE = jIOE) → μ1 0 2 = nI 1 ∧ RELX σ μ1) := by
  have hn := h.2.1.1.2.1
  have hcond : (isKn n x = true ∧ ¬ z < 0 ∧ z < sizF (σ (x.toNatClampNeg + 19)) S) ↔ (¬ x < 0 ∧ ¬ nI n < x ∧ ¬ z < 0 ∧ ¬ nI (cntH (μ 5) (360 * x.toNatClampNeg) 360) ≤ z) := by
    constructor
    · rintro ⟨q1, q2, q3⟩
      obtain ⟨-, hk⟩ := isKn_t hn q1
      rw [(rel_siz h hk).1] at q3
      refine ⟨fun w => by simp [isKn, w] at q1, fun w => by simp [isKn, w] at q1, q2, Int32.not_le.mpr q3⟩
    · rintro ⟨q1, q2, q3, q4⟩
      have q5 : isKn n x = true := by simp [isKn, q1, q2]
      obtain ⟨-, hk⟩ := isKn_t hn q5
      rw [(rel_siz h hk).1]
      exact ⟨q5, q3, Int32.not_le.mp q4⟩
  rcases hM with ⟨q1, q2, rfl⟩ | ⟨q1, a, q2, q3, rfl⟩
  · exact ⟨fun v σ1 w => absurd (hcond.mp w.1) q1, fun _ => ⟨mset_s, relx_thr h⟩⟩
  · refine ⟨fun v σ1 w => ⟨mset_s, ?_, w.2.2 ▸ relx_thr h⟩, fun w => absurd (hcond.mpr q1) w.1⟩
    obtain ⟨w1, w2, w3⟩ := w.1
    obtain ⟨-, hk⟩ := isKn_t hn w1
    obtain ⟨c1, c2⟩ := rel_siz h hk
    obtain ⟨c3, c4⟩ := rel_sets h hk
    obtain ⟨i, hi, rfl⟩ := nI_of w2
    rw [nI_clamp hi] at q2
    have hlt : i < szN (σ (x.toNatClampNeg + 19)) S := by
      rw [c1] at w3
      have := cntH_le (f := μ 5) (b := 360 * x.toNatClampNeg) 360
      rw [c2]; exact (nI_ltI hi (by omega)).mp w3
    have hc := code_at h.1.2.1 c4 c3 hlt q2 S 0 (by omega) (Nat.zero_le _)
    rw [w.2.1, q3]
    have e0 : szN (σ (x.toNatClampNeg + 19)) 0 = 0 := rfl
    rw [e0, Nat.sub_zero] at hc
    exact hc
theorem op_wit {c : Nat} {x b : Int32} {μ1 : Mem} (h : REL tok σ μ P S n V T s r) (hc : c ≤ 8000) (h3 : σ 5 3 = nI c) (h14 : μ 0 14 = nI c) (hM : isVn c x = false ∧ b = nI 0 ∧ μ1 = mset μ 0 2 (nI 1) ∨ isVn c x = true ∧ b = μ 8 x.toNatClampNeg ∧ μ1 = mset μ 0 2 (nI 0)) :
    (∀ v σ1, (¬ (x < 0 ∨ ¬ x < nI c) ∧ v = σ 15 x.toNatClampNeg ∧ σ1 = σ) → μ1 0 2 = nI 0 ∧ v = b ∧ RELX σ1 μ1) ∧ (((x < 0 ∨ ¬ x < nI c) ∧ jIOE = jIOE) → μ1 0 2 = nI 1 ∧ RELX σ μ1) := by
  have hcond : isVn c x = true ↔ ¬ (x < 0 ∨ ¬ x < nI c) := by
    unfold isVn
    simp only [Bool.and_eq_true, Bool.not_eq_true', decide_eq_false_iff_not, not_or, Decidable.not_not]
    rw [Int32.not_le]
  rcases hM with ⟨q1, q2, rfl⟩ | ⟨q1, q2, rfl⟩
  · exact ⟨(fun v σ1 z => by rw [hcond.mpr z.1] at q1; cases q1), fun _ => ⟨mset_s, relx_thr h⟩⟩
  · refine ⟨fun v σ1 z => ⟨mset_s, ?_, z.2.2 ▸ relx_thr h⟩, fun z => absurd z.1 (hcond.mp q1)⟩
    obtain ⟨c', w1, w2, w3, w4⟩ := h.2.2
    rw [h3] at w2
    have e := (nI_eq (by omega) (by omega)).mp w2
    subst e
    have z1 := hcond.mp q1
    obtain ⟨-, hlt⟩ := isVn_of2 hc (fun w => z1 (Or.inl w)) (Decidable.not_not.mp (fun w => z1 (Or.inr w)))
    rw [z.2.1, q2]; exact w4 _ hlt
/-! steps -/
theorem rel_msr (h : REL tok σ μ P S n V T s r) : μ = msr μ s r := msr_id h.2.1.2.2.2.2.1.1 h.2.1.2.2.2.2.1.2.1
theorem rel_mJ (h : REL tok σ μ P S n V T s r) : mJ μ P n V T s r := ⟨by rw [← rel_msr h]; exact h.2.1.1, h.2.1.2.2.2.2.1.2.2.1, h.2.1.2.2.2.2.1.2.2.2⟩
/-- behind work() the relation stands -/
theorem rel_wrk {τ : Mem} (h : REL tok σ μ P S n V T s r) (hw : wrkP (mset μ 0 2 (nI 0)) P n s r τ) : ∃ κ s1 r1, τ = msr κ s1 r1 ∧ REL tok σ τ P S n V T s1 r1 ∧ TM (Gm μ P) tok n s1 ∧ κ 4 = μ 4 ∧ τ 0 2 = nI 0 := by
  obtain ⟨h1, ⟨b1, b2, b3, b4, b5, b6⟩, h3⟩ := h
  obtain ⟨κ, s1, r1, e, l1, l2, tm, q0, f0, f2⟩ := wrk_TM b1.1 b2 b1.2.1 b5.2.2.1 b5.2.2.2 b6 hw
  have t0 : τ 0 = κ 0 := by rw [e]; exact msr_n (by decide) (by decide)
  have tq : ∀ q, q ≠ 0 → q ≠ 6 → q ≠ 7 → τ q = μ q := fun q a b c => by rw [e, msr_n b c, q0 q a]
  have eG : Gm τ P = Gm μ P := Gm_of (tq 1 (by decide) (by decide) (by decide)) (tq 2 (by decide) (by decide) (by decide)) (tq 3 (by decide) (by decide) (by decide))
  have q2 := tq 2 (by decide) (by decide) (by decide)
  have q5 := tq 5 (by decide) (by decide) (by decide)
  have eX : XM τ P = XM μ P := by funext k p d o; unfold XM hX mn; rw [q2, q5]
  have f : ∀ f, f ≠ 2 → f ≠ 12 → τ 0 f = μ 0 f := fun i a b => by rw [t0]; exact f0 i a b
  obtain ⟨a1, a2, a3, a4, a5, a6, a7, a8⟩ := b1
  refine ⟨κ, s1, r1, e, ⟨by rw [eG]; exact h1, ⟨⟨mG_of a1 (f 3 (by decide) (by decide)) (tq 1 (by decide) (by decide) (by decide)) q2 (tq 3 (by decide) (by decide) (by decide)), a2, by rw [f 7 (by decide) (by decide)]; exact a3, by rw [q5, f 10 (by decide) (by decide)]; exact a4, a5, by rw [f 0 (by decide) (by decide)]; exact a6, a7, by rw [f 1 (by decide) (by decide)]; exact a8⟩, fun j x y => by rw [tq 4 (by decide) (by decide) (by decide)]; exact b2 j x y, by rw [eG, eX]; exact b3, fun k hk => PL_of (b4 k hk) q2 (fun j _ _ => by rw [q5]), ⟨by rw [e]; exact msr_6, by rw [e]; exact msr_7, l1, l2⟩, fun _ => by rw [eG]; exact tm⟩, ?_⟩, tm, q0 4 (by decide), by rw [t0]; exact f2⟩
  obtain ⟨c, c1, c2, c3, c4⟩ := h3
  exact ⟨c, c1, c2, by rw [f 14 (by decide) (by decide)]; exact c3, fun i hi => by rw [tq 8 (by decide) (by decide) (by decide)]; exact c4 i hi⟩
theorem msr_inj {κ κ' : Mem} {s s' r r' : Nat → Nat} (h : msr κ s r = msr κ' s' r') (hs : leN s) (hs' : leN s') : s = s' := by
  have h6 : nR s = nR s' := by rw [← msr_6 (σ := κ) (s := s) (r := r), h, msr_6]
  funext i
  have := congrFun h6 i
  have a := hs i
  have b := hs' i
  exact (nI_eq (by omega) (by omega)).mp this
/-- a symbol's steps are told alike -/
theorem sym_eq {κ : Mem} {s1 : Nat → Nat} {y i j : Nat} (h : REL tok σ μ P S n V T s r) (tm : TM (Gm μ P) tok n s1) (h4 : κ 4 = μ 4) (hy : y < 6 ∨ (100 ≤ y ∧ y < 106)) (hij : i ≤ j) (hj : j ≤ n) : symS σ n (nI y) i j = stpV κ s1 y i j ∧ (symS σ n (nI y) i j = -1 ↔ ¬ stN κ s1 y i j < 1000000) := by
  obtain ⟨⟨a1, a2, a3, a4, a5, a6⟩, ⟨b1, b2, b3, b4, b5, b6⟩, -⟩ := h
  have hn := b1.2.1
  obtain ⟨e1, e2⟩ := symS_enc (GO_SF a2).1 a3 a6 hn hy hij hj
  have e3 : stN κ s1 y i j = Ls (Gm μ P) tok y i j := by
    have hE : stN κ s1 y i j = stN μ s1 y i j := by unfold stN; rw [h4]
    rw [hE]
    exact stN_Ls (κ0 := μ) ⟨b1.1, b2, rfl, fun _ _ _ _ => rfl, fun _ _ => rfl⟩ tm hy hij hj
  rw [e1, e3]
  unfold stpV
  rw [e3]
  by_cases q : Ls (Gm μ P) tok y i j < 1000000
  · have := e2 q
    rw [enc_t q, if_neg (by omega)]
    exact ⟨rfl, fun z => absurd z (nI_m1 (by omega)), fun z => absurd q z⟩
  · have e4 : enc (Ls (Gm μ P) tok y i j) = -1 := by unfold enc; rw [if_neg q]
    rw [e4, if_pos (by omega)]
    exact ⟨rfl, fun _ => q, fun _ => rfl⟩
theorem op_steps {x z u b : Int32} {μ1 : Mem} (h : REL tok σ μ P S n V T s r) (hM : ¬ (isVn V x = true ∨ isTn T x = true) ∧ b = nI 0 ∧ μ1 = mset (msr μ s r) 0 2 (nI 1) ∨ (isVn V x = true ∨ isTn T x = true) ∧ strC n z u = false ∧ b = nI 0 ∧ μ1 = mset (msr μ s r) 0 2 (nI 2) ∨ (isVn V x = true ∨ isTn T x = true) ∧ strC n z u = true ∧ ∃ κ s1 r1, wrkP (mset μ 0 2 (nI 0)) P n s r μ1 ∧ μ1 = msr κ s1 r1 ∧ leN s1 ∧ b = stpV κ s1 x.toNatClampNeg z.toNatClampNeg u.toNatClampNeg) :
    (∀ v σ1, ((isVn V x = true ∨ isTn T x = true) ∧ strC n z u = true ∧ v = symS σ n x z.toNatClampNeg u.toNatClampNeg ∧ σ1 = σ) → μ1 0 2 = nI 0 ∧ v = b ∧ RELX σ1 μ1) ∧ (¬ (isVn V x = true ∨ isTn T x = true) → μ1 0 2 = nI 1 ∧ RELX σ μ1) ∧ (((isVn V x = true ∨ isTn T x = true) ∧ strC n z u = false) → μ1 0 2 = nI 2 ∧ RELX σ μ1) := by
  rw [← rel_msr h] at hM
  have hV6 := h.2.1.1.2.2.2.2.1
  have hT6 := h.2.1.1.2.2.2.2.2.2.1
  have hn := h.2.1.1.2.1
  rcases hM with ⟨q1, q2, rfl⟩ | ⟨q1, q2, q3, rfl⟩ | ⟨q1, q2, κ, s1, r1, q3, q4, ql, q5⟩
  · exact ⟨fun v σ1 w => absurd w.1 q1, fun _ => ⟨mset_s, relx_thr h⟩, fun w => absurd w.1 q1⟩
  · exact ⟨(fun v σ1 w => by rw [q2] at w; cases w.2.1), fun w => absurd q1 w, fun _ => ⟨mset_s, relx_thr h⟩⟩
  · obtain ⟨κ', s', r', e1, hR, tm, h4, h2⟩ := rel_wrk h q3
    refine ⟨fun v σ1 w => ⟨h2, ?_, w.2.2.2 ▸ relx hR⟩, fun w => absurd q1 w, fun w => by rw [q2] at w; cases w.2⟩
    have hk4 : κ 4 = μ 4 := by
      have : κ 4 = μ1 4 := by rw [q4, msr_n (by decide) (by decide)]
      rw [this, e1, msr_n (by decide) (by decide), h4]
    have hs1 : s1 = s' := msr_inj (q4.symm.trans e1) ql (by have := hR.2.1.2.2.2.2.1.2.2.1; exact this)
    subst hs1
    have hy : x = nI x.toNatClampNeg ∧ (x.toNatClampNeg < 6 ∨ (100 ≤ x.toNatClampNeg ∧ x.toNatClampNeg < 106)) := by
      rcases q1 with w | w
      · obtain ⟨w1, w2⟩ := isVn_of hV6 w; exact ⟨w1, Or.inl (by omega)⟩
      · obtain ⟨w1, w2, w3⟩ := isTn_of hT6 w; exact ⟨w1, Or.inr (by omega)⟩
    have hst : ¬ z < 0 ∧ ¬ u < z ∧ ¬ nI n < u := by
      unfold strC at q2; simpa only [Bool.and_eq_true, Bool.not_eq_true', decide_eq_false_iff_not] using q2
    obtain ⟨z1, z2, z3, z4⟩ := isKn_of2 hn hst.1 hst.2.1 (Int32.not_lt.mp hst.2.2)
    have key := (sym_eq (κ := κ') (y := x.toNatClampNeg) h tm h4 hy.2 z3 z4).1
    rw [w.2.2.1, q5, hy.1, nI_clamp (by omega), key]
    unfold stpV stN; rw [hk4, h4]
end OPS
