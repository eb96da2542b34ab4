/-! extract on both sides; the start -/
def xb (σ κ : Mem) : Prop := (∀ q, q ≠ 0 → κ q = σ q) ∧ (∀ f, f ≠ 2 → f ≠ 12 → κ 0 f = σ 0 f) ∧ κ 0 2 = nI 0
/-- what the model's extract() comes to -/
def xtP (σ : Mem) (P n : Nat) (tok : Nat → Nat) (b : Int32) (τ : Mem) : Prop := ∃ κ1 κ s1 r2 m c, xb σ κ1 ∧ TM (Gm σ P) tok n s1 ∧ leN s1 ∧ leN r2 ∧ XI (Gm σ P) tok n P κ1 [(ml σ 0, 0, n)] κ m c ∧ (m = 0 ∨ 8000 ≤ c) ∧ b = nI c ∧ τ = msr κ s1 r2
section OPX
variable {tok : Nat → Nat} {σ μ : Mem} {P S n V T : Nat} {s r : Nat → Nat}
/-- an accepted input: the start's goal can be reached -/
theorem rel_gd (h : REL tok σ μ P S n V T s r) (ha : accF μ n P = true) : 0 < P ∧ gd (Gm μ P) tok n (ml μ 0, 0, n) := by
  obtain ⟨p, q1, q2, q3⟩ := (acc_iff P).mp ha
  have hg := h.2.1.1.1
  have hd := CH_acc (G := Gm μ P) (tok := tok) (Xs := XM μ P) (p := p) (Gm_ok hg) (fun k a b => (h.2.1.2.1 k a b).2.1) h.2.1.2.2.1 q1 ⟨q1, by rw [Gm_len]; exact Nat.le_refl _, by decide, by rw [Gm_len]; exact q3⟩
  have hP : 0 < P := by omega
  refine ⟨hP, (hg.2.2 0 hP).2.1, Nat.zero_le _, Nat.le_refl _, ?_⟩
  show ∃ m, Dr (Gm μ P) tok (ml μ 0) 0 n m
  rw [← q2]; exact hd
theorem op_extract {b : Int32} {μ1 : Mem} (h : REL tok σ μ P S n V T s r) (hM : accF μ n P = false ∧ b = nI 0 ∧ μ1 = mset μ 0 2 (nI 1) ∨ accF μ n P = true ∧ xtP μ P n tok b μ1) :
    (∀ v σ1, (holdF σ (σ (n + 19)) S = true ∧ v = tellE σ P S n 5 3 ∧ σ1 = tellE σ P S n) → μ1 0 2 = nI 0 ∧ v = b ∧ RELX σ1 μ1) ∧ (holdF σ (σ (n + 19)) S = false → μ1 0 2 = nI 1 ∧ RELX σ μ1) := by
  rw [rel_acc h]
  rcases hM with ⟨q1, q2, rfl⟩ | ⟨q1, κ1, κ, s1, r2, m, c, hxb, tm, ls, lr, hXI, hmc, hb, rfl⟩
  · exact ⟨(fun v σ1 w => by rw [q1] at w; cases w.1), fun _ => ⟨mset_s, relx_thr h⟩⟩
  · refine ⟨fun v σ1 w => ?_, (fun w => by rw [q1] at w; cases w)⟩
    obtain ⟨hP0, hgd⟩ := rel_gd h q1
    obtain ⟨hA, hB, -⟩ := h
    obtain ⟨a1, a2, a3, a4, a5, a6⟩ := hA
    have hF := GO_SF a2
    have h6 : σ 6 0 = nI (ml μ 0) := by
      rw [(a2.1.2.2.2.2.1 0 hP0).1, (a2.2.2.1 0 hP0).1]; rfl
    obtain ⟨⟨c', t1, t2⟩, t3⟩ := tellE_ok (σ := σ) (G := Gm μ P) (tok := tok) (n := n) (S := S) (v := ml μ 0) ⟨a1.1, hF.1, a3, a6⟩ h6 hgd
    have t1 : fin (Gm μ P) tok [(ml μ 0, 0, n)] c' (tellE σ P S n 15) := t1
    have t2 : tellE σ P S n 5 3 = nI c' := t2
    have t3 : ∀ q, wOut q → tellE σ P S n q = σ q := t3
    obtain ⟨u1, u2⟩ := fin_uniq t1 (XI_fin hXI hmc)
    subst u1
    have hE := hXI.1
    have kq : ∀ q, q ≠ 0 → q ≠ 8 → q ≠ 9 → κ q = μ q := fun q a b c => by rw [hE.2.2.2.1 q a b c]; exact hxb.1 q a
    have k0 : ∀ f, f ≠ 14 → f ≠ 2 → f ≠ 12 → κ 0 f = μ 0 f := fun f a b c => by rw [hE.2.2.2.2 f a]; exact hxb.2.1 f b c
    have k02 : κ 0 2 = nI 0 := by rw [hE.2.2.2.2 2 (by decide)]; exact hxb.2.2
    have tq : ∀ q, q ≠ 0 → q ≠ 6 → q ≠ 7 → q ≠ 8 → q ≠ 9 → msr κ s1 r2 q = μ q := fun q a b c d e => by rw [msr_n b c]; exact kq q a d e
    have t0 : msr κ s1 r2 0 = κ 0 := msr_n (by decide) (by decide)
    have eG : Gm (msr κ s1 r2) P = Gm μ P := Gm_of (tq 1 (by decide) (by decide) (by decide) (by decide) (by decide)) (tq 2 (by decide) (by decide) (by decide) (by decide) (by decide)) (tq 3 (by decide) (by decide) (by decide) (by decide) (by decide))
    have q2 := tq 2 (by decide) (by decide) (by decide) (by decide) (by decide)
    have q5 := tq 5 (by decide) (by decide) (by decide) (by decide) (by decide)
    have eX : XM (msr κ s1 r2) P = XM μ P := by funext k p d o; unfold XM hX mn; rw [q2, q5]
    obtain ⟨⟨m1, m2, m3, m4, m5, m6, m7, m8⟩, b2, b3, b4, b5, b6⟩ := hB
    refine ⟨by rw [t0]; exact k02, by rw [w.2.1, hb]; exact t2, ?_⟩
    rw [w.2.2]
    have wo : ∀ q, wOut q → tellE σ P S n q = σ q := t3
    have hGO : GO (Gm μ P) (tellE σ P S n) S := GO_of a2 (wo 1 (by unfold wOut; omega)) (wo 6 (by unfold wOut; omega)) (wo 7 (by unfold wOut; omega)) (wo 8 (by unfold wOut; omega)) (wo 9 (by unfold wOut; omega))
    have hn9 := a4.2.2.1
    refine relx (tok := tok) (P := P) (S := S) (n := n) (V := V) (T := T) (s := s1) (r := r2) ⟨?_, ⟨⟨mG_of m1 (by rw [t0]; exact k0 3 (by decide) (by decide) (by decide)) (tq 1 (by decide) (by decide) (by decide) (by decide) (by decide)) q2 (tq 3 (by decide) (by decide) (by decide) (by decide) (by decide)), m2, by rw [t0, k0 7 (by decide) (by decide) (by decide)]; exact m3, by rw [q5, t0, k0 10 (by decide) (by decide) (by decide)]; exact m4, m5, by rw [t0, k0 0 (by decide) (by decide) (by decide)]; exact m6, m7, by rw [t0, k0 1 (by decide) (by decide) (by decide)]; exact m8⟩, fun j x y => by rw [tq 4 (by decide) (by decide) (by decide) (by decide) (by decide)]; exact b2 j x y, by rw [eG, eX]; exact b3, fun k hk => PL_of (b4 k hk) q2 (fun j _ _ => by rw [q5]), ⟨msr_6, msr_7, ls, lr⟩, fun _ => by rw [eG]; exact tm⟩, c', t1.1.1, t2, by rw [t0]; exact hXI.2.1, fun i hi => ?_⟩
    · rw [eG]
      refine ⟨eI_of a1 (wo 0 (by unfold wOut; omega)) ⟨hGO.1, a1.1.2.1, by rw [wo 2 (by unfold wOut; omega)]; exact a1.1.2.2⟩, hGO, fun i hi => by rw [wo 10 (by unfold wOut; omega)]; exact a3 i hi, okE_of a4 (GO_SF hGO) (fun j hj => wo _ (by unfold wOut; omega)), CH_of a5 hn9 (wo 7 (by unfold wOut; omega)) (fun j hj => wo _ (by unfold wOut; omega)), fun i j hij hj => ?_⟩
      obtain ⟨z1, z2⟩ := a6 i j hij hj
      exact ⟨fun v hv => by rw [wo _ (by unfold wOut; omega)]; exact z1 v hv, fun t ht => by rw [wo _ (by unfold wOut; omega), RB_of (wo 7 (by unfold wOut; omega)) (wo 9 (by unfold wOut; omega))]; exact z2 t ht⟩
    · rw [u2 i hi, msr_n (by decide) (by decide)]
/-- new objects -/
theorem rel_ini (hV : V ≤ 6) (hT : T ≤ 6) : RELX (gcM 0 0 0 (iniM V T)) (iniM V T) := by
  have z : ∀ q i, q ≠ 0 → iniM V T q i = 0 := fun q i hq => by unfold iniM; rw [if_neg hq]
  have z0 : ∀ i, i ≠ 0 → i ≠ 1 → iniM V T 0 i = 0 := fun i a b => by unfold iniM; rw [if_pos rfl, if_neg a, if_neg b]
  have e0 : iniM V T 0 0 = nI V := by unfold iniM; rw [if_pos rfl, if_pos rfl]
  have e1 : iniM V T 0 1 = nI T := by unfold iniM; rw [if_pos rfl, if_neg (by decide), if_pos rfl]
  have hgS : gS (iniM V T) 0 0 := ⟨by decide, by decide, z 1 4 (by decide), z 1 5 (by decide), fun p hp => absurd hp (Nat.not_lt_zero _), fun t ht => absurd ht (Nat.not_lt_zero _), fun t ht => absurd ht (Nat.not_lt_zero _)⟩
  have hGO : GO (Gm (iniM V T) 0) (iniM V T) 0 := ⟨hgS, ⟨Nat.zero_le 8, fun p hp => absurd hp (Nat.not_lt_zero _)⟩, fun p hp => absurd hp (Nat.not_lt_zero _), rfl, fun p hp => absurd hp (Nat.not_lt_zero _)⟩
  have hR : rows9 (iniM V T) := fun j hj t ht => by rw [z _ _ (by omega)]; exact ⟨rfl, by decide⟩
  obtain ⟨c1, c2, c3, c4, c5⟩ := gc_ok (tok := fun _ => 0) hGO hR
  have c1 : GO (Gm (iniM V T) 0) (gcM 0 0 0 (iniM V T)) 0 := c1
  have g0 : gcM 0 0 0 (iniM V T) 0 = iniM V T 0 := gcM_n (by decide) (by decide) (by decide)
  have g2 : gcM 0 0 0 (iniM V T) 2 = iniM V T 2 := gcM_n (by decide) (by decide) (by decide)
  refine ⟨fun _ => 0, 0, 0, 0, V, T, fun _ => 0, fun _ => 0, ⟨⟨⟨c1.1, by decide, by rw [g2]; exact z 2 1 (by decide)⟩, Nat.le_refl _, Nat.zero_le _, hV, by rw [g0]; exact e0, hT, by rw [g0]; exact e1⟩, c1, fun i hi => absurd hi (Nat.not_lt_zero _), c2, c3, c4⟩, ⟨⟨⟨by decide, z0 3 (by decide) (by decide), fun p hp => absurd hp (Nat.not_lt_zero _)⟩, by decide, z0 7 (by decide) (by decide), ⟨fun i => Or.inl (z 5 i (by decide)), Or.inl (z0 10 (by decide) (by decide))⟩, hV, e0, hT, e1⟩, fun j a b => absurd b (by omega), fun k hk => ⟨⟨fun p d o hb => absurd hb.1 (Nat.not_lt_zero _), fun p d o y q _ _ hq _ => absurd hq (Nat.not_lt_zero _), fun p o q e w hp _ _ _ => absurd hp (Nat.not_lt_zero _)⟩, fun Y hY p d o hx => absurd hx.1 (Nat.not_lt_zero _)⟩, fun k hk j a b c => absurd (z 5 j (by decide)) c, ⟨by funext i; exact z 6 i (by decide), by funext i; exact z 7 i (by decide), fun _ => Nat.zero_le _, fun _ => Nat.zero_le _⟩, fun q => absurd (z0 12 (by decide) (by decide)) q⟩, RWt_zero c5 (z0 14 (by decide) (by decide))⟩
end OPX
theorem xb_EB {σ κ : Mem} {P n : Nat} {tok : Nat → Nat} (h : xb σ κ) (hg : mG σ P) (hm : MK σ tok n) : EB (Gm σ P) tok n P κ κ :=
  ⟨mG_of hg (h.2.1 3 (by decide) (by decide)) (h.1 1 (by decide)) (h.1 2 (by decide)) (h.1 3 (by decide)), fun j a b => by rw [h.1 4 (by decide)]; exact hm j a b, Gm_of (h.1 1 (by decide)) (h.1 2 (by decide)) (h.1 3 (by decide)), fun _ _ _ _ => rfl, fun _ _ => rfl⟩
/-- the model's search of the split ends at the least one -/
theorem sp_cond {G : Grm} {tok : Nat → Nat} {n P m c y a d b : Nat} {κ0 κ : Mem} {L0 : List Gl} {g : Gl} {s r : Nat → Nat} (hn : n ≤ 8) (h : XK G tok n P κ0 L0 κ m c g y a d) (ht : TM G tok n s) (hr : RQ G tok (chp G tok g) g.2.2 r) (hd : d < mn κ (chp G tok g)) (hab : a ≤ b) (hb : b ≤ sp G tok (mr κ (4 * chp G tok g + d)) ((G.2.2 (chp G tok g)).drop (d + 1)) a g.2.2) :
    (stN κ s (mr κ (4 * chp G tok g + d)) a b + r (9 * (d + 1) + b) = r (9 * d + a) ↔ b = sp G tok (mr κ (4 * chp G tok g + d)) ((G.2.2 (chp G tok g)).drop (d + 1)) a g.2.2) ∧ sp G tok (mr κ (4 * chp G tok g + d)) ((G.2.2 (chp G tok g)).drop (d + 1)) a g.2.2 ≤ g.2.2 := by
  obtain ⟨k1, k2, k3, k4, k5⟩ := XK_row h
  have hdrop := k5 d hd
  have hz := ((h.1.1.1.2.2 _ k1).2.2.2.2 d hd).2
  have hf := h.2.2.1
  rw [hdrop] at hf
  obtain ⟨s1, s2, s3, s4, s5, s6⟩ := sp_ok (XJ_ok h.1) hn hf
  have hgn := h.1.2.2.2.2.2.1.2.2.1
  rw [stN_Ls h.1.1 ht hz hab (by omega), hr.2 (d + 1) b (by omega) (by omega), hr.2 d a (by omega) k4, hdrop]
  exact ⟨⟨fun q => Nat.le_antisymm hb (s6 b hab q), fun q => by rw [q]; exact s3⟩, s2⟩
