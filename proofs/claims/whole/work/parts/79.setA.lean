/-! chains of sets: the first items of a set; two chains are the same; an item tells a derivation -/
def Bs (G : Grm) (tok : Nat → Nat) (k : Nat) (X : Itm) : Itm := fun p d o => p < G.1 ∧ ((k = 0 ∧ d = 0 ∧ o = 0 ∧ G.2.1 p = G.2.1 0) ∨ (k ≠ 0 ∧ ∃ e, d = e + 1 ∧ (G.2.2 p)[e]? = some (tok k) ∧ X p e o))
/-- sets 0 .. n are what they must be -/
def CH (G : Grm) (tok : Nat → Nat) (n : Nat) (Xs : Nat → Itm) : Prop := ∀ k, k ≤ n → leastX G k (Bs G tok k (Xs (k - 1))) Xs (Xs k)
section CHs
variable {G : Grm} {tok : Nat → Nat} {n : Nat} {Xs Ys : Nat → Itm}
theorem clS_congr {k : Nat} {B B' : Itm} {Lo Lo' : Nat → Itm} {X : Itm} (hB : ∀ p d o, B' p d o → B p d o) (hL : ∀ j, j < k → ∀ p d o, Lo' j p d o → Lo j p d o) (h : clS G k B Lo X) : clS G k B' Lo' X :=
  ⟨fun p d o q => h.1 p d o (hB p d o q), h.2.1, fun p o q e w h1 h2 h3 h4 => h.2.2 p o q e w h1 h2 (h3.elim (fun z => Or.inl ⟨z.1, hL _ z.1 _ _ _ z.2⟩) Or.inr) h4⟩
theorem least_congr {k : Nat} {B B' : Itm} {Lo Lo' : Nat → Itm} {X X' : Itm} (hB : ∀ p d o, B p d o ↔ B' p d o) (hL : ∀ j, j < k → ∀ p d o, Lo j p d o ↔ Lo' j p d o) (hX : ∀ p d o, X p d o ↔ X' p d o) (h : leastX G k B Lo X) : leastX G k B' Lo' X' := by
  have e : X = X' := by funext p d o; exact propext (hX p d o)
  subst e
  exact ⟨clS_congr (fun p d o => (hB p d o).mpr) (fun j hj p d o => (hL j hj p d o).mpr) h.1, fun Y hY => h.2 Y (clS_congr (fun p d o => (hB p d o).mp) (fun j hj p d o => (hL j hj p d o).mp) hY)⟩
theorem Bs_congr {k : Nat} {X X' : Itm} (h : k ≠ 0 → ∀ p d o, X p d o ↔ X' p d o) (p d o : Nat) : Bs G tok k X p d o ↔ Bs G tok k X' p d o := by
  unfold Bs
  constructor
  · rintro ⟨h1, h2 | ⟨h2, e, h3, h4, h5⟩⟩
    · exact ⟨h1, Or.inl h2⟩
    · exact ⟨h1, Or.inr ⟨h2, e, h3, h4, (h h2 _ _ _).mp h5⟩⟩
  · rintro ⟨h1, h2 | ⟨h2, e, h3, h4, h5⟩⟩
    · exact ⟨h1, Or.inl h2⟩
    · exact ⟨h1, Or.inr ⟨h2, e, h3, h4, (h h2 _ _ _).mpr h5⟩⟩
theorem CH_uniq (h1 : CH G tok n Xs) (h2 : CH G tok n Ys) : ∀ k, k ≤ n → ∀ p d o, Xs k p d o ↔ Ys k p d o := by
  intro k
  induction k using Nat.strongRecOn with
  | ind k ih =>
    intro hk
    refine least_uniq (least_congr (Bs_congr (fun h0 => ih (k - 1) (by omega) (by omega))) (fun j hj => ih j hj (by omega)) (fun _ _ _ => Iff.rfl) (h1 k hk)) (h2 k hk)
/-- one more set -/
theorem CH_succ (h : CH G tok n Xs) {tok' : Nat → Nat} (ht : ∀ k, 1 ≤ k → k ≤ n → tok' k = tok k) (he : ∀ k, k ≤ n → ∀ p d o, Ys k p d o ↔ Xs k p d o) (hn : leastX G (n + 1) (Bs G tok' (n + 1) (Xs n)) Xs (Ys (n + 1))) : CH G tok' (n + 1) Ys := by
  intro k hk
  by_cases e : k = n + 1
  · subst e
    exact least_congr (Bs_congr (fun _ => fun p d o => (he n (Nat.le_refl _) p d o).symm)) (fun j hj p d o => (he j (by omega) p d o).symm) (fun _ _ _ => Iff.rfl) hn
  · refine least_congr (fun p d o => ?_) (fun j hj p d o => (he j (by omega) p d o).symm) (fun p d o => (he k (by omega) p d o).symm) (h k (by omega))
    have e2 : k ≠ 0 → tok' k = tok k := fun h0 => ht k (by omega) (by omega)
    rw [Bs_congr (G := G) (tok := tok) (k := k) (fun h0 p d o => (he (k - 1) (by omega) p d o).symm)]
    unfold Bs
    by_cases h0 : k = 0
    · simp [h0]
    · rw [e2 h0]
theorem CH_less (h : CH G tok n Xs) {n' : Nat} (hn : n' ≤ n) : CH G tok n' Xs := fun k hk => h k (by omega)
/-- an item tells a derivation of what is before its dot -/
theorem CH_snd (hG : okR G) (ht : ∀ k, 1 ≤ k → k ≤ n → 100 ≤ tok k) (h : CH G tok n Xs) : ∀ k, k ≤ n → ∀ p d o, Xs k p d o → ∃ m, Rw (Sy tok (Dr G tok)) ((G.2.2 p).take d) o k m := by
  intro k
  induction k using Nat.strongRecOn with
  | ind k ih =>
    intro hk
    refine (h k hk).2 (fun p d o => ∃ m, Rw (Sy tok (Dr G tok)) ((G.2.2 p).take d) o k m) ⟨fun p d o hb => ?_, fun p d o y q hx hy hq hqy => ?_, fun p o q e w hp hx hc hy => ?_⟩
    · obtain ⟨hp, ⟨rfl, rfl, rfl, -⟩ | ⟨h0, e, rfl, h3, h4⟩⟩ := hb
      · exact ⟨0, rfl, rfl⟩
      · obtain ⟨m, hm⟩ := ih (k - 1) (by omega) (by omega) p e o h4
        refine ⟨m + 0, ?_⟩
        rw [List.take_add_one, h3]
        refine Rw_snoc _ hm (by omega) ((Sy_t (by have := ht k (by omega) hk; omega)).mpr ⟨by omega, rfl, rfl⟩)
    · exact ⟨0, rfl, rfl⟩
    · obtain ⟨m, hm⟩ := hx
      rw [List.take_length] at hm
      have hd := Dr_cl p hp _ _ _ hm
      have hv := (hG.2 p hp).1
      have hle := Rw_le _ hm
      rw [List.take_add_one, hy]
      have hq : ∃ m', Rw (Sy tok (Dr G tok)) ((G.2.2 q).take e) w o m' := by
        rcases hc with ⟨c1, c2⟩ | ⟨c1, c2⟩
        · exact ih o c1 (by omega) q e w c2
        · rw [c1]; exact c2
      obtain ⟨m', hm'⟩ := hq
      exact ⟨m' + (m + 1), Rw_snoc _ hm' hle ((Sy_v hv).mpr hd)⟩
/-- an accepted input has a derivation -/
theorem CH_acc (hG : okR G) (ht : ∀ k, 1 ≤ k → k ≤ n → 100 ≤ tok k) (h : CH G tok n Xs) {p : Nat} (hp : p < G.1) (hx : Xs n p (G.2.2 p).length 0) : ∃ m, Dr G tok (G.2.1 p) 0 n m := by
  obtain ⟨m, hm⟩ := CH_snd hG ht h n (Nat.le_refl _) p _ 0 hx
  rw [List.take_length] at hm
  exact ⟨m + 1, Dr_cl p hp _ _ _ hm⟩
end CHs
/-! the class's sets as a chain -/
section CE
variable {G : Grm} {σ : Mem} {S : Nat} {tok : Nat → Nat}
theorem XE_congr {τ : Mem} {k : Nat} (h7 : τ 7 = σ 7) (hr : τ (k + 19) = σ (k + 19)) : XE G τ k = XE G σ k := by
  funext p d o; unfold XE gf; rw [h7, hr]
theorem nextR_spec {k x : Nat} (hR : rows9 σ) (hk0 : k ≠ 0) (hk : k < 9) : ∀ n, n < 24 → gR (nextR σ k (nI x) n) ∧ ∀ t o, t < 24 → (bt (nextR σ k (nI x) n) t o ↔ ∃ u, t = u + 1 ∧ u < n ∧ σ 8 u = nI x ∧ bt (σ (k - 1 + 19)) u o)
  | 0, _ => ⟨gR_0.1, fun t o ht => ⟨fun q => absurd q (gR_0.2 t o ht), fun ⟨_, _, q, _⟩ => absurd q (Nat.not_lt_zero _)⟩⟩
  | n + 1, hn => by
    obtain ⟨h1, h2⟩ := nextR_spec (x := x) hR hk0 hk n (by omega)
    rw [nextR]
    by_cases e : σ 8 n = nI x
    · rw [if_pos e]
      have hm := hR (k - 1) (by omega) n (by omega)
      refine ⟨by rw [hm.1]; exact gR_upd h1 hm.2, fun t o ht => ?_⟩
      unfold bt
      by_cases et : t = n + 1
      · subst et
        simp only [upd, if_pos]
        constructor
        · intro q; exact ⟨n, rfl, by omega, e, q⟩
        · rintro ⟨u, q1, q2, q3, q4⟩
          obtain rfl : u = n := by omega
          exact q4
      · simp only [upd, if_neg et]
        constructor
        · intro q
          obtain ⟨u, q1, q2, q3, q4⟩ := (h2 t o ht).mp q
          exact ⟨u, q1, by omega, q3, q4⟩
        · rintro ⟨u, q1, q2, q3, q4⟩
          exact (h2 t o ht).mpr ⟨u, q1, by omega, q3, q4⟩
    · rw [if_neg e]
      refine ⟨h1, fun t o ht => ?_⟩
      rw [h2 t o ht]
      constructor
      · rintro ⟨u, q1, q2, q3, q4⟩; exact ⟨u, q1, by omega, q3, q4⟩
      · rintro ⟨u, q1, q2, q3, q4⟩
        by_cases eu : u = n
        · subst eu; exact absurd q3 e
        · exact ⟨u, q1, by omega, q3, q4⟩
/-- the sets 0 .. n of the class stand right -/
def okE (G : Grm) (σ : Mem) (S n : Nat) : Prop := SF G σ S ∧ rows9 σ ∧ n < 9 ∧ ∀ j, j ≤ n → ∀ t o, t < S → bt (σ (j + 19)) t o → o ≤ j
/-- set n + 1 is made -/
theorem next_ok {n : Nat} (h : okE G σ S n) (hn : n < 8) (htok : 100 ≤ tok (n + 1) ∧ tok (n + 1) < 200) (hc : CH G tok n (XE G σ)) :
    okE G (closeM (n + 1) G.1 S 1000 (mrow σ (n + 1 + 19) (nextR σ (n + 1) (nI (tok (n + 1))) (S - 1)))) S (n + 1) ∧ CH G tok (n + 1) (XE G (closeM (n + 1) G.1 S 1000 (mrow σ (n + 1 + 19) (nextR σ (n + 1) (nI (tok (n + 1))) (S - 1))))) := by
  obtain ⟨hF, hR, -, hO⟩ := h
  have hS := sl_24 hF
  obtain ⟨g1, g2⟩ := nextR_spec (x := tok (n + 1)) (k := n + 1) hR (by omega) (by omega) (S - 1) (by omega)
  generalize hr : nextR σ (n + 1) (nI (tok (n + 1))) (S - 1) = r at g1 g2
  rw [show n + 1 - 1 = n by omega] at g2
  have lo : ∀ q, q < 19 → mrow σ (n + 1 + 19) r q = σ q := fun q hq => mrow_n (by omega)
  have hF' : SF G (mrow σ (n + 1 + 19) r) S := SF_of hF (lo 1 (by decide)) (lo 6 (by decide)) (lo 7 (by decide)) (lo 8 (by decide)) (lo 9 (by decide))
  have hrow : mrow σ (n + 1 + 19) r (n + 1 + 19) = r := mrow_s
  have egf : gf (mrow σ (n + 1 + 19) r) = gf σ := by funext p; unfold gf; rw [lo 7 (by decide)]
  have hok : okS G (mrow σ (n + 1 + 19) r) S (n + 1) := by
    refine ⟨hF', by omega, fun j hj => ?_, fun j hj t o ht hb => ?_⟩
    · by_cases e : j = n + 1
      · subst e; rw [hrow]; exact g1
      · rw [mrow_n (by omega)]; exact hR j hj
    · by_cases e : j = n + 1
      · subst e; rw [hrow] at hb
        obtain ⟨u, q1, q2, q3, q4⟩ := (g2 t o (by omega)).mp hb
        have := hO n (Nat.le_refl _) u o (by omega) q4
        omega
      · rw [mrow_n (by omega)] at hb; exact hO j (by omega) t o ht hb
  have hXl : ∀ j, j ≤ n → XE G (mrow σ (n + 1 + 19) r) j = XE G σ j := fun j hj => XE_congr (lo 7 (by decide)) (mrow_n (by omega))
  have hBs : ∀ p d o, Bs G tok (n + 1) (XE G σ n) p d o ↔ XE G (mrow σ (n + 1 + 19) r) (n + 1) p d o := fun p d o => by
    constructor
    · rintro ⟨hp, ⟨q, -⟩ | ⟨-, e, rfl, h3, h4⟩⟩
      · omega
      · have he : e < (G.2.2 p).length := (List.getElem?_eq_some_iff.mp h3).1
        refine ⟨hp, he, ?_⟩
        have hs := (sl_at hF hp (e + 1) he).1
        rw [hrow, egf]
        refine (g2 _ _ (by omega)).mpr ⟨gf σ p + e, by omega, by omega, ?_, h4.2.2⟩
        rcases sl_8 hF hp h4.2.1 with ⟨-, y, z1, z2, -⟩ | ⟨z, -⟩
        · rw [h3] at z1; obtain rfl := Option.some.inj z1; exact z2
        · omega
    · rintro ⟨hp, hd, hb⟩
      have hs := sl_at hF hp d hd
      rw [hrow, egf] at hb
      obtain ⟨u, q1, q2, q3, q4⟩ := (g2 _ _ (by omega)).mp hb
      obtain ⟨w1, w2, w3⟩ := sl_of hF (show u < S by omega)
      rcases sl_8 hF w1 w2 with ⟨v1, y, v2, v3, v4⟩ | ⟨-, v⟩
      · rw [w3, q3] at v3
        have := (nI_eq (by omega) (by omega)).mp v3
        subst this
        have h5 := sl_at hF w1 (u - gf σ (gp σ u) + 1) v1
        have e1 : gf σ (gp σ u) + (u - gf σ (gp σ u) + 1) = gf σ p + d := by omega
        rw [e1, hs.2] at h5
        have e2 : p = gp σ u := h5.2
        have e3 : gf σ (gp σ u) = gf σ p := by rw [← e2]
        refine ⟨hp, Or.inr ⟨by omega, u - gf σ (gp σ u), by omega, by rw [e2]; exact v2, by rw [e2]; exact XE_of hF (by omega) q4⟩⟩
      · rw [w3, q3] at v; exact absurd v (nI_m1 (by omega))
  obtain ⟨c1, c2⟩ := cM_ok (B := Bs G tok (n + 1) (XE G σ n)) (Lo := XE G σ) 1000 (mrow σ (n + 1 + 19) r) hok (by omega) (fun p d o => (hBs p d o).mp) (fun j hj p d o => by rw [hXl j (by omega)]) (fun Y hY p d o q => hY.1 p d o ((hBs p d o).mpr q))
  have hcn : ∀ q, q ≠ 12 → q ≠ n + 1 + 19 → closeM (n + 1) G.1 S 1000 (mrow σ (n + 1 + 19) r) q = σ q := fun q a b => by rw [closeM_n a b, mrow_n b]
  refine ⟨⟨c1.1, c1.2.2.1, by omega, c1.2.2.2⟩, CH_succ hc (fun _ _ _ => rfl) (fun k hk p d o => ?_) c2⟩
  rw [XE_congr (hcn 7 (by decide) (by omega)) (hcn (k + 19) (by omega) (by omega))]
/-- set 0 is made -/
theorem first_ok (hF : SF G σ S) (hR : rows9 σ) : okE G (mfM G.1 S σ) S 0 ∧ CH G tok 0 (XE G (mfM G.1 S σ)) := by
  have hS := sl_24 hF
  by_cases h0 : G.1 = 0
  · have hm : mfM G.1 S σ = mrow σ (0 + 19) (fillR (σ (0 + 19)) (nI 0) 24) := by unfold mfM; rw [if_pos h0]
    rw [hm]
    have hF' : SF G (mrow σ (0 + 19) (fillR (σ (0 + 19)) (nI 0) 24)) S := SF_of hF (mrow_n (by decide)) (mrow_n (by decide)) (mrow_n (by decide)) (mrow_n (by decide)) (mrow_n (by decide))
    refine ⟨⟨hF', fun j hj => ?_, by decide, fun j hj t o ht hb => ?_⟩, fun k hk => ⟨⟨fun p d o hb => ?_, fun p d o y q _ _ hq _ => absurd hq (by omega), fun p o q e w hp _ _ _ => absurd hp (by omega)⟩, fun Y hY p d o hx => ?_⟩⟩
    · by_cases e : j = 0
      · subst e; rw [mrow_s]; exact gR_0.1
      · rw [mrow_n (by omega)]; exact hR j hj
    · obtain rfl : j = 0 := by omega
      rw [mrow_s] at hb; exact absurd hb (gR_0.2 t o (by omega))
    · exact absurd hb.1 (by omega)
    · exact absurd hx.1 (by omega)
  · have hgf : ∀ p, p < G.1 → gf σ p < 24 := fun p hp => by have := (hF.1.1.2.2.2.2.1 p hp).2.2.2; omega
    have hm : mfM G.1 S σ = closeM 0 G.1 S 1000 (mrow σ (0 + 19) (predR (σ 6) (gf σ) 0 (σ 6 0) (fillR (σ (0 + 19)) (nI 0) 24) G.1)) := by unfold mfM; rw [if_neg h0]
    rw [hm]
    obtain ⟨g1, g2⟩ := predR_spec (l6 := σ 6) (f7 := gf σ) (k := 0) (v := σ 6 0) (r := fillR (σ (0 + 19)) (nI 0) 24) gR_0.1 (by decide) G.1 hgf
    generalize predR (σ 6) (gf σ) 0 (σ 6 0) (fillR (σ (0 + 19)) (nI 0) 24) G.1 = r at g1 g2
    have lo : ∀ q, q < 19 → mrow σ (0 + 19) r q = σ q := fun q hq => mrow_n (by omega)
    have hF' : SF G (mrow σ (0 + 19) r) S := SF_of hF (lo 1 (by decide)) (lo 6 (by decide)) (lo 7 (by decide)) (lo 8 (by decide)) (lo 9 (by decide))
    have hrow : mrow σ (0 + 19) r (0 + 19) = r := mrow_s
    have egf : gf (mrow σ (0 + 19) r) = gf σ := by funext p; unfold gf; rw [lo 7 (by decide)]
    have h6 : ∀ p, p < G.1 → (σ 6 p = σ 6 0 ↔ G.2.1 p = G.2.1 0) := fun p hp => by
      rw [(hF.1.1.2.2.2.2.1 p hp).1, (hF.1.1.2.2.2.2.1 0 (by omega)).1, (hF.1.2.2.1 p hp).1, (hF.1.2.2.1 0 (by omega)).1]
      have := (hF.1.2.1.2 p hp).1
      have := (hF.1.2.1.2 0 (by omega)).1
      exact nI_eq (by omega) (by omega)
    have hok : okS G (mrow σ (0 + 19) r) S 0 := by
      refine ⟨hF', by omega, fun j hj => ?_, fun j hj t o ht hb => ?_⟩
      · by_cases e : j = 0
        · subst e; rw [hrow]; exact g1
        · rw [mrow_n (by omega)]; exact hR j hj
      · obtain rfl : j = 0 := by omega
        rw [hrow] at hb
        rcases (g2 t o).mp hb with q | q
        · exact absurd q (gR_0.2 t o (by omega))
        · omega
    have hBs : ∀ p d o, Bs G tok 0 (XE G σ 0) p d o ↔ XE G (mrow σ (0 + 19) r) 0 p d o := fun p d o => by
      constructor
      · rintro ⟨hp, ⟨-, rfl, rfl, h3⟩ | ⟨q, -⟩⟩
        · refine ⟨hp, Nat.zero_le _, ?_⟩
          rw [hrow, egf]
          exact (g2 _ _).mpr (Or.inr ⟨rfl, p, hp, (h6 p hp).mpr h3, rfl⟩)
        · exact absurd rfl q
      · rintro ⟨hp, hd, hb⟩
        have hs := sl_at hF hp d hd
        rw [hrow, egf] at hb
        rcases (g2 _ _).mp hb with q | ⟨rfl, p', q1, q2, q3⟩
        · exact absurd q (gR_0.2 _ _ (by omega))
        · have h5 := (hF.1.2.2.1 p' q1).2
          rw [q3, hs.2] at h5
          subst h5
          exact ⟨hp, Or.inl ⟨rfl, by omega, rfl, (h6 p hp).mp q2⟩⟩
    obtain ⟨c1, c2⟩ := cM_ok (B := Bs G tok 0 (XE G σ 0)) (Lo := fun _ _ _ _ => False) 1000 (mrow σ (0 + 19) r) hok (by omega) (fun p d o => (hBs p d o).mp) (fun j hj p d o => absurd hj (Nat.not_lt_zero _)) (fun Y hY p d o q => hY.1 p d o ((hBs p d o).mpr q))
    refine ⟨⟨c1.1, c1.2.2.1, by omega, c1.2.2.2⟩, fun k hk => ?_⟩
    obtain rfl : k = 0 := by omega
    refine least_congr (Bs_congr (fun q => absurd rfl q)) (fun j hj => absurd hj (Nat.not_lt_zero _)) (fun _ _ _ => Iff.rfl) c2
end CE
