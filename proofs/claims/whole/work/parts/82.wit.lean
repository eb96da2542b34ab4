/-! the witness, told abstractly: goals (variable, from, to); the first goal's production is told, its own goals come before the others -/
abbrev Gl : Type := Nat × Nat × Nat
noncomputable def sp (G : Grm) (tok : Nat → Nat) (y : Nat) (ys : List Nat) (i j : Nat) : Nat := lst (fun m => i ≤ m ∧ Ls G tok y i m + Lr G tok ys m j = Lr G tok (y :: ys) i j)
noncomputable def gl (G : Grm) (tok : Nat → Nat) : List Nat → Nat → Nat → List Gl
  | [], _, _ => []
  | y :: ys, i, j => if y < 6 then (y, i, sp G tok y ys i j) :: gl G tok ys (sp G tok y ys i j) j else gl G tok ys (sp G tok y ys i j) j
noncomputable def chp (G : Grm) (tok : Nat → Nat) (g : Gl) : Nat := lst (fun p => p < G.1 ∧ G.2.1 p = g.1 ∧ Lr G tok (G.2.2 p) g.2.1 g.2.2 + 1 = Lv G tok g.1 g.2.1 g.2.2)
noncomputable def kds (G : Grm) (tok : Nat → Nat) (g : Gl) : List Gl := gl G tok (G.2.2 (chp G tok g)) g.2.1 g.2.2
noncomputable def nx1 (G : Grm) (tok : Nat → Nat) : List Gl → List Gl
  | [] => []
  | g :: L => kds G tok g ++ L
noncomputable def Lq (G : Grm) (tok : Nat → Nat) (L : List Gl) : Nat → List Gl
  | 0 => L
  | m + 1 => nx1 G tok (Lq G tok L m)
/-- c productions have been told -/
def told (G : Grm) (tok : Nat → Nat) (L : List Gl) (c : Nat) (row : Nat → Int32) : Prop := c ≤ 8000 ∧ ∀ i, i < c → ∃ g L', Lq G tok L i = g :: L' ∧ row i = nI (chp G tok g)
def fin (G : Grm) (tok : Nat → Nat) (L : List Gl) (c : Nat) (row : Nat → Int32) : Prop := told G tok L c row ∧ (Lq G tok L c = [] ∨ c = 8000)
theorem fin_uniq {G : Grm} {tok : Nat → Nat} {L : List Gl} {c c' : Nat} {r r' : Nat → Int32} (h : fin G tok L c r) (h' : fin G tok L c' r') : c = c' ∧ ∀ i, i < c → r i = r' i := by
  have key : ∀ (c c' : Nat) (r r' : Nat → Int32), fin G tok L c r → fin G tok L c' r' → ¬ c < c' := fun c c' r r' h h' hlt => by
    rcases h.2 with q | q
    · obtain ⟨g, L', e, -⟩ := h'.1.2 c hlt
      rw [q] at e; cases e
    · have := h'.1.1; omega
  have e : c = c' := by have := key c c' r r' h h'; have := key c' c r' r h' h; omega
  subst e
  refine ⟨rfl, fun i hi => ?_⟩
  obtain ⟨g, L', e1, e2⟩ := h.1.2 i hi
  obtain ⟨g', L'', e3, e4⟩ := h'.1.2 i hi
  rw [e1] at e3
  obtain ⟨rfl, -⟩ := List.cons.inj e3
  rw [e2, e4]
theorem told_upd {G : Grm} {tok : Nat → Nat} {L : List Gl} {c : Nat} {row row' : Nat → Int32} {g : Gl} {L' : List Gl} (h : told G tok L c row) (hc : c < 8000) (hL : Lq G tok L c = g :: L') (hr : ∀ i, i < c → row' i = row i) (hn : row' c = nI (chp G tok g)) : told G tok L (c + 1) row' ∧ Lq G tok L (c + 1) = kds G tok g ++ L' := by
  refine ⟨⟨hc, fun i hi => ?_⟩, by rw [Lq, hL, nx1]⟩
  by_cases e : i = c
  · subst e; exact ⟨g, L', hL, hn⟩
  · obtain ⟨g', L'', e1, e2⟩ := h.2 i (by omega)
    exact ⟨g', L'', e1, by rw [hr i (by omega)]; exact e2⟩
section WG
variable {G : Grm} {tok : Nat → Nat} {n : Nat}
/-- a goal that can be reached -/
def gd (G : Grm) (tok : Nat → Nat) (n : Nat) (g : Gl) : Prop := g.1 < 6 ∧ g.2.1 ≤ g.2.2 ∧ g.2.2 ≤ n ∧ ∃ m, Dr G tok g.1 g.2.1 g.2.2 m
noncomputable def mu (G : Grm) (tok : Nat → Nat) (g : Gl) : Nat := 6 * (g.2.2 - g.2.1) + rkV G tok g.1 g.2.1 g.2.2
theorem mu_le {g : Gl} (h : gd G tok n g) (hn : n ≤ 8) : mu G tok g ≤ 53 := by
  have := rkV_le (G := G) (tok := tok) (i := g.2.1) (j := g.2.2) h.1
  obtain ⟨-, h2, h3, -⟩ := h
  unfold mu; omega
theorem mu_lt {g g' : Gl} (h : gd G tok n g) (h' : gd G tok n g') (h1 : g'.2.1 ≤ g.2.1) (h2 : g.2.2 ≤ g'.2.2) (hl : Lv G tok g.1 g.2.1 g.2.2 < Lv G tok g'.1 g'.2.1 g'.2.2) : mu G tok g < mu G tok g' := by
  obtain ⟨v, i, j⟩ := g
  obtain ⟨v', i', j'⟩ := g'
  obtain ⟨a1, a2, a3, a4⟩ := h
  obtain ⟨b1, b2, b3, -⟩ := h'
  unfold mu
  dsimp only at *
  by_cases e : i = i' ∧ j = j'
  · obtain ⟨rfl, rfl⟩ := e
    have := rkV_lt (v := v') a1 a4 hl
    omega
  · have := rkV_le (G := G) (tok := tok) (i := i) (j := j) a1
    omega
/-- what is left of a production over a stretch, within a goal -/
def fg (G : Grm) (tok : Nat → Nat) (n : Nat) (g : Gl) (ys : List Nat) (a b : Nat) : Prop := gd G tok n g ∧ g.2.1 ≤ a ∧ b ≤ g.2.2 ∧ (∃ m, Rw (Sy tok (Dr G tok)) ys a b m) ∧ Lr G tok ys a b < Lv G tok g.1 g.2.1 g.2.2 ∧ ys.length ≤ 4 ∧ ∀ y, y ∈ ys → y < 6 ∨ (100 ≤ y ∧ y < 106)
theorem sp_ex {y : Nat} {ys : List Nat} {a b : Nat} (h : ∃ m, Rw (Sy tok (Dr G tok)) (y :: ys) a b m) : ∃ m, a ≤ m ∧ m ≤ b ∧ Ls G tok y a m + Lr G tok ys m b = Lr G tok (y :: ys) a b ∧ (∃ x, Sy tok (Dr G tok) y a m x) ∧ ∃ x, Rw (Sy tok (Dr G tok)) ys m b x := by
  have h1 := lst_in h
  obtain ⟨m, x, z, k1, k2, k3, k4, k5⟩ := h1
  have e0 : Lr G tok (y :: ys) a b = x + z := k5
  have l1 : Ls G tok y a m ≤ x := lst_le k3
  have l2 : Lr G tok ys m b ≤ z := lst_le k4
  have l3 : Lr G tok (y :: ys) a b ≤ Ls G tok y a m + Lr G tok ys m b := lst_le ⟨m, _, _, k1, k2, lst_in ⟨x, k3⟩, lst_in ⟨z, k4⟩, rfl⟩
  exact ⟨m, k1, k2, by omega, ⟨x, k3⟩, ⟨z, k4⟩⟩
theorem lst_fin {Q : Nat → Prop} (h : lst Q < 1000000) : ∃ m, Q m := Classical.byContradiction fun q => by rw [lst_no q] at h; omega
/-- the split of a row: the least one -/
theorem sp_ok (hG : okR G) (hn : n ≤ 8) {g : Gl} {y : Nat} {ys : List Nat} {a b : Nat} (h : fg G tok n g (y :: ys) a b) :
    a ≤ sp G tok y ys a b ∧ sp G tok y ys a b ≤ b ∧ Ls G tok y a (sp G tok y ys a b) + Lr G tok ys (sp G tok y ys a b) b = Lr G tok (y :: ys) a b ∧ (∃ x, Sy tok (Dr G tok) y a (sp G tok y ys a b) x) ∧ (∃ x, Rw (Sy tok (Dr G tok)) ys (sp G tok y ys a b) b x) ∧ ∀ m, a ≤ m → Ls G tok y a m + Lr G tok ys m b = Lr G tok (y :: ys) a b → sp G tok y ys a b ≤ m := by
  obtain ⟨h1, h2, h3, h4, h5, h6, h7⟩ := h
  have hb := Lr_bnd hG h6 (show b ≤ 8 by have := h1.2.2.1; omega) h4
  obtain ⟨m, m1, m2, m3, -, -⟩ := sp_ex h4
  have hin := lst_in (Q := fun m => a ≤ m ∧ Ls G tok y a m + Lr G tok ys m b = Lr G tok (y :: ys) a b) ⟨m, m1, m3⟩
  have hle := lst_le (Q := fun m => a ≤ m ∧ Ls G tok y a m + Lr G tok ys m b = Lr G tok (y :: ys) a b) ⟨m1, m3⟩
  have hl : sp G tok y ys a b ≤ m := hle
  obtain ⟨i1, i2⟩ := hin
  have i2' : Ls G tok y a (sp G tok y ys a b) + Lr G tok ys (sp G tok y ys a b) b = Lr G tok (y :: ys) a b := i2
  refine ⟨i1, by omega, i2, lst_fin (show Ls G tok y a (sp G tok y ys a b) < _ by omega), lst_fin (show Lr G tok ys (sp G tok y ys a b) b < _ by omega), fun m' q1 q2 => lst_le ⟨q1, q2⟩⟩
/-- the row goes on behind its split; a variable before it is a goal of less measure -/
theorem fg_next (hG : okR G) (hn : n ≤ 8) {g : Gl} {y : Nat} {ys : List Nat} {a b : Nat} (h : fg G tok n g (y :: ys) a b) :
    fg G tok n g ys (sp G tok y ys a b) b ∧ (y < 6 → gd G tok n (y, a, sp G tok y ys a b) ∧ mu G tok (y, a, sp G tok y ys a b) < mu G tok g) := by
  obtain ⟨s1, s2, s3, s4, s5, -⟩ := sp_ok hG hn h
  obtain ⟨h1, h2, h3, h4, h5, h6, h7⟩ := h
  refine ⟨⟨h1, by omega, h3, s5, by omega, by rw [List.length_cons] at h6; omega, fun z hz => h7 z (List.mem_cons_of_mem _ hz)⟩, fun hy => ?_⟩
  have hgd : gd G tok n (y, a, sp G tok y ys a b) := by
    refine ⟨hy, s1, by have := h1.2.2.1; show sp G tok y ys a b ≤ n; omega, ?_⟩
    obtain ⟨x, hx⟩ := s4
    exact ⟨x, (Sy_v hy).mp hx⟩
  refine ⟨hgd, mu_lt hgd h1 h2 (by show sp G tok y ys a b ≤ _; omega) ?_⟩
  show Lv G tok y a (sp G tok y ys a b) < _
  rw [← Ls_v hy]; omega
/-- a goal's production -/
theorem chp_ok (hG : okR G) (hn : n ≤ 8) {g : Gl} (h : gd G tok n g) : chp G tok g < G.1 ∧ G.2.1 (chp G tok g) = g.1 ∧ Lr G tok (G.2.2 (chp G tok g)) g.2.1 g.2.2 + 1 = Lv G tok g.1 g.2.1 g.2.2 ∧ (∀ p, p < G.1 → G.2.1 p = g.1 → Lr G tok (G.2.2 p) g.2.1 g.2.2 + 1 = Lv G tok g.1 g.2.1 g.2.2 → chp G tok g ≤ p) ∧ fg G tok n g (G.2.2 (chp G tok g)) g.2.1 g.2.2 := by
  obtain ⟨p, m', p1, p2, p3, p4⟩ := Dr_inv (lst_in h.2.2.2)
  have e3 : Lv G tok g.1 g.2.1 g.2.2 = m' + 1 := p3
  have l1 : Lr G tok (G.2.2 p) g.2.1 g.2.2 ≤ m' := lst_le p4
  have l2 : Lv G tok g.1 g.2.1 g.2.2 ≤ Lr G tok (G.2.2 p) g.2.1 g.2.2 + 1 := lst_le (p2 ▸ Dr_cl p p1 _ _ _ (lst_in ⟨m', p4⟩))
  have hex : ∃ p, p < G.1 ∧ G.2.1 p = g.1 ∧ Lr G tok (G.2.2 p) g.2.1 g.2.2 + 1 = Lv G tok g.1 g.2.1 g.2.2 := ⟨p, p1, p2, by omega⟩
  obtain ⟨c1, c2, c3⟩ := lst_in hex
  have c1' : chp G tok g < G.1 := c1
  have c3' : Lr G tok (G.2.2 (chp G tok g)) g.2.1 g.2.2 + 1 = Lv G tok g.1 g.2.1 g.2.2 := c3
  have hb := Lv_bnd hG h.1 (show g.2.2 ≤ 8 by have := h.2.2.1; omega) h.2.2.2
  refine ⟨c1', c2, c3', fun p q1 q2 q3 => lst_le ⟨q1, q2, q3⟩, h, Nat.le_refl _, Nat.le_refl _, lst_fin (show Lr G tok (G.2.2 (chp G tok g)) g.2.1 g.2.2 < _ by omega), by omega, (hG.2 _ c1').2.1, (hG.2 _ c1').2.2⟩
end WG
/-! the class tells it so -/
section WC
variable {G : Grm} {tok : Nat → Nat} {n S : Nat} {σ : Mem}
theorem symS_enc (hE : SE G σ S) (hT : TK σ tok n) (hX : TE G tok σ S n) (hn : n ≤ 8) {y i k : Nat} (hy : y < 6 ∨ (100 ≤ y ∧ y < 106)) (hik : i ≤ k) (hk : k ≤ n) : symS σ n (nI y) i k = enc (Ls G tok y i k) ∧ (Ls G tok y i k < 1000000 → Ls G tok y i k ≤ 368640) := by
  rcases hy with hy | hy
  · rw [symS_v hy, (hX i k hik hk).1 y hy, Ls_v hy]
    refine ⟨rfl, fun q => ?_⟩
    exact Lv_bnd hE.2.1 hy (by omega) (lst_fin q)
  · rw [symS_t hT hy hk]
    by_cases e : k = i + 1 ∧ tok k = y
    · have e0 : Ls G tok y i k = 0 := lst_eq ((Sy_t (by omega)).mpr ⟨e.1, e.2, rfl⟩) (fun _ _ => Nat.zero_le _)
      rw [if_pos e, e0]; exact ⟨rfl, fun _ => by omega⟩
    · have e0 : Ls G tok y i k = 1000000 := lst_no (fun ⟨m, q⟩ => e ⟨((Sy_t (by omega)).mp q).1, ((Sy_t (by omega)).mp q).2.1⟩)
      rw [if_neg e, e0]; exact ⟨rfl, fun q => by omega⟩
theorem lst_le6 {Q : Nat → Prop} (h : (∃ m, Q m) → lst Q ≤ 1000000) : lst Q ≤ 1000000 := by
  by_cases q : ∃ m, Q m
  · exact h q
  · rw [lst_no q]; exact Nat.le_refl _
theorem splitS_enc (hE : SE G σ S) (hT : TK σ tok n) (hX : TE G tok σ S n) (hn : n ≤ 8) {t y i m j : Nat} (ht : t + 1 < S) (h8 : σ 8 t = nI y) (hy : y < 6 ∨ (100 ≤ y ∧ y < 106)) (hl : (RB G σ (t + 1)).length ≤ 4) (h1 : i ≤ m) (h2 : m ≤ j) (h3 : j ≤ n) {x : Nat} (hx : x < 1000000) : splitS σ n S t i m j = nI x ↔ Ls G tok y i m + Lr G tok (RB G σ (t + 1)) m j = x := by
  obtain ⟨s1, s2⟩ := symS_enc hE hT hX hn (i := i) (k := m) hy h1 (by omega)
  have r1 := (hX m j h2 h3).2 (t + 1) ht
  unfold splitS
  rw [h8, s1, r1, if_pos ht]
  by_cases e1 : Ls G tok y i m < 1000000
  · have b1 := s2 e1
    rw [enc_t e1, if_neg (nI_m1 (by omega))]
    by_cases e2 : Lr G tok (RB G σ (t + 1)) m j < 1000000
    · have b2 := Lr_bnd hE.2.1 hl (show j ≤ 8 by omega) (lst_fin e2)
      rw [enc_t e2, if_neg (nI_m1 (by omega)), nI_add]
      exact nI_eq (by omega) (by omega)
    · have e3 : enc (Lr G tok (RB G σ (t + 1)) m j) = -1 := by unfold enc; rw [if_neg e2]
      rw [e3, if_pos rfl]
      exact ⟨fun q => absurd q.symm (nI_m1 (by omega)), fun q => by omega⟩
  · have e3 : enc (Ls G tok y i m) = -1 := by unfold enc; rw [if_neg e1]
    rw [e3, if_pos rfl]
    exact ⟨fun q => absurd q.symm (nI_m1 (by omega)), fun q => by omega⟩
theorem shF_ok {t i j x : Nat} (hx : i ≤ x ∧ x ≤ j) (h1 : ∀ m, i ≤ m → m < x → shC σ n S t i j m = false) (h2 : x < j → shC σ n S t i j x = true) : ∀ k m, m + k = j → i ≤ m → m ≤ x → shF σ n S t i j k m = x
  | 0, m, q1, q2, q3 => by rw [shF]; omega
  | k + 1, m, q1, q2, q3 => by
    rw [shF]
    by_cases e : m = x
    · subst e; rw [if_pos (h2 (by omega))]
    · rw [if_neg (by rw [h1 m q2 (by omega)]; decide)]; exact shF_ok hx h1 h2 k (m + 1) (by omega) (by omega) (by omega)
/-- the class's split is the least one -/
theorem shE_ok (hE : SE G σ S) (hT : TK σ tok n) (hX : TE G tok σ S n) (hn : n ≤ 8) {g : Gl} {t y i j : Nat} (ht : t + 1 < S) (h8 : σ 8 t = nI y) (hy : y < 6 ∨ (100 ≤ y ∧ y < 106)) (hR : RB G σ t = y :: RB G σ (t + 1)) (hf : fg G tok n g (y :: RB G σ (t + 1)) i j) : shE σ n S t i j = sp G tok y (RB G σ (t + 1)) i j := by
  obtain ⟨s1, s2, s3, s4, s5, s6⟩ := sp_ok hE.2.1 hn hf
  have hjn : j ≤ n := by have := hf.2.2.1; have := hf.1.2.2.1; omega
  have hb := Lr_bnd hE.2.1 hf.2.2.2.2.2.1 (show j ≤ 8 by omega) hf.2.2.2.1
  have hl4 : (RB G σ (t + 1)).length ≤ 4 := RB_len hE ht
  have hrow : σ (t + 34) (i * 9 + j) = nI (Lr G tok (y :: RB G σ (t + 1)) i j) := by
    rw [(hX i j (by omega) hjn).2 t (by omega), hR, enc_t (by omega)]
  have hsh : ∀ m, i ≤ m → m ≤ j → (shC σ n S t i j m = true ↔ Ls G tok y i m + Lr G tok (RB G σ (t + 1)) m j = Lr G tok (y :: RB G σ (t + 1)) i j) := fun m q1 q2 => by
    unfold shC
    rw [hrow]
    simp only [Bool.and_eq_true, Bool.not_eq_true', decide_eq_false_iff_not, decide_eq_true_eq]
    rw [splitS_enc hE hT hX hn ht h8 hy hl4 q1 q2 hjn (show Lr G tok (y :: RB G σ (t + 1)) i j < 1000000 by omega)]
    exact ⟨fun q => q.2, fun q => ⟨nI_m1 (by omega), q⟩⟩
  unfold shE
  refine shF_ok ⟨s1, s2⟩ (fun m q1 q2 => ?_) (fun q => (hsh _ s1 s2).mpr s3) (j - i) i (by omega) (Nat.le_refl _) s1
  cases hh : shC σ n S t i j m with
  | false => rfl
  | true => have := s6 m q1 ((hsh m q1 (by omega)).mp hh); omega
theorem lowPF_ok {v : Int32} {i j x : Nat} (h1 : ∀ p, p < x → lowPC σ n v i j p = false) (h2 : lowPC σ n v i j x = true) : ∀ k p, x < p + k → p ≤ x → lowPF σ n v i j k p = nI x
  | 0, p, q1, q2 => absurd q1 (by omega)
  | k + 1, p, q1, q2 => by
    rw [lowPF]
    by_cases e : p = x
    · subst e; rw [if_pos h2]
    · rw [if_neg (by rw [h1 p (by omega)]; decide)]; exact lowPF_ok h1 h2 k (p + 1) (by omega) (by omega)
theorem lowP_ok (hE : SE G σ S) (hX : TE G tok σ S n) (hn : n ≤ 8) {g : Gl} (hg : gd G tok n g) : lowP σ G.1 n (nI g.1) g.2.1 g.2.2 = nI (chp G tok g) := by
  obtain ⟨c1, c2, c3, c4, -⟩ := chp_ok hE.2.1 hn hg
  have hb := Lv_bnd hE.2.1 hg.1 (show g.2.2 ≤ 8 by have := hg.2.2.1; omega) hg.2.2.2
  have hsym : symS σ n (nI g.1) g.2.1 g.2.2 = nI (Lv G tok g.1 g.2.1 g.2.2) := by
    rw [symS_v hg.1, (hX _ _ hg.2.1 hg.2.2.1).1 _ hg.1, enc_t (by omega)]
  have hC : ∀ p, p < G.1 → (lowPC σ n (nI g.1) g.2.1 g.2.2 p = true ↔ G.2.1 p = g.1 ∧ Lr G tok (G.2.2 p) g.2.1 g.2.2 + 1 = Lv G tok g.1 g.2.1 g.2.2) := fun p hp => by
    obtain ⟨a1, a2, a3, a4⟩ := hE.1.2.2.2.2.1 p hp
    have a5 := (hE.2.2.1 p hp).1
    have h6 := (hE.2.1.2 p hp).1
    have hg6 := hg.1
    unfold lowPC
    rw [hsym, a1, a5, (hX _ _ hg.2.1 hg.2.2.1).2 _ a4, RB_first hE hp]
    simp only [Bool.and_eq_true, Bool.not_eq_true', decide_eq_false_iff_not, decide_eq_true_eq]
    rw [nI_eq (by omega) (by omega)]
    have e0 : nI (Lv G tok g.1 g.2.1 g.2.2) - nI 1 = nI (Lv G tok g.1 g.2.1 g.2.2 - 1) := pk_sub (by omega)
    rw [e0]
    constructor
    · rintro ⟨-, q1, q2⟩
      refine ⟨q1, ?_⟩
      by_cases e2 : Lr G tok (G.2.2 p) g.2.1 g.2.2 < 1000000
      · rw [enc_t e2] at q2
        have := (nI_eq (by omega) (by omega)).mp q2
        omega
      · unfold enc at q2; rw [if_neg e2] at q2; exact absurd q2.symm (nI_m1 (by omega))
    · rintro ⟨q1, q2⟩
      refine ⟨nI_m1 (by omega), q1, ?_⟩
      rw [enc_t (by omega)]; congr 1; omega
  unfold lowP
  refine lowPF_ok (fun p hp => ?_) ((hC _ c1).mpr ⟨c2, c3⟩) G.1 0 (by omega) (Nat.zero_le _)
  cases hh : lowPC σ n (nI g.1) g.2.1 g.2.2 p with
  | false => rfl
  | true =>
    have := (hC p (by omega)).mp hh
    have := c4 p (by omega) this.1 this.2
    omega
end WC
