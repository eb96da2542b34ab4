/-! the class's telling of the witness -/
section TL
variable {G : Grm} {tok : Nat → Nat} {n S : Nat} {L0 : List Gl}
/-- what the telling reads -/
def WB (G : Grm) (tok : Nat → Nat) (n S : Nat) (μ : Mem) : Prop := tS μ G.1 S n ∧ SE G μ S ∧ TK μ tok n ∧ TE G tok μ S n
def wOut (q : Nat) : Prop := q ≠ 5 ∧ (q < 15 ∨ 18 < q)
theorem WB_of {μ τ : Mem} (h : WB G tok n S μ) (he : ∀ q, wOut q → τ q = μ q) : WB G tok n S τ := by
  obtain ⟨h1, h2, h3, h4⟩ := h
  have e7 : τ 7 = μ 7 := he 7 (by unfold wOut; omega)
  have e9 : τ 9 = μ 9 := he 9 (by unfold wOut; omega)
  refine ⟨tS_low h1 (fun q a b => he q ⟨a, Or.inl b⟩), SE_of h2 (he 1 (by unfold wOut; omega)) (he 6 (by unfold wOut; omega)) e7 (he 8 (by unfold wOut; omega)) e9, fun i hi => by rw [he 10 (by unfold wOut; omega)]; exact h3 i hi, fun i j a b => ⟨fun v hv => ?_, fun t ht => ?_⟩⟩
  · rw [he (v + 28) (by unfold wOut; omega)]; exact (h4 i j a b).1 v hv
  · rw [he (t + 34) (by unfold wOut; omega), RB_of e7 e9]; exact (h4 i j a b).2 t ht
noncomputable def flat (G : Grm) (tok : Nat → Nat) (μ : Mem) : Nat → List Gl
  | 0 => []
  | e + 1 => gl G tok (RB G μ (msk (μ 16 e))) (msk (μ 17 e)) (msk (μ 18 e)) ++ flat G tok μ e
def pot (G : Grm) (μ : Mem) : Nat → Nat
  | 0 => 0
  | e + 1 => (RB G μ (msk (μ 16 e))).length + 1 + pot G μ e
def FR (G : Grm) (tok : Nat → Nat) (n S : Nat) (μ : Mem) (e : Nat) : Prop := ∃ t a b g, t < S ∧ μ 16 e = nI t ∧ μ 17 e = nI a ∧ μ 18 e = nI b ∧ fg G tok n g (RB G μ t) a b ∧ mu G tok g + e ≤ 53
def CI (G : Grm) (tok : Nat → Nat) (n S : Nat) (L0 : List Gl) (μ : Mem) (d c : Nat) : Prop := WB G tok n S μ ∧ μ 5 7 = nI d ∧ μ 5 3 = nI c ∧ d ≤ 54 ∧ told G tok L0 c (μ 15) ∧ Lq G tok L0 c = flat G tok μ d ∧ ∀ e, e < d → FR G tok n S μ e
theorem fr_eq {μ τ : Mem} (h7 : τ 7 = μ 7) (h9 : τ 9 = μ 9) : ∀ d, (∀ e, e < d → τ 16 e = μ 16 e ∧ τ 17 e = μ 17 e ∧ τ 18 e = μ 18 e) → flat G tok τ d = flat G tok μ d ∧ pot G τ d = pot G μ d
  | 0, _ => ⟨rfl, rfl⟩
  | d + 1, h => by
    obtain ⟨i1, i2⟩ := fr_eq h7 h9 d (fun e he => h e (by omega))
    obtain ⟨e1, e2, e3⟩ := h d (by omega)
    rw [flat, flat, pot, pot, i1, i2, e1, e2, e3, RB_of h7 h9]; exact ⟨rfl, rfl⟩
theorem FR_of {μ τ : Mem} {e : Nat} (h : FR G tok n S μ e) (h7 : τ 7 = μ 7) (h9 : τ 9 = μ 9) (he : τ 16 e = μ 16 e ∧ τ 17 e = μ 17 e ∧ τ 18 e = μ 18 e) : FR G tok n S τ e := by
  obtain ⟨t, a, b, g, q1, q2, q3, q4, q5, q6⟩ := h
  exact ⟨t, a, b, g, q1, by rw [he.1]; exact q2, by rw [he.2.1]; exact q3, by rw [he.2.2]; exact q4, by rw [RB_of h7 h9]; exact q5, q6⟩
theorem pot_le {μ : Mem} (hE : SE G μ S) : ∀ d, (∀ e, e < d → FR G tok n S μ e) → pot G μ d ≤ 5 * d
  | 0, _ => Nat.le_refl _
  | d + 1, h => by
    have ih := pot_le hE d (fun e he => h e (by omega))
    obtain ⟨t, a, b, g, q1, q2, -⟩ := h d (by omega)
    have hS := hE.1.2.1
    rw [pot, q2, msk_nI (by omega)]
    have := RB_len hE q1
    omega
/-- opening a goal -/
theorem open_ok {μ : Mem} {g : Gl} {d c : Nat} (hW : WB G tok n S μ) (hg : gd G tok n g) (hm : mu G tok g + d ≤ 53) (h3 : μ 5 3 = nI c) (ht : told G tok L0 c (μ 15)) (hL : Lq G tok L0 c = g :: flat G tok μ d) (hF : ∀ e, e < d → FR G tok n S μ e) (hc : c < 8000) :
    CI G tok n S L0 (openM μ G.1 n (nI g.1) g.2.1 g.2.2 d c) (d + 1) (c + 1) ∧ pot G (openM μ G.1 n (nI g.1) g.2.1 g.2.2 d c) (d + 1) ≤ pot G μ d + 5 ∧ ∀ q, wOut q → openM μ G.1 n (nI g.1) g.2.1 g.2.2 d c q = μ q := by
  have hn := hW.1.2.1
  have hE := hW.2.1
  have hS := hE.1.2.1
  have hP := hE.2.1.1
  obtain ⟨c1, c2, c3, c4, c5⟩ := chp_ok hE.2.1 hn hg
  have hlow := lowP_ok hE hW.2.2.2 hn hg
  obtain ⟨a1, a2, a3, a4⟩ := hE.1.2.2.2.2.1 _ c1
  have e : openM μ G.1 n (nI g.1) g.2.1 g.2.2 d c = mset (mset (mset (mset (mset (mset μ 15 c (nI (chp G tok g))) 5 3 (nI (c + 1))) 16 d (nI (gf μ (chp G tok g)))) 17 d (nI g.2.1)) 18 d (nI g.2.2)) 5 7 (nI (d + 1)) := by
    unfold openM
    rw [hlow, if_neg (nI_m1 (by omega)), if_pos (by omega), if_pos hc, nI_clamp (by omega), a3]
  rw [e]
  generalize hτ : mset (mset (mset (mset (mset (mset μ 15 c (nI (chp G tok g))) 5 3 (nI (c + 1))) 16 d (nI (gf μ (chp G tok g)))) 17 d (nI g.2.1)) 18 d (nI g.2.2)) 5 7 (nI (d + 1)) = τ
  have ho : ∀ q, wOut q → τ q = μ q := fun q hq => by
    obtain ⟨q1, q2⟩ := hq
    rw [← hτ, mset_n q1, mset_n (by omega), mset_n (by omega), mset_n (by omega), mset_n q1, mset_n (by omega)]
  have r16 : ∀ e, τ 16 e = if e = d then nI (gf μ (chp G tok g)) else μ 16 e := fun e => by rw [← hτ]; simp [mset, mrow, upd]
  have r17 : ∀ e, τ 17 e = if e = d then nI g.2.1 else μ 17 e := fun e => by rw [← hτ]; simp [mset, mrow, upd]
  have r18 : ∀ e, τ 18 e = if e = d then nI g.2.2 else μ 18 e := fun e => by rw [← hτ]; simp [mset, mrow, upd]
  have r15 : ∀ i, τ 15 i = if i = c then nI (chp G tok g) else μ 15 i := fun i => by rw [← hτ]; simp [mset, mrow, upd]
  have r57 : τ 5 7 = nI (d + 1) := by rw [← hτ]; simp [mset, mrow, upd]
  have r53 : τ 5 3 = nI (c + 1) := by rw [← hτ]; simp [mset, mrow, upd]
  have e7 : τ 7 = μ 7 := ho 7 (by unfold wOut; omega)
  have e9 : τ 9 = μ 9 := ho 9 (by unfold wOut; omega)
  have hold : ∀ e, e < d → τ 16 e = μ 16 e ∧ τ 17 e = μ 17 e ∧ τ 18 e = μ 18 e := fun e he => by
    rw [r16, r17, r18, if_neg (by omega), if_neg (by omega), if_neg (by omega)]; exact ⟨rfl, rfl, rfl⟩
  obtain ⟨f1, f2⟩ := fr_eq (G := G) (tok := tok) e7 e9 d hold
  have hRB : RB G τ (gf μ (chp G tok g)) = G.2.2 (chp G tok g) := by rw [RB_of e7 e9]; exact RB_first hE c1
  obtain ⟨t1, t2⟩ := told_upd ht hc hL (row' := τ 15) (fun i hi => by rw [r15, if_neg (by omega)]) (by rw [r15, if_pos rfl])
  have hg1 := hg.2.1
  have hg2 := hg.2.2.1
  refine ⟨⟨WB_of hW ho, r57, r53, by omega, t1, ?_, fun e he => ?_⟩, ?_, ho⟩
  · rw [t2, flat, f1, r16, r17, r18, if_pos rfl, if_pos rfl, if_pos rfl, msk_nI (by omega), msk_nI (by omega), msk_nI (by omega), hRB]; rfl
  · by_cases ed : e = d
    · subst ed
      exact ⟨gf μ (chp G tok g), g.2.1, g.2.2, g, a4, by rw [r16, if_pos rfl], by rw [r17, if_pos rfl], by rw [r18, if_pos rfl], by rw [hRB]; exact c5, hm⟩
    · exact FR_of (hF e (by omega)) e7 e9 (hold e (by omega))
  · rw [pot, f2, r16, if_pos rfl, msk_nI (by omega), hRB]
    have := (hE.2.1.2 _ c1).2.1
    omega
theorem CI_wI {μ : Mem} {d c : Nat} (h : CI G tok n S L0 μ d c) : wI μ G.1 S n d c := by
  obtain ⟨hW, h1, h2, h3, h4, h5, h6⟩ := h
  refine ⟨hW.1, h3, h4.1, h1, h2, fun e he => ?_⟩
  obtain ⟨t, a, b, g, q1, q2, q3, q4, q5, q6⟩ := h6 e he
  obtain ⟨m, hm⟩ := q5.2.2.2.1
  have := Rw_le _ hm
  have := q5.2.2.1
  have := q5.1.2.2.1
  exact ⟨t, a, b, q1, by omega, by omega, q2, q3, q4⟩
/-- one turn -/
theorem turn_ok {μ : Mem} {d c : Nat} (h : CI G tok n S L0 μ (d + 1) c) : ((∃ d' c', CI G tok n S L0 (goT G.1 S n μ) d' c' ∧ pot G (goT G.1 S n μ) d' + 6 * (8000 - c') < pot G μ (d + 1) + 6 * (8000 - c)) ∨ (c = 8000 ∧ wd (goT G.1 S n μ) = 0 ∧ goT G.1 S n μ 5 3 = nI 8000 ∧ goT G.1 S n μ 15 = μ 15)) ∧ ∀ q, wOut q → goT G.1 S n μ q = μ q := by
  have hwI := CI_wI h
  obtain ⟨hW, h1, h2, h3, h4, h5, h6⟩ := h
  obtain ⟨t, a, b, g, q1, q2, q3, q4, q5, q6⟩ := h6 d (by omega)
  have hn := hW.1.2.1
  have hE := hW.2.1
  have hS := hE.1.2.1
  obtain ⟨m0, hm0⟩ := q5.2.2.2.1
  have hab := Rw_le _ hm0
  have hbn : b ≤ n := by have := q5.2.2.1; have := q5.1.2.2.1; omega
  rw [← goT_eq hwI q2 q3 q4 q1 hab hbn]
  have hflat : flat G tok μ (d + 1) = gl G tok (RB G μ t) a b ++ flat G tok μ d := by
    rw [flat, q2, q3, q4, msk_nI (by omega), msk_nI (by omega), msk_nI (by omega)]
  have hpot : pot G μ (d + 1) = (RB G μ t).length + 1 + pot G μ d := by rw [pot, q2, msk_nI (by omega)]
  rcases RB_cases hE q1 with ⟨e1, e2⟩ | ⟨y, e1, e2, e3, e4⟩
  · have eg : goM μ G.1 S n d t a b c = mset μ 5 7 (nI d) := by unfold goM; rw [if_pos e2]
    rw [eg]
    have ho : ∀ q, q ≠ 5 → mset μ 5 7 (nI d) q = μ q := fun q hq => mset_n hq
    obtain ⟨f1, f2⟩ := fr_eq (G := G) (tok := tok) (ho 7 (by decide)) (ho 9 (by decide)) d (fun e _ => by rw [ho 16 (by decide), ho 17 (by decide), ho 18 (by decide)]; exact ⟨rfl, rfl, rfl⟩)
    refine ⟨Or.inl ⟨d, c, ⟨WB_of hW (fun q hq => ho q hq.1), mset_s, by rw [mset_i (by decide)]; exact h2, by omega, by rw [ho 15 (by decide)]; exact h4, ?_, fun e he => FR_of (h6 e (by omega)) (ho 7 (by decide)) (ho 9 (by decide)) (by rw [ho 16 (by decide), ho 17 (by decide), ho 18 (by decide)]; exact ⟨rfl, rfl, rfl⟩)⟩, ?_⟩, fun q hq => ho q hq.1⟩
    · rw [h5, hflat, e1, gl, f1]; rfl
    · rw [f2, hpot]; omega
  · rw [e1] at q5
    have hsp := shE_ok hE hW.2.2.1 hW.2.2.2 hn e3 e2 e4 e1 q5
    obtain ⟨n1, n2⟩ := fg_next hE.2.1 hn q5
    obtain ⟨s1, s2, -⟩ := sp_ok hE.2.1 hn q5
    generalize hx : sp G tok y (RB G μ (t + 1)) a b = x at hsp n1 n2 s1 s2
    have hgl : gl G tok (RB G μ t) a b = if y < 6 then (y, a, x) :: gl G tok (RB G μ (t + 1)) x b else gl G tok (RB G μ (t + 1)) x b := by rw [e1, gl, hx]
    have eg1 : go1 μ n S d t a b = mset (mset μ 16 d (nI (t + 1))) 17 d (nI x) := by unfold go1; rw [hsp]
    generalize hκ : go1 μ n S d t a b = κ at eg1
    have ho : ∀ q, q ≠ 16 → q ≠ 17 → κ q = μ q := fun q a b => by rw [eg1, mset_n b, mset_n a]
    have k16 : ∀ e, κ 16 e = if e = d then nI (t + 1) else μ 16 e := fun e => by rw [eg1]; simp [mset, mrow, upd]
    have k17 : ∀ e, κ 17 e = if e = d then nI x else μ 17 e := fun e => by rw [eg1]; simp [mset, mrow, upd]
    have hold : ∀ e, e < d → κ 16 e = μ 16 e ∧ κ 17 e = μ 17 e ∧ κ 18 e = μ 18 e := fun e he => by
      rw [k16, k17, ho 18 (by decide) (by decide), if_neg (by omega), if_neg (by omega)]; exact ⟨rfl, rfl, rfl⟩
    have e7 : κ 7 = μ 7 := ho 7 (by decide) (by decide)
    have e9 : κ 9 = μ 9 := ho 9 (by decide) (by decide)
    obtain ⟨f1, f2⟩ := fr_eq (G := G) (tok := tok) e7 e9 d hold
    have hoW : ∀ q, wOut q → κ q = μ q := fun q hq => ho q (by have := hq.2; omega) (by have := hq.2; omega)
    have hWκ := WB_of hW hoW
    have hkflat : flat G tok κ (d + 1) = gl G tok (RB G μ (t + 1)) x b ++ flat G tok μ d := by
      rw [flat, f1, k16, k17, ho 18 (by decide) (by decide), q4, if_pos rfl, if_pos rfl, msk_nI (by omega), msk_nI (by omega), msk_nI (by omega), RB_of e7 e9]
    have hkpot : pot G κ (d + 1) = (RB G μ (t + 1)).length + 1 + pot G μ d := by
      rw [pot, f2, k16, if_pos rfl, msk_nI (by omega), RB_of e7 e9]
    have hkF : ∀ e, e < d + 1 → FR G tok n S κ e := fun e he => by
      by_cases ed : e = d
      · subst ed
        exact ⟨t + 1, x, b, g, e3, by rw [k16, if_pos rfl], by rw [k17, if_pos rfl], by rw [ho 18 (by decide) (by decide)]; exact q4, by rw [RB_of e7 e9]; exact n1, q6⟩
      · exact FR_of (h6 e (by omega)) e7 e9 (hold e (by omega))
    have h15 : κ 15 = μ 15 := ho 15 (by decide) (by decide)
    have h5' : κ 5 = μ 5 := ho 5 (by decide) (by decide)
    have hlen : (RB G μ t).length = (RB G μ (t + 1)).length + 1 := by rw [e1, List.length_cons]
    by_cases hy : y < 6
    · have eg : goM μ G.1 S n d t a b c = openM κ G.1 n (nI y) a x (d + 1) c := by
        unfold goM
        rw [if_neg (by rw [e2]; exact nI_m1 (by omega)), if_pos (by rw [e2, isV_nI (by omega)]; exact decide_eq_true hy), hκ, e2, hsp]
      rw [eg]
      obtain ⟨g1, g2⟩ := n2 hy
      have hLq : Lq G tok L0 c = (y, a, x) :: flat G tok κ (d + 1) := by rw [h5, hflat, hgl, if_pos hy, hkflat]; rfl
      by_cases hc : c < 8000
      · obtain ⟨r1, r2, r3⟩ := open_ok (g := (y, a, x)) (d := d + 1) hWκ g1 (by omega) (by rw [h5']; exact h2) (by rw [h15]; exact h4) hLq hkF hc
        refine ⟨Or.inl ⟨d + 1 + 1, c + 1, r1, ?_⟩, fun q hq => by rw [← hoW q hq]; exact r3 q hq⟩
        have r2' : pot G (openM κ G.1 n (nI y) a x (d + 1) c) (d + 1 + 1) ≤ pot G κ (d + 1) + 5 := r2
        rw [hkpot] at r2'
        rw [hpot]; omega
      · have hc8 : c = 8000 := by have := h4.1; omega
        have hlow : lowP κ G.1 n (nI y) a x = nI (chp G tok (y, a, x)) := lowP_ok hWκ.2.1 hWκ.2.2.2 hn g1
        have hch := (chp_ok hE.2.1 hn g1).1
        have hP := hE.2.1.1
        have eo : openM κ G.1 n (nI y) a x (d + 1) c = mset κ 5 7 (nI 0) := by
          unfold openM
          rw [hlow, if_neg (nI_m1 (by omega)), if_pos (by omega), if_neg hc]
        rw [eo]
        refine ⟨Or.inr ⟨hc8, by unfold wd; rw [mset_s]; rfl, by rw [mset_i (by decide), h5', h2, hc8], by rw [mset_n (by decide), h15]⟩, fun q hq => by rw [mset_n hq.1]; exact hoW q hq⟩
    · have eg : goM μ G.1 S n d t a b c = κ := by
        unfold goM
        rw [if_neg (by rw [e2]; exact nI_m1 (by omega)), if_neg (by rw [e2, isV_nI (by omega)]; simp; omega), hκ]
      rw [eg]
      refine ⟨Or.inl ⟨d + 1, c, ⟨hWκ, by rw [h5']; exact h1, by rw [h5']; exact h2, h3, by rw [h15]; exact h4, ?_, hkF⟩, ?_⟩, hoW⟩
      · rw [h5, hflat, hgl, if_neg hy, hkflat]
      · rw [hkpot, hpot, hlen]; omega
theorem tellF_ok : ∀ (k : Nat) (μ : Mem) (d c : Nat), CI G tok n S L0 μ d c → pot G μ d + 6 * (8000 - c) ≤ k → (∃ c', fin G tok L0 c' (tellF G.1 S n k μ 15) ∧ tellF G.1 S n k μ 5 3 = nI c') ∧ ∀ q, wOut q → tellF G.1 S n k μ q = μ q := by
  intro k
  induction k with
  | zero =>
    intro μ d c h hp
    rw [tellF]
    refine ⟨⟨c, ⟨h.2.2.2.2.1, Or.inr ?_⟩, h.2.2.1⟩, fun _ _ => rfl⟩
    have := h.2.2.2.2.1.1; omega
  | succ k ih =>
    intro μ d c h hp
    have hd : wd μ = d := by unfold wd; rw [h.2.1, nI_clamp (by have := h.2.2.2.1; omega)]
    rw [tellF, hd]
    cases d with
    | zero =>
      rw [if_neg (Nat.lt_irrefl _)]
      exact ⟨⟨c, ⟨h.2.2.2.2.1, Or.inl h.2.2.2.2.2.1⟩, h.2.2.1⟩, fun _ _ => rfl⟩
    | succ d =>
      rw [if_pos (by omega)]
      obtain ⟨⟨d', c', h1, h2⟩ | ⟨h1, h2, h3, h4⟩, ho⟩ := turn_ok h
      · obtain ⟨g1, g2⟩ := ih _ d' c' h1 (by omega)
        exact ⟨g1, fun q hq => by rw [g2 q hq, ho q hq]⟩
      · rw [tellF_stop (by omega)]
        refine ⟨⟨8000, ⟨?_, Or.inr rfl⟩, h3⟩, ho⟩
        rw [h4, ← h1]; exact h.2.2.2.2.1
/-- the class's witness -/
theorem tellE_ok {σ : Mem} {v : Nat} (hW : WB G tok n S σ) (hv : σ 6 0 = nI v) (hg : gd G tok n (v, 0, n)) : (∃ c', fin G tok [(v, 0, n)] c' (tellE σ G.1 S n 15) ∧ tellE σ G.1 S n 5 3 = nI c') ∧ ∀ q, wOut q → tellE σ G.1 S n q = σ q := by
  have hn := hW.1.2.1
  have ho : ∀ q, wOut q → mset (mset σ 5 3 (nI 0)) 5 7 (nI 0) q = σ q := fun q hq => by rw [mset_n hq.1, mset_n hq.1]
  obtain ⟨r1, r2, r3⟩ := open_ok (L0 := [(v, 0, n)]) (μ := mset (mset σ 5 3 (nI 0)) 5 7 (nI 0)) (g := (v, 0, n)) (d := 0) (c := 0) (WB_of hW ho) hg (by have := mu_le hg hn; omega) (by rw [mset_i (by decide), mset_s]) ⟨by decide, fun i hi => absurd hi (Nat.not_lt_zero _)⟩ rfl (fun e he => absurd he (Nat.not_lt_zero _)) (by decide)
  have r2' : pot G (openM (mset (mset σ 5 3 (nI 0)) 5 7 (nI 0)) G.1 n (nI v) 0 n 0 0) 1 ≤ 0 + 5 := r2
  obtain ⟨g1, g2⟩ := tellF_ok 1000000 _ 1 1 r1 (by
    show pot G (openM (mset (mset σ 5 3 (nI 0)) 5 7 (nI 0)) G.1 n (nI v) 0 n 0 0) 1 + 6 * (8000 - 1) ≤ 1000000
    omega)
  unfold tellE
  rw [hv]
  exact ⟨g1, fun q hq => by rw [g2 q hq]; exact (r3 q hq).trans (ho q hq)⟩
end TL
