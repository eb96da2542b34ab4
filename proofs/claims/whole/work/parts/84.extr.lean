/-! the model's telling of the witness: what its loops keep -/
section XT
variable {G : Grm} {tok : Nat → Nat} {n P : Nat} {κ0 : Mem} {L0 : List Gl}
theorem Gm_of {σ τ : Mem} {P : Nat} (h1 : τ 1 = σ 1) (h2 : τ 2 = σ 2) (h3 : τ 3 = σ 3) : Gm τ P = Gm σ P := by
  have e1 : ml τ = ml σ := by funext p; unfold ml; rw [h1]
  have e2 : mn τ = mn σ := by funext p; unfold mn; rw [h2]
  have e3 : mr τ = mr σ := by funext p; unfold mr; rw [h3]
  unfold Gm; rw [e1, e2, e3]
/-- behind work() the table is right -/
theorem wrk_TM {σ τ : Mem} {s r : Nat → Nat} (hg : mG σ P) (hm : MK σ tok n) (hn : n ≤ 8) (hs : leN s) (hr : leN r) (hk : ¬ σ 0 12 = 0 → TM (Gm σ P) tok n s) (h : wrkP (mset σ 0 2 (nI 0)) P n s r τ) : ∃ κ s1 r1, τ = msr κ s1 r1 ∧ leN s1 ∧ leN r1 ∧ TM (Gm σ P) tok n s1 ∧ (∀ q, q ≠ 0 → κ q = σ q) ∧ (∀ f, f ≠ 2 → f ≠ 12 → κ 0 f = σ 0 f) ∧ κ 0 2 = nI 0 := by
  rcases h with ⟨h1, e⟩ | ⟨h1, N, e, hf, hl⟩
  · rw [mset_i (by decide)] at h1
    exact ⟨_, s, r, e, hs, hr, hk h1, fun q hq => mset_n hq, fun f h2 _ => mset_i h2, mset_s⟩
  · refine ⟨_, _, _, e, hl.1, hl.2, ?_, fun q hq => by rw [mset_n hq, mset_n hq], fun f h2 h12 => by rw [mset_i h12, mset_i h2], by rw [mset_i (by decide), mset_s]⟩
    have hq : ∀ q, q ≠ 0 → mset (mset σ 0 2 (nI 0)) 0 12 (nI 1) q = σ q := fun q hq => by rw [mset_n hq, mset_n hq]
    have hg' : mG (mset (mset σ 0 2 (nI 0)) 0 12 (nI 1)) P := mG_of hg (by rw [mset_i (by decide), mset_i (by decide)]) (hq 1 (by decide)) (hq 2 (by decide)) (hq 3 (by decide))
    have := wk_ok (tok := tok) hg' (fun j a b => by rw [hq 4 (by decide)]; exact hm j a b) hn hs hf
    rw [Gm_of (hq 1 (by decide)) (hq 2 (by decide)) (hq 3 (by decide))] at this
    exact this
def EB (G : Grm) (tok : Nat → Nat) (n P : Nat) (κ0 κ : Mem) : Prop := mG κ P ∧ MK κ tok n ∧ Gm κ P = G ∧ (∀ q, q ≠ 0 → q ≠ 8 → q ≠ 9 → κ q = κ0 q) ∧ (∀ f, f ≠ 14 → κ 0 f = κ0 0 f)
theorem EB_of {κ τ : Mem} (h : EB G tok n P κ0 κ) (hq : ∀ q, q ≠ 0 → q ≠ 8 → q ≠ 9 → τ q = κ q) (h0 : ∀ f, f ≠ 14 → τ 0 f = κ 0 f) : EB G tok n P κ0 τ := by
  obtain ⟨h1, h2, h3, h4, h5⟩ := h
  have e1 := hq 1 (by decide) (by decide) (by decide)
  have e2 := hq 2 (by decide) (by decide) (by decide)
  have e3 := hq 3 (by decide) (by decide) (by decide)
  exact ⟨mG_of h1 (h0 3 (by decide)) e1 e2 e3, fun j a b => by rw [hq 4 (by decide) (by decide) (by decide)]; exact h2 j a b, by rw [Gm_of e1 e2 e3]; exact h3, fun q a b c => by rw [hq q a b c]; exact h4 q a b c, fun f hf => by rw [h0 f hf]; exact h5 f hf⟩
theorem EB_9 {κ : Mem} {i : Nat} {x : Int32} (h : EB G tok n P κ0 κ) : EB G tok n P κ0 (mset κ 9 i x) := EB_of h (fun q _ _ c => mset_n c) (fun f _ => by rw [mset_n (by decide)])
theorem EB_8 {κ : Mem} {i : Nat} {x : Int32} (h : EB G tok n P κ0 κ) : EB G tok n P κ0 (mset κ 8 i x) := EB_of h (fun q _ b _ => mset_n b) (fun f _ => by rw [mset_n (by decide)])
theorem EB_0 {κ : Mem} {x : Int32} (h : EB G tok n P κ0 κ) : EB G tok n P κ0 (mset κ 0 14 x) := EB_of h (fun q a _ _ => mset_n a) (fun f hf => mset_i hf)
def cd (g : Gl) : Nat := 100 * g.1 + 10 * g.2.1 + g.2.2
def dcd (x : Int32) : Gl := (msk x / 100, msk x / 10 % 10, msk x % 10)
theorem gd_lt {g : Gl} (hn : n ≤ 8) (h : gd G tok n g) : g.1 < 6 ∧ g.2.1 ≤ 8 ∧ g.2.2 ≤ 8 := by
  obtain ⟨h1, h2, h3, -⟩ := h
  omega
theorem cd_dec {g : Gl} (h : g.1 < 6 ∧ g.2.1 ≤ 8 ∧ g.2.2 ≤ 8) : cd g / 100 = g.1 ∧ cd g / 10 % 10 = g.2.1 ∧ cd g % 10 = g.2.2 ∧ cd g < 600 := by unfold cd; omega
theorem dcd_cd {g : Gl} (h : g.1 < 6 ∧ g.2.1 ≤ 8 ∧ g.2.2 ≤ 8) : dcd (nI (cd g)) = g := by
  obtain ⟨h1, h2, h3, h4⟩ := cd_dec h
  unfold dcd
  rw [msk_nI (by omega), h1, h2, h3]
noncomputable def SK (G : Grm) (tok : Nat → Nat) (n : Nat) (κ : Mem) (e : Nat) : Prop := ∃ g : Gl, κ 9 e = nI (cd g) ∧ gd G tok n g ∧ e + 3 * mu G tok g ≤ 159
def stk (κ : Mem) : Nat → List Gl
  | 0 => []
  | e + 1 => dcd (κ 9 e) :: stk κ e
theorem stk_eq {κ τ : Mem} : ∀ e, (∀ x, x < e → τ 9 x = κ 9 x) → stk τ e = stk κ e
  | 0, _ => rfl
  | e + 1, h => by rw [stk, stk, h e (by omega), stk_eq e (fun x hx => h x (by omega))]
theorem SK_eq {κ τ : Mem} {e : Nat} (h : SK G tok n κ e) (he : τ 9 e = κ 9 e) : SK G tok n τ e := by
  obtain ⟨g, a, b⟩ := h; exact ⟨g, by rw [he]; exact a, b⟩
/-- before a turn -/
def XI (G : Grm) (tok : Nat → Nat) (n P : Nat) (κ0 : Mem) (L0 : List Gl) (κ : Mem) (m c : Nat) : Prop := EB G tok n P κ0 κ ∧ κ 0 14 = nI c ∧ told G tok L0 c (κ 8) ∧ Lq G tok L0 c = stk κ m ∧ ∀ e, e < m → SK G tok n κ e
/-- in a turn: g was taken and told -/
def XJ (G : Grm) (tok : Nat → Nat) (n P : Nat) (κ0 : Mem) (L0 : List Gl) (κ : Mem) (m c : Nat) (g : Gl) : Prop := EB G tok n P κ0 κ ∧ κ 0 14 = nI c ∧ told G tok L0 c (κ 8) ∧ Lq G tok L0 c = kds G tok g ++ stk κ m ∧ (∀ e, e < m → SK G tok n κ e) ∧ gd G tok n g ∧ m + 3 * mu G tok g ≤ 159
theorem XI_160 {κ : Mem} {m c : Nat} (h : XI G tok n P κ0 L0 κ m c) : m ≤ 160 := by
  cases m with
  | zero => omega
  | succ m => obtain ⟨g, -, -, h1⟩ := h.2.2.2.2 m (by omega); omega
theorem XI_pop {κ : Mem} {m c : Nat} (hn : n ≤ 8) (h : XI G tok n P κ0 L0 κ (m + 1) c) (hc : c < 8000) : ∃ g, κ 9 m = nI (cd g) ∧ gd G tok n g ∧ XJ G tok n P κ0 L0 (mset (mset κ 8 c (nI (chp G tok g))) 0 14 (nI (c + 1))) m (c + 1) g := by
  obtain ⟨h1, h2, h3, h4, h5⟩ := h
  obtain ⟨g, q1, q2, q3⟩ := h5 m (by omega)
  have hst : stk κ (m + 1) = g :: stk κ m := by rw [stk, q1, dcd_cd (gd_lt hn q2)]
  rw [hst] at h4
  obtain ⟨t1, t2⟩ := told_upd h3 hc h4 (row' := mset (mset κ 8 c (nI (chp G tok g))) 0 14 (nI (c + 1)) 8) (fun i hi => by rw [mset_n (by decide), mset_i (by omega)]) (by rw [mset_n (by decide), mset_s])
  have e9 : mset (mset κ 8 c (nI (chp G tok g))) 0 14 (nI (c + 1)) 9 = κ 9 := by rw [mset_n (by decide), mset_n (by decide)]
  refine ⟨g, q1, q2, EB_0 (EB_8 h1), mset_s, t1, ?_, fun e he => SK_eq (h5 e (by omega)) (by rw [e9]), q2, q3⟩
  rw [t2, stk_eq (κ := κ) (τ := mset (mset κ 8 c (nI (chp G tok g))) 0 14 (nI (c + 1))) m (fun x _ => by rw [e9])]
theorem XJ_9 {κ : Mem} {m c i : Nat} {g : Gl} {x : Int32} (h : XJ G tok n P κ0 L0 κ m c g) (hi : m ≤ i) : XJ G tok n P κ0 L0 (mset κ 9 i x) m c g := by
  obtain ⟨h1, h2, h3, h4, h5, h6, h7⟩ := h
  have e9 : ∀ e, e < m → mset κ 9 i x 9 e = κ 9 e := fun e he => mset_i (by omega)
  exact ⟨EB_9 h1, by rw [mset_n (by decide)]; exact h2, by rw [mset_n (by decide)]; exact h3, by rw [h4, stk_eq m e9], fun e he => SK_eq (h5 e he) (e9 e he), h6, h7⟩
/-- the production that the model chooses -/
theorem chN_at {κ : Mem} {s : Nat → Nat} {v i j x : Nat} (hx : ∀ p, p < x → ml κ p = v → ∀ r, ¬ nI (rowN κ s p j r i) = nI (stN κ s v i j) - nI 1) (h1 : ml κ x = v) (h2 : ∀ r, nI (rowN κ s x j r i) = nI (stN κ s v i j) - nI 1) : ∀ k p r, x < p + k → p ≤ x → leN r → ∃ r0, leN r0 ∧ chN κ s v i j k p r = (nI x, rowN κ s x j r0)
  | 0, p, r, q1, q2, _ => absurd q1 (by omega)
  | k + 1, p, r, q1, q2, hr => by
    rw [chN]
    by_cases e : p = x
    · subst e; rw [if_pos h1, if_pos (h2 r)]; exact ⟨r, hr, rfl⟩
    · by_cases e2 : ml κ p = v
      · rw [if_pos e2, if_neg (hx p (by omega) e2 r)]; exact chN_at hx h1 h2 k (p + 1) _ (by omega) (by omega) (leN_row hr)
      · rw [if_neg e2]; exact chN_at hx h1 h2 k (p + 1) r (by omega) (by omega) hr
/-- the row of the chosen production -/
def RQ (G : Grm) (tok : Nat → Nat) (p j : Nat) (r : Nat → Nat) : Prop := leN r ∧ ∀ d a, d ≤ (G.2.2 p).length → a ≤ j → r (9 * d + a) = Lr G tok ((G.2.2 p).drop d) a j
theorem ch_ok {κ : Mem} {s r : Nat → Nat} {g : Gl} (hn : n ≤ 8) (hE : EB G tok n P κ0 κ) (ht : TM G tok n s) (hr : leN r) (hgd : gd G tok n g) : (chN κ s g.1 g.2.1 g.2.2 P 0 r).1 = nI (chp G tok g) ∧ RQ G tok (chp G tok g) g.2.2 (chN κ s g.1 g.2.1 g.2.2 P 0 r).2 := by
  obtain ⟨hg, hm, rfl, -, -⟩ := hE
  have hG := Gm_ok hg
  obtain ⟨c1, c2, c3, c4, -⟩ := chp_ok hG hn hgd
  obtain ⟨g1, g2, g3, g4⟩ := hgd
  have hst : stN κ s g.1 g.2.1 g.2.2 = Lv (Gm κ P) tok g.1 g.2.1 g.2.2 := by rw [stN_v g1, ht.2 _ _ _ g1 g2 g3]
  have hb := Lv_bnd hG g1 (show g.2.2 ≤ 8 by omega) g4
  have hrow : ∀ p r, p < P → rowN κ s p g.2.2 r g.2.1 = Lr (Gm κ P) tok ((Gm κ P).2.2 p) g.2.1 g.2.2 := fun p r hp => by
    have := row_right hg hm hn ht (p := p) (j := g.2.2) hp g3 (r := r) (d := 0) (a := g.2.1) (Nat.zero_le _) g2
    rw [Nat.mul_zero, Nat.zero_add, List.drop_zero] at this
    exact this
  have hsub : nI (stN κ s g.1 g.2.1 g.2.2) - nI 1 = nI (Lv (Gm κ P) tok g.1 g.2.1 g.2.2 - 1) := by rw [hst]; exact pk_sub (by omega)
  have hle : ∀ p, p < P → Lr (Gm κ P) tok ((Gm κ P).2.2 p) g.2.1 g.2.2 ≤ 1000000 := fun p hp => by
    by_cases q : ∃ m, Rw (Sy tok (Dr (Gm κ P) tok)) ((Gm κ P).2.2 p) g.2.1 g.2.2 m
    · have := Lr_bnd hG (by rw [Gm_len]; exact mG_m hg hp) (show g.2.2 ≤ 8 by omega) q; omega
    · unfold Lr; rw [lst_no q]; exact Nat.le_refl _
  have c1' : chp (Gm κ P) tok g < P := c1
  obtain ⟨r0, hr0, e⟩ := chN_at (κ := κ) (s := s) (v := g.1) (i := g.2.1) (j := g.2.2) (x := chp (Gm κ P) tok g) (fun p hp hv r q => by
    rw [hrow p r (by omega), hsub] at q
    have h1 := (nI_eq (by have := hle p (by omega); omega) (by omega)).mp q
    have := c4 p (show p < P by omega) hv (by omega)
    omega) c2 (fun r => by rw [hrow _ r c1', hsub]; congr 1; omega) P 0 r (by omega) (Nat.zero_le _) hr
  rw [e]
  refine ⟨rfl, leN_row hr0, fun d a hd ha => ?_⟩
  rw [Gm_len] at hd
  exact row_right hg hm hn ht c1' g3 hd ha
theorem stN_Ls {κ : Mem} {s : Nat → Nat} {y a b : Nat} (hE : EB G tok n P κ0 κ) (ht : TM G tok n s) (hy : y < 6 ∨ (100 ≤ y ∧ y < 106)) (hab : a ≤ b) (hb : b ≤ n) : stN κ s y a b = Ls G tok y a b := by
  rcases hy with hy | hy
  · rw [stN_v hy, ht.2 y a b hy hab hb, Ls_v hy]
  · rw [stN_t hE.2.1 hy hb]
    by_cases e : b = a + 1 ∧ tok b = y
    · rw [if_pos e]; exact (lst_eq ((Sy_t (by omega)).mpr ⟨e.1, e.2, rfl⟩) (fun _ _ => Nat.zero_le _)).symm
    · rw [if_neg e]; exact (lst_no (fun ⟨m, q⟩ => e ⟨((Sy_t (by omega)).mp q).1, ((Sy_t (by omega)).mp q).2.1⟩)).symm
/-- the goals that were found stand behind the stack -/
def KP (G : Grm) (tok : Nat → Nat) (n : Nat) (κ : Mem) (m : Nat) (g : Gl) (K : List Gl) : Prop := ∀ q x, K[q]? = some x → κ 9 (m + q) = nI (cd x) ∧ gd G tok n x ∧ mu G tok x < mu G tok g
def XK (G : Grm) (tok : Nat → Nat) (n P : Nat) (κ0 : Mem) (L0 : List Gl) (κ : Mem) (m c : Nat) (g : Gl) (y a d : Nat) : Prop := XJ G tok n P κ0 L0 κ m c g ∧ y ≤ d ∧ fg G tok n g ((G.2.2 (chp G tok g)).drop d) a g.2.2 ∧ ∃ K : List Gl, K.length = y ∧ kds G tok g = K ++ gl G tok ((G.2.2 (chp G tok g)).drop d) a g.2.2 ∧ KP G tok n κ m g K
theorem XJ_ok {κ : Mem} {m c : Nat} {g : Gl} (h : XJ G tok n P κ0 L0 κ m c g) : okR G := by have := h.1.2.2.1; rw [← this]; exact Gm_ok h.1.1
theorem XK_start {κ : Mem} {m c : Nat} {g : Gl} (hn : n ≤ 8) (h : XJ G tok n P κ0 L0 κ m c g) : XK G tok n P κ0 L0 κ m c g 0 g.2.1 0 := by
  refine ⟨h, Nat.le_refl _, ?_, [], rfl, rfl, fun q x hq => by cases hq⟩
  rw [List.drop_zero]; exact (chp_ok (XJ_ok h) hn h.2.2.2.2.2.1).2.2.2.2
theorem XK_row {κ : Mem} {m c y a d : Nat} {g : Gl} (h : XK G tok n P κ0 L0 κ m c g y a d) : chp G tok g < P ∧ (G.2.2 (chp G tok g)).length = mn κ (chp G tok g) ∧ mn κ (chp G tok g) ≤ 4 ∧ a ≤ g.2.2 ∧ ∀ d, d < mn κ (chp G tok g) → (G.2.2 (chp G tok g)).drop d = mr κ (4 * chp G tok g + d) :: (G.2.2 (chp G tok g)).drop (d + 1) := by
  have hc : g.2.2 ≤ n := h.1.2.2.2.2.2.1.2.2.1
  obtain ⟨hJ, -, hf, -⟩ := h
  have hgd := hJ.2.2.2.2.2.1
  obtain ⟨hg, -, rfl, -, -⟩ := hJ.1
  have hl : chp (Gm κ P) tok g < P := by
    obtain ⟨p, m', p1, p2, p3, p4⟩ := Dr_inv (lst_in hgd.2.2.2)
    have e3 : Lv (Gm κ P) tok g.1 g.2.1 g.2.2 = m' + 1 := p3
    have l1 : Lr (Gm κ P) tok ((Gm κ P).2.2 p) g.2.1 g.2.2 ≤ m' := lst_le p4
    have l2 : Lv (Gm κ P) tok g.1 g.2.1 g.2.2 ≤ Lr (Gm κ P) tok ((Gm κ P).2.2 p) g.2.1 g.2.2 + 1 := lst_le (p2 ▸ Dr_cl p p1 _ _ _ (lst_in ⟨m', p4⟩))
    have hle : chp (Gm κ P) tok g ≤ p := lst_le ⟨p1, p2, by omega⟩
    have p1' : p < P := p1
    omega
  obtain ⟨m0, hm0⟩ := hf.2.2.2.1
  exact ⟨hl, Gm_len, mG_m hg hl, Rw_le _ hm0, fun d hd => Gm_drop hd⟩
theorem XK_step {κ : Mem} {m c y a d z : Nat} {ys : List Nat} {g : Gl} (hn : n ≤ 8) (h : XK G tok n P κ0 L0 κ m c g y a d) (hd : (G.2.2 (chp G tok g)).drop d = z :: ys) (hys : (G.2.2 (chp G tok g)).drop (d + 1) = ys) :
    (¬ z < 6 → XK G tok n P κ0 L0 κ m c g y (sp G tok z ys a g.2.2) (d + 1)) ∧ (z < 6 → XK G tok n P κ0 L0 (mset κ 9 (m + y) (nI (cd (z, a, sp G tok z ys a g.2.2)))) m c g (y + 1) (sp G tok z ys a g.2.2) (d + 1)) := by
  obtain ⟨hJ, h2, h3, K, k1, k2, k3⟩ := h
  rw [hd] at h3 k2
  obtain ⟨n1, n2⟩ := fg_next (XJ_ok hJ) hn h3
  refine ⟨fun hz => ⟨hJ, by omega, by rw [hys]; exact n1, K, k1, ?_, k3⟩, fun hz => ⟨XJ_9 hJ (by omega), by omega, by rw [hys]; exact n1, K ++ [(z, a, sp G tok z ys a g.2.2)], by rw [List.length_append, k1]; rfl, ?_, fun q x hq => ?_⟩⟩
  · rw [k2, gl, if_neg hz, hys]
  · rw [k2, gl, if_pos hz, hys, List.append_assoc]; rfl
  · by_cases e : q < K.length
    · rw [List.getElem?_append_left e] at hq
      obtain ⟨x1, x2⟩ := k3 q x hq
      exact ⟨by rw [mset_i (by omega)]; exact x1, x2⟩
    · have hlt := (List.getElem?_eq_some_iff.mp hq).1
      rw [List.length_append] at hlt
      have eq : q = y := by have hlt' : q < K.length + 1 := hlt; omega
      subst eq
      rw [List.getElem?_append_right (by omega), k1, Nat.sub_self] at hq
      obtain rfl := Option.some.inj hq
      exact ⟨mset_s, n2 hz⟩
def rho (y k q : Nat) : Nat := if q < k ∨ y ≤ q + k then y - 1 - q else q
/-- k of them have changed places with those at the other end -/
def XRv (G : Grm) (tok : Nat → Nat) (n P : Nat) (κ0 : Mem) (L0 : List Gl) (κ : Mem) (m c : Nat) (g : Gl) (y k : Nat) : Prop := XJ G tok n P κ0 L0 κ m c g ∧ y ≤ 4 ∧ ∃ K : List Gl, K.length = y ∧ kds G tok g = K ∧ ∀ q x, K[q]? = some x → κ 9 (m + rho y k q) = nI (cd x) ∧ gd G tok n x ∧ mu G tok x < mu G tok g
theorem XK_end {κ : Mem} {m c y a d : Nat} {g : Gl} (h : XK G tok n P κ0 L0 κ m c g y a d) (hd : mn κ (chp G tok g) ≤ d) (hd4 : d ≤ 4) : XRv G tok n P κ0 L0 κ m c g y 0 := by
  obtain ⟨r1, r2, -⟩ := XK_row h
  obtain ⟨hJ, h2, h3, K, k1, k2, k3⟩ := h
  rw [List.drop_eq_nil_of_le (by omega), gl, List.append_nil] at k2
  refine ⟨hJ, by omega, K, k1, k2, fun q x hq => ?_⟩
  have hlt := (List.getElem?_eq_some_iff.mp hq).1
  rw [show rho y 0 q = q by unfold rho; rw [if_neg (by omega)]]
  exact k3 q x hq
theorem XRv_step {κ : Mem} {m c y k : Nat} {g : Gl} (h : XRv G tok n P κ0 L0 κ m c g y k) (hk : k < y / 2) : XRv G tok n P κ0 L0 (mset (mset κ 9 (m + y - 1 - k) (κ 9 (m + k))) 9 (m + k) (κ 9 (m + y - 1 - k))) m c g y (k + 1) := by
  obtain ⟨hJ, h2, K, k1, k2, k3⟩ := h
  refine ⟨XJ_9 (XJ_9 hJ (by omega)) (by omega), h2, K, k1, k2, fun q x hq => ?_⟩
  obtain ⟨x1, x2⟩ := k3 q x hq
  have hlt := (List.getElem?_eq_some_iff.mp hq).1
  refine ⟨?_, x2⟩
  rw [← x1]
  by_cases e1 : q = k
  · have r1 : rho y (k + 1) q = y - 1 - k := by unfold rho; rw [if_pos (by omega)]; omega
    have r2 : rho y k q = k := by unfold rho; rw [if_neg (by omega)]; omega
    rw [r1, r2, show m + (y - 1 - k) = m + y - 1 - k by omega, mset_i (by omega), mset_s]
  · by_cases e2 : q = y - 1 - k
    · have r1 : rho y (k + 1) q = k := by unfold rho; rw [if_pos (by omega)]; omega
      have r2 : rho y k q = y - 1 - k := by unfold rho; rw [if_neg (by omega)]; omega
      rw [r1, r2, mset_s, show m + (y - 1 - k) = m + y - 1 - k by omega]
    · have r1 : rho y (k + 1) q = rho y k q := by
        unfold rho
        by_cases e3 : q < k ∨ y ≤ q + k
        · rw [if_pos e3, if_pos (by omega)]
        · rw [if_neg e3, if_neg (by omega)]
      have hne : rho y k q ≠ k ∧ rho y k q ≠ y - 1 - k := by
        unfold rho
        by_cases e3 : q < k ∨ y ≤ q + k
        · rw [if_pos e3]; omega
        · rw [if_neg e3]; omega
      rw [r1, mset_i (by omega), mset_i (by omega)]
theorem XRv_end {κ : Mem} {m c y k : Nat} {g : Gl} (hn : n ≤ 8) (h : XRv G tok n P κ0 L0 κ m c g y k) (hk : ¬ k < y / 2) (hk2 : k ≤ y / 2) : XI G tok n P κ0 L0 κ (m + y) c := by
  obtain ⟨⟨h1, h2, h3, h4, h5, h6, h7⟩, hy4, K, k1, k2, k3⟩ := h
  have hrho : ∀ q, q < y → rho y k q = y - 1 - q := fun q hq => by
    unfold rho
    by_cases e : q < k ∨ y ≤ q + k
    · rw [if_pos e]
    · rw [if_neg e]; omega
  have hat : ∀ q, q < y → ∃ x, K[y - 1 - q]? = some x ∧ κ 9 (m + q) = nI (cd x) ∧ gd G tok n x ∧ mu G tok x < mu G tok g := fun q hq => by
    have hlt : y - 1 - q < K.length := by omega
    refine ⟨K[y - 1 - q], List.getElem?_eq_getElem hlt, ?_⟩
    have := k3 (y - 1 - q) _ (List.getElem?_eq_getElem hlt)
    rw [hrho _ (by omega), show y - 1 - (y - 1 - q) = q by omega] at this
    exact this
  have hstk : ∀ z, z ≤ y → stk κ (m + z) = K.drop (y - z) ++ stk κ m := fun z => by
    induction z with
    | zero => intro _; rw [Nat.sub_zero, List.drop_eq_nil_of_le (by omega)]; rfl
    | succ z ih =>
      intro hz
      obtain ⟨x, x1, x2, x3, -⟩ := hat z (by omega)
      have hlt : y - (z + 1) < K.length := by omega
      rw [← Nat.add_assoc, stk, x2, dcd_cd (gd_lt hn x3), ih (by omega), List.drop_eq_getElem_cons hlt, show y - (z + 1) + 1 = y - z by omega]
      rw [show y - 1 - z = y - (z + 1) by omega, List.getElem?_eq_getElem hlt] at x1
      rw [Option.some.inj x1]; rfl
  refine ⟨h1, h2, h3, ?_, fun e he => ?_⟩
  · rw [h4, hstk y (Nat.le_refl _), Nat.sub_self, List.drop_zero, k2]
  · by_cases em : e < m
    · exact h5 e em
    · obtain ⟨x, x1, x2, x3, x4⟩ := hat (e - m) (by omega)
      rw [show m + (e - m) = e by omega] at x2
      exact ⟨x, x2, x3, by omega⟩
/-- the start -/
theorem XI_start {κ : Mem} {v : Nat} (hn : n ≤ 8) (hE : EB G tok n P κ0 κ) (h0 : κ 0 14 = nI 0) (hg : gd G tok n (v, 0, n)) (h9 : κ 9 0 = nI (cd (v, 0, n))) : XI G tok n P κ0 [(v, 0, n)] κ 1 0 := by
  have hm := mu_le hg hn
  refine ⟨hE, h0, ⟨by decide, fun i hi => absurd hi (Nat.not_lt_zero _)⟩, ?_, fun e he => ?_⟩
  · show [(v, 0, n)] = [dcd (κ 9 0)]
    rw [h9, dcd_cd (gd_lt hn hg)]
  · obtain rfl : e = 0 := by omega
    exact ⟨_, h9, hg, by omega⟩
theorem XI_fin {κ : Mem} {m c : Nat} (h : XI G tok n P κ0 L0 κ m c) (hs : m = 0 ∨ 8000 ≤ c) : fin G tok L0 c (κ 8) := by
  refine ⟨h.2.2.1, ?_⟩
  rcases hs with rfl | hc
  · exact Or.inl h.2.2.2.1
  · exact Or.inr (by have := h.2.2.1.1; omega)
end XT
