/-! the class's sets: closing -/
section SFs
variable {G : Grm} {σ : Mem} {S k : Nat}
theorem hw_y (h : SF G σ S) {t y : Nat} (h8 : σ 8 t = nI y) (hy : y < 6) : gy σ t = y ∧ isV (σ 8 t) = true := by
  refine ⟨by unfold gy; rw [h8, nI_clamp (by omega)], ?_⟩
  rw [h8, isV_nI (by omega)]; exact decide_eq_true hy
abbrev rows9 (σ : Mem) : Prop := ∀ j, j < 9 → gR (σ (j + 19))
abbrev who (σ : Mem) : Prop := ∀ v, v < 6 → σ 12 v = nI (msk (σ 12 v)) ∧ msk (σ 12 v) < 512
theorem grow_gR (h : SF G σ S) (hk : k < 9) (hR : rows9 σ) (hw : who σ) : ∀ t, t ≤ S - 1 → gR (growR σ k G.1 t)
  | 0, _ => hR k hk
  | t + 1, ht => by
    have ih := grow_gR h hk hR hw t (by omega)
    by_cases hv : isV (σ 8 t) = true
    · obtain ⟨rr, -, -, g, -⟩ := grow_step h hk hR hw ih (by omega) hv
      exact g
    · rw [growR, if_neg hv]; exact ih
theorem grow_up (h : SF G σ S) (hk : k < 9) (hR : rows9 σ) (hw : who σ) {t t0 o : Nat} (ht : t + 1 ≤ S - 1) (hb : bt (growR σ k G.1 t) t0 o) : bt (growR σ k G.1 (t + 1)) t0 o := by
  have ih := grow_gR h hk hR hw t (by omega)
  by_cases hv : isV (σ 8 t) = true
  · obtain ⟨rr, -, g1, -, g2⟩ := grow_step h hk hR hw ih (by omega) hv
    exact (g2 t0 o).mpr (Or.inl ((g1 t0 o).mpr (Or.inl hb)))
  · rw [growR, if_neg hv]; exact hb
theorem grow_le (h : SF G σ S) (hk : k < 9) (hR : rows9 σ) (hw : who σ) {t t0 o : Nat} (hb : bt (growR σ k G.1 t) t0 o) : ∀ t', t ≤ t' → t' ≤ S - 1 → bt (growR σ k G.1 t') t0 o
  | 0, h1, _ => by rw [show t = 0 by omega] at hb; exact hb
  | t' + 1, h1, h2 => by
    by_cases e : t = t' + 1
    · rw [← e]; exact hb
    · exact grow_up h hk hR hw h2 (grow_le h hk hR hw hb t' (by omega) (by omega))
theorem grow_pred (h : SF G σ S) (hk : k < 9) (hR : rows9 σ) (hw : who σ) {t y o p : Nat} (ht : t + 1 ≤ S - 1) (h8 : σ 8 t = nI y) (hy : y < 6) (hb : bt (growR σ k G.1 t) t o) (hp : p < G.1) (hpy : G.2.1 p = y) : bt (growR σ k G.1 (t + 1)) (gf σ p) k := by
  have ih := grow_gR h hk hR hw t (by omega)
  obtain ⟨rr, -, g1, -, g2⟩ := grow_step h hk hR hw ih (by omega) (hw_y h h8 hy).2
  refine (g2 _ _).mpr (Or.inl ((g1 _ _).mpr (Or.inr ⟨⟨o, hb⟩, rfl, p, hp, ?_, rfl⟩)))
  rw [h8, (h.1.1.2.2.2.2.1 p hp).1, (h.1.2.2.1 p hp).1, hpy]
theorem grow_comp (h : SF G σ S) (hk : k < 9) (hR : rows9 σ) (hw : who σ) {t y j o : Nat} (ht : t + 1 ≤ S - 1) (h8 : σ 8 t = nI y) (hy : y < 6) (hj : j < 9) (hm : bt (σ 12) y j) (hb : bt (if j = k then growR σ k G.1 t else σ (j + 19)) t o) : bt (growR σ k G.1 (t + 1)) (t + 1) o := by
  have ih := grow_gR h hk hR hw t (by omega)
  obtain ⟨rr, -, g1, -, g2⟩ := grow_step h hk hR hw ih (by omega) (hw_y h h8 hy).2
  refine (g2 _ _).mpr (Or.inr ⟨rfl, j, hj, by rw [(hw_y h h8 hy).1]; exact hm, ?_⟩)
  by_cases e : j = k
  · rw [if_pos e] at hb ⊢; exact (g1 _ _).mpr (Or.inl hb)
  · rw [if_neg e] at hb ⊢; exact hb
theorem grow_snd (h : SF G σ S) (hk : k < 9) (hR : rows9 σ) (hw : who σ) (Y : Nat → Nat → Prop) (h0 : ∀ t o, t < S → bt (σ (k + 19)) t o → Y t o) (hp : ∀ t o p, t + 1 < S → Y t o → σ 8 t = nI (G.2.1 p) → p < G.1 → Y (gf σ p) k)
    (hc : ∀ t y j o, t + 1 < S → σ 8 t = nI y → y < 6 → j < 9 → bt (σ 12) y j → ((j = k ∧ Y t o) ∨ (j ≠ k ∧ bt (σ (j + 19)) t o)) → Y (t + 1) o) : ∀ t, t ≤ S - 1 → ∀ t0 o, t0 < S → bt (growR σ k G.1 t) t0 o → Y t0 o
  | 0, _ => fun t0 o ht0 hb => h0 t0 o ht0 hb
  | t + 1, ht => fun t0 o ht0 hb => by
    have ihY := grow_snd h hk hR hw Y h0 hp hc t (by omega)
    have ih := grow_gR h hk hR hw t (by omega)
    by_cases hv : isV (σ 8 t) = true
    · obtain ⟨rr, -, g1, -, g2⟩ := grow_step h hk hR hw ih (by omega) hv
      have hy := gS_var h.1.1 (show t < S by omega) hv
      have hrr : ∀ t0 o, t0 < S → bt rr t0 o → Y t0 o := fun t0 o ht0 hb => by
        rcases (g1 t0 o).mp hb with q | ⟨⟨o', q⟩, rfl, p, q1, q2, rfl⟩
        · exact ihY t0 o ht0 q
        · refine hp t o' p (by omega) (ihY t o' (by omega) q) ?_ q1
          rw [← q2, (h.1.1.2.2.2.2.1 p q1).1, (h.1.2.2.1 p q1).1]
      rcases (g2 t0 o).mp hb with q | ⟨rfl, j, q1, q2, q3⟩
      · exact hrr t0 o ht0 q
      · refine hc t (gy σ t) j o (by omega) hy.2.1 hy.2.2 q1 q2 ?_
        by_cases e : j = k
        · rw [if_pos e] at q3; exact Or.inl ⟨e, hrr t o (by omega) q3⟩
        · rw [if_neg e] at q3; exact Or.inr ⟨e, q3⟩
    · rw [growR, if_neg hv] at hb; exact ihY t0 o ht0 hb
/-- what closing asks of the cells: origins are places up to the set's own -/
def okS (G : Grm) (σ : Mem) (S k : Nat) : Prop := SF G σ S ∧ k < 9 ∧ rows9 σ ∧ ∀ j, j ≤ k → ∀ t o, t < S → bt (σ (j + 19)) t o → o ≤ j
/-- the slots of a set of items -/
def sX (σ : Mem) (X : Itm) (t o : Nat) : Prop := X (gp σ t) (t - gf σ (gp σ t)) o
theorem XE_sl (h : SF G σ S) {j p d o : Nat} (hb : XE G σ j p d o) : gf σ p + d < S ∧ gp σ (gf σ p + d) = p := sl_at h hb.1 d hb.2.1
theorem XE_of (h : SF G σ S) {j t o : Nat} (ht : t < S) (hb : bt (σ (j + 19)) t o) : XE G σ j (gp σ t) (t - gf σ (gp σ t)) o := by
  obtain ⟨h1, h2, h3⟩ := sl_of h ht
  exact ⟨h1, h2, by rw [h3]; exact hb⟩
def preS (σ : Mem) (k S : Nat) : Mem := mrow σ 12 (gathR σ (σ (k + 19)) S)
theorem preS_n {q : Nat} (hq : q ≠ 12) : preS σ k S q = σ q := mrow_n hq
theorem preS_SF (h : SF G σ S) : SF G (preS σ k S) S := SF_of h (preS_n (by decide)) (preS_n (by decide)) (preS_n (by decide)) (preS_n (by decide)) (preS_n (by decide))
theorem preS_rows (h : rows9 σ) : rows9 (preS σ k S) := fun j hj => by rw [preS_n (by omega)]; exact h j hj
theorem preS_who (h : SF G σ S) (hk : k < 9) (hR : rows9 σ) : who (preS σ k S) ∧ ∀ v o, v < 6 → (bt (preS σ k S 12) v o ↔ ∃ t, t < S ∧ σ 8 t = -1 ∧ gv σ (gp σ t) = v ∧ bt (σ (k + 19)) t o) := by
  have e : preS σ k S 12 = gathR σ (σ (k + 19)) S := mrow_s
  refine ⟨fun v hv => ?_, fun v o hv => ?_⟩
  · rw [e]; exact (gathR_spec h (hR k hk) S (Nat.le_refl _) v hv).1
  · rw [e]; exact (gathR_spec h (hR k hk) S (Nat.le_refl _) v hv).2 o
theorem closeS_eq {P : Nat} : closeS k P S σ = mrow (preS σ k S) (k + 19) (growR (preS σ k S) k P (S - 1)) := rfl
theorem pre_gf : gf (preS σ k S) = gf σ := by funext p; unfold gf; rw [preS_n (by decide)]
theorem pre_gp : gp (preS σ k S) = gp σ := by funext p; unfold gp; rw [preS_n (by decide)]
theorem cS_row {P : Nat} : closeS k P S σ (k + 19) = growR (preS σ k S) k P (S - 1) := mrow_s
/-- a round of closing: nothing is lost, and it keeps within every closed set -/
theorem cS_up (h : okS G σ S k) {t o : Nat} (hb : bt (σ (k + 19)) t o) : bt (closeS k G.1 S σ (k + 19)) t o := by
  rw [cS_row]
  refine grow_le (preS_SF h.1) h.2.1 (preS_rows h.2.2.1) (preS_who h.1 h.2.1 h.2.2.1).1 (t := 0) ?_ _ (Nat.zero_le _) (Nat.le_refl _)
  rw [growR, preS_n (by omega)]; exact hb
theorem cS_gR (h : okS G σ S k) : gR (closeS k G.1 S σ (k + 19)) := by
  rw [cS_row]; exact grow_gR (preS_SF h.1) h.2.1 (preS_rows h.2.2.1) (preS_who h.1 h.2.1 h.2.2.1).1 _ (Nat.le_refl _)
theorem cS_snd (h : okS G σ S k) {B : Itm} {Lo : Nat → Itm} {X : Itm} (hX : clS G k B Lo X) (hLo : ∀ j, j < k → ∀ p d o, XE G σ j p d o → Lo j p d o) (h0 : ∀ p d o, XE G σ k p d o → X p d o) :
    ∀ t o, t < S → bt (closeS k G.1 S σ (k + 19)) t o → sX σ X t o ∧ o ≤ k := by
  intro t o ht hb
  rw [cS_row] at hb
  have hW := preS_who h.1 h.2.1 h.2.2.1
  have hs1 : ∀ t, t + 1 < S → ∀ y, σ 8 t = nI y → y < 200 → (G.2.2 (gp σ t))[t - gf σ (gp σ t)]? = some y ∧ gp σ (t + 1) = gp σ t ∧ t + 1 - gf σ (gp σ t) = t - gf σ (gp σ t) + 1 := fun t ht y h8 hy => by
    obtain ⟨q1, q2, q3⟩ := sl_of h.1 (show t < S by omega)
    rcases sl_8 h.1 q1 q2 with ⟨z1, y', z2, z3, z4⟩ | ⟨z1, z2⟩
    · rw [q3, h8] at z3
      have := (nI_eq (by omega) (by omega)).mp z3
      subst this
      refine ⟨z2, ?_, by have := (SE_p h.1.1 (show t < S by omega)).2; omega⟩
      have h3 := (sl_at h.1 q1 (t - gf σ (gp σ t) + 1) (by omega)).2
      rw [← Nat.add_assoc, q3] at h3
      exact h3
    · rw [q3, h8] at z2; exact absurd z2 (nI_m1 (by omega))
  refine grow_snd (preS_SF h.1) h.2.1 (preS_rows h.2.2.1) hW.1 (fun t o => sX σ X t o ∧ o ≤ k) (fun t o ht hb => ?_) (fun t o p ht hy h8 hp => ?_) (fun t y j o ht h8 hy hj hm hb => ?_) (S - 1) (Nat.le_refl _) t o ht hb
  · rw [preS_n (by omega)] at hb
    exact ⟨h0 _ _ _ (XE_of h.1 ht hb), h.2.2.2 k (Nat.le_refl _) t o ht hb⟩
  · rw [preS_n (by decide)] at h8
    refine ⟨?_, Nat.le_refl _⟩
    rw [pre_gf]
    unfold sX
    rw [(h.1.1.2.2.1 p hp).2, Nat.sub_self]
    have hv := (h.1.1.2.1.2 p hp).1
    obtain ⟨z1, -, -⟩ := hs1 t ht _ h8 (by omega)
    exact hX.2.1 _ _ _ _ p hy.1 z1 hp rfl
  · rw [preS_n (by decide)] at h8
    obtain ⟨z1, z2, z3⟩ := hs1 t ht _ h8 (by omega)
    obtain ⟨t1, q1, q2, q3, q4⟩ := (hW.2 y j hy).mp hm
    obtain ⟨w1, w2, w3⟩ := sl_of h.1 q1
    have hjk := h.2.2.2 k (Nat.le_refl _) t1 j q1 q4
    have hwh : X (gp σ t1) (G.2.2 (gp σ t1)).length j := by
      rcases sl_8 h.1 w1 w2 with ⟨-, y', -, z, z'⟩ | ⟨z, -⟩
      · rw [w3, q2] at z; exact absurd z.symm (nI_m1 (by omega))
      · have := h0 _ _ _ (XE_of h.1 q1 q4); rw [z] at this; exact this
    have hv1 : G.2.1 (gp σ t1) = y := by rw [← (h.1.1.2.2.1 _ w1).1]; exact q3
    unfold sX
    rw [z2, z3]
    rcases hb with ⟨e, hb⟩ | ⟨e, hb⟩
    · subst e
      exact ⟨hX.2.2 _ j (gp σ t) (t - gf σ (gp σ t)) o w1 hwh (Or.inr ⟨rfl, hb.1⟩) (by rw [hv1]; exact z1), hb.2⟩
    · rw [preS_n (by omega)] at hb
      have hjl : j < k := by omega
      refine ⟨hX.2.2 _ j (gp σ t) (t - gf σ (gp σ t)) o w1 hwh (Or.inl ⟨hjl, hLo j hjl _ _ _ (XE_of h.1 (by omega) hb)⟩) (by rw [hv1]; exact z1), ?_⟩
      have := h.2.2.2 j (by omega) t o (by omega) hb
      omega
theorem cS_n {q : Nat} {P : Nat} (h1 : q ≠ 12) (h2 : q ≠ k + 19) : closeS k P S σ q = σ q := closeS_n h1 h2
theorem cS_SF (h : SF G σ S) {P : Nat} : SF G (closeS k P S σ) S := SF_of h (cS_n (by decide) (by omega)) (cS_n (by decide) (by omega)) (cS_n (by decide) (by omega)) (cS_n (by decide) (by omega)) (cS_n (by decide) (by omega))
theorem cS_ok (h : okS G σ S k) : okS G (closeS k G.1 S σ) S k := by
  refine ⟨cS_SF h.1, h.2.1, fun j hj => ?_, fun j hj t o ht hb => ?_⟩
  · by_cases e : j = k
    · subst e; exact cS_gR h
    · rw [cS_n (by omega) (by omega)]; exact h.2.2.1 j hj
  · by_cases e : j = k
    · subst e
      exact (cS_snd h (B := fun _ _ _ => True) (Lo := fun _ _ _ _ => True) (X := fun _ _ _ => True) ⟨fun _ _ _ _ => trivial, fun _ _ _ _ _ _ _ _ _ => trivial, fun _ _ _ _ _ _ _ _ _ => trivial⟩ (fun _ _ _ _ _ _ => trivial) (fun _ _ _ _ => trivial) t o ht hb).2
    · rw [cS_n (by omega) (by omega)] at hb; exact h.2.2.2 j hj t o ht hb
theorem cl_gf {P : Nat} : gf (closeS k P S σ) = gf σ := by funext p; unfold gf; rw [cS_n (by decide) (by omega)]
/-- where a round changes nothing the set is closed -/
theorem cS_closed (h : okS G σ S k) {B : Itm} {Lo : Nat → Itm} (hB : ∀ p d o, B p d o → XE G σ k p d o) (hLo : ∀ j, j < k → ∀ p d o, Lo j p d o → XE G σ j p d o) (hs : ∀ t o, t < S → bt (closeS k G.1 S σ (k + 19)) t o → bt (σ (k + 19)) t o) : clS G k B Lo (XE G (closeS k G.1 S σ) k) := by
  have hW := preS_who h.1 h.2.1 h.2.2.1
  have hF := preS_SF (k := k) h.1
  have hP9 := preS_rows (k := k) (S := S) h.2.2.1
  have up : ∀ t t0 o, t ≤ S - 1 → bt (σ (k + 19)) t0 o → bt (growR (preS σ k S) k G.1 t) t0 o := fun t t0 o ht hb => by
    refine grow_le hF h.2.1 hP9 hW.1 (t := 0) ?_ _ (Nat.zero_le _) ht
    rw [growR, preS_n (by omega)]; exact hb
  have dn : ∀ p d o, XE G (closeS k G.1 S σ) k p d o → XE G σ k p d o := fun p d o q => by
    have q' := XE_sl (cS_SF h.1) q
    obtain ⟨q1, q2, q3⟩ := q
    rw [cl_gf] at q3 q'
    exact ⟨q1, q2, hs _ _ q'.1 q3⟩
  have fin : ∀ p d o, p < G.1 → d ≤ (G.2.2 p).length → bt (growR (preS σ k S) k G.1 (S - 1)) (gf σ p + d) o → XE G (closeS k G.1 S σ) k p d o := fun p d o q1 q2 q3 => ⟨q1, q2, by rw [cS_row, cl_gf]; exact q3⟩
  refine ⟨fun p d o hb => ?_, fun p d o y q hX hy hq hqy => ?_, fun p o q e w hp hX hc hy => ?_⟩
  · obtain ⟨q1, q2, q3⟩ := hB p d o hb
    exact fin p d o q1 q2 (up _ _ _ (Nat.le_refl _) q3)
  · have hx := dn _ _ _ hX
    obtain ⟨q1, q2, q3⟩ := hx
    have hd : d < (G.2.2 p).length := (List.getElem?_eq_some_iff.mp hy).1
    have h1 := (sl_at h.1 q1 (d + 1) hd).1
    rcases sl_8 h.1 q1 q2 with ⟨-, y', z2, z3, z4⟩ | ⟨z, -⟩
    · rw [hy] at z2
      obtain rfl := Option.some.inj z2
      have hv : G.2.1 q < 6 := (h.1.1.2.1.2 q hq).1
      have := grow_pred hF h.2.1 hP9 hW.1 (t := gf σ p + d) (y := y) (o := o) (p := q) (by omega) (by rw [preS_n (by decide)]; exact z3) (by omega) (up _ _ _ (by omega) q3) hq hqy
      refine fin q 0 k hq (Nat.zero_le _) ?_
      rw [Nat.add_zero]
      rw [pre_gf] at this
      exact grow_le hF h.2.1 hP9 hW.1 this _ (by omega) (Nat.le_refl _)
    · omega
  · have hx := dn _ _ _ hX
    have hxs := XE_sl h.1 hx
    obtain ⟨q1, q2, q3⟩ := hx
    have ho : o ≤ k := h.2.2.2 k (Nat.le_refl _) _ o hxs.1 q3
    have hk9 := h.2.1
    have hq9 : q < G.1 ∧ e ≤ (G.2.2 q).length ∧ bt (if o = k then σ (k + 19) else σ (o + 19)) (gf σ q + e) w := by
      rcases hc with ⟨c1, c2⟩ | ⟨c1, c2⟩
      · rw [if_neg (by omega)]; exact hLo o c1 _ _ _ c2
      · rw [if_pos c1]; exact dn _ _ _ c2
    obtain ⟨r1, r2, r3⟩ := hq9
    have hd : e < (G.2.2 q).length := (List.getElem?_eq_some_iff.mp hy).1
    have h1 := (sl_at h.1 r1 (e + 1) hd).1
    rcases sl_8 h.1 r1 r2 with ⟨-, y', z2, z3, z4⟩ | ⟨z, -⟩
    · rw [hy] at z2
      obtain rfl := Option.some.inj z2
      have hv : G.2.1 p < 6 := (h.1.1.2.1.2 p hp).1
      have hm : bt (preS σ k S 12) (G.2.1 p) o := by
        refine (hW.2 _ _ hv).mpr ⟨gf σ p + (G.2.2 p).length, hxs.1, ?_, ?_, q3⟩
        · rcases sl_8 h.1 hp (Nat.le_refl _) with ⟨z, -⟩ | ⟨-, z⟩
          · omega
          · exact z
        · rw [hxs.2]; exact (h.1.1.2.2.1 p hp).1
      have := grow_comp hF h.2.1 hP9 hW.1 (t := gf σ q + e) (y := G.2.1 p) (j := o) (o := w) (by omega) (by rw [preS_n (by decide)]; exact z3) hv (by omega) hm (by
        by_cases eo : o = k
        · rw [if_pos eo] at r3 ⊢; exact up _ _ _ (by omega) r3
        · rw [if_neg eo] at r3 ⊢; rw [preS_n (by omega)]; exact r3)
      refine fin q (e + 1) w r1 hd ?_
      rw [← Nat.add_assoc]
      exact grow_le hF h.2.1 hP9 hW.1 this _ (by omega) (Nat.le_refl _)
    · omega
/-- what a closed set is: closed, and within every closed one -/
def leastX (G : Grm) (k : Nat) (B : Itm) (Lo : Nat → Itm) (X : Itm) : Prop := clS G k B Lo X ∧ ∀ Y, clS G k B Lo Y → ∀ p d o, X p d o → Y p d o
theorem least_uniq {k : Nat} {B : Itm} {Lo : Nat → Itm} {X Y : Itm} (h1 : leastX G k B Lo X) (h2 : leastX G k B Lo Y) : ∀ p d o, X p d o ↔ Y p d o := fun p d o => ⟨h1.2 Y h2.1 p d o, h2.2 X h1.1 p d o⟩
theorem cM_ok {B : Itm} {Lo : Nat → Itm} : ∀ (n : Nat) (σ : Mem), okS G σ S k → 217 ≤ n + szN (σ (k + 19)) S → (∀ p d o, B p d o → XE G σ k p d o) → (∀ j, j < k → ∀ p d o, Lo j p d o ↔ XE G σ j p d o) → (∀ Y, clS G k B Lo Y → ∀ p d o, XE G σ k p d o → Y p d o) → okS G (closeM k G.1 S n σ) S k ∧ leastX G k B Lo (XE G (closeM k G.1 S n σ) k)
  | 0, σ, h, hn, _, _, _ => by
    have := szN_n (σ (k + 19)) S
    have := sl_24 h.1
    omega
  | n + 1, σ, h, hn, hB, hLo, hY => by
    have hup : ∀ t o, t < S → bt (σ (k + 19)) t o → bt (closeS k G.1 S σ (k + 19)) t o := fun t o _ hb => cS_up h hb
    have hS := sl_24 h.1
    have z1 := szN_n (σ (k + 19)) S
    have z2 := szN_n (closeS k G.1 S σ (k + 19)) S
    have e1 := sizF_eq (h.2.2.1 k h.2.1) S hS
    have e2 := sizF_eq (cS_gR h) S hS
    have hs : sizF (σ (k + 19)) S < sizF (closeS k G.1 S σ (k + 19)) S ↔ szN (σ (k + 19)) S < szN (closeS k G.1 S σ (k + 19)) S := by
      rw [e1, e2]; exact nI_ltI (by omega) (by omega)
    have hlow : ∀ Y, clS G k B Lo Y → ∀ p d o, XE G (closeS k G.1 S σ) k p d o → Y p d o := fun Y hc p d o hx => by
      have hx' := XE_sl (cS_SF h.1) hx
      have h3 := hx.2.2
      have := (cS_snd h hc (fun j hj p d o q => (hLo j hj p d o).mpr q) (hY Y hc) _ o hx'.1 (by exact h3)).1
      rw [cl_gf] at this hx'
      unfold sX at this
      have eg : gp (closeS k G.1 S σ) = gp σ := by funext p; unfold gp; rw [cS_n (by decide) (by omega)]
      rw [eg] at hx'
      rw [hx'.2, Nat.add_sub_cancel_left] at this
      exact this
    have hXE : ∀ j, j ≠ k → j < 9 → XE G (closeS k G.1 S σ) j = XE G σ j := fun j hj _ => by
      funext p d o; unfold XE; rw [cl_gf, cS_n (by omega) (by omega)]
    have hk9 := h.2.1
    rw [closeM]
    by_cases hlt : szN (σ (k + 19)) S < szN (closeS k G.1 S σ (k + 19)) S
    · rw [if_pos (hs.mpr hlt)]
      refine cM_ok n _ (cS_ok h) (by omega) (fun p d o hb => ?_) (fun j hj p d o => ?_) hlow
      · obtain ⟨q1, q2, q3⟩ := hB p d o hb
        exact ⟨q1, q2, by rw [cl_gf]; exact cS_up h q3⟩
      · rw [hXE j (by omega) (by omega)]; exact hLo j hj p d o
    · rw [if_neg (fun q => hlt (hs.mp q))]
      refine ⟨cS_ok h, cS_closed h hB (fun j hj p d o => (hLo j hj p d o).mp) (fun t o ht hb => ?_), hlow⟩
      refine Classical.byContradiction fun hh => hlt ?_
      exact szN_lt (bt_lt (cS_gR h) (by omega) hb) hh hb S ht hup
end SFs
