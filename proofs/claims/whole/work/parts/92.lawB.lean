/-! the relation looks at the cells alone; what a wrapper's answer and the model's come to; the end of a case -/
theorem RA_cong {G : Grm} {tok : Nat → Nat} {σ τ : Mem} {S n V T : Nat} (h : RA G tok σ S n V T) (he : ∀ q, q < 58 → τ q = σ q) : RA G tok τ S n V T := by
  obtain ⟨a1, a2, a3, a4, a5, a6⟩ := h
  have hGO : GO G τ S := GO_of a2 (he 1 (by decide)) (he 6 (by decide)) (he 7 (by decide)) (he 8 (by decide)) (he 9 (by decide))
  have hS := sl_24 (GO_SF a2)
  have hn := a4.2.2.1
  refine ⟨eI_of a1 (he 0 (by decide)) ⟨hGO.1, a1.1.2.1, by rw [he 2 (by decide)]; exact a1.1.2.2⟩, hGO, fun i hi => by rw [he 10 (by decide)]; exact a3 i hi, okE_of a4 (GO_SF hGO) (fun j hj => he _ (by omega)), CH_of a5 hn (he 7 (by decide)) (fun j hj => he _ (by omega)), fun i j hij hj => ?_⟩
  obtain ⟨z1, z2⟩ := a6 i j hij hj
  exact ⟨fun v hv => by rw [he _ (by omega)]; exact z1 v hv, fun t ht => by rw [he _ (by omega), RB_of (he 7 (by decide)) (he 9 (by decide))]; exact z2 t ht⟩
theorem rel_cong {tok : Nat → Nat} {σ μ σ' μ' : Mem} {P S n V T : Nat} {s r : Nat → Nat} (h : REL tok σ μ P S n V T s r) (h1 : ∀ q, q < 58 → σ' q = σ q) (h2 : ∀ q, q < 10 → μ' q = μ q) : REL tok σ' μ' P S n V T s r := by
  obtain ⟨hA, ⟨⟨m1, m2, m3, m4, m5, m6, m7, m8⟩, b2, b3, b4, b5, b6⟩, c, c1, c2, c3, c4⟩ := h
  have q0 := h2 0 (by decide)
  have q1 := h2 1 (by decide)
  have q2 := h2 2 (by decide)
  have q3 := h2 3 (by decide)
  have q5 := h2 5 (by decide)
  have eG : Gm μ' P = Gm μ P := Gm_of q1 q2 q3
  have eX : XM μ' P = XM μ P := by funext k p d o; unfold XM hX mn; rw [q2, q5]
  refine ⟨by rw [eG]; exact RA_cong hA h1, ⟨⟨mG_of m1 (by rw [q0]) q1 q2 q3, m2, by rw [q0]; exact m3, by rw [q5, q0]; exact m4, m5, by rw [q0]; exact m6, m7, by rw [q0]; exact m8⟩, fun j x y => by rw [h2 4 (by decide)]; exact b2 j x y, by rw [eG, eX]; exact b3, fun k hk => PL_of (b4 k hk) q2 (fun j _ _ => by rw [q5]), ⟨by rw [h2 6 (by decide)]; exact b5.1, by rw [h2 7 (by decide)]; exact b5.2.1, b5.2.2⟩, by rw [q0, eG]; exact b6⟩, c, c1, by rw [h1 5 (by decide)]; exact c2, by rw [q0]; exact c3, fun i hi => by rw [h1 15 (by decide), h2 8 (by decide)]; exact c4 i hi⟩
theorem relx_cong {σ μ σ' μ' : Mem} (h : RELX σ μ) (h1 : ∀ q, q < 58 → σ' q = σ q) (h2 : ∀ q, q < 10 → μ' q = μ q) : RELX σ' μ' := by
  obtain ⟨tok, P, S, n, V, T, s, r, h⟩ := h
  exact ⟨tok, P, S, n, V, T, s, r, rel_cong h h1 h2⟩
theorem sub_58 {μ σ1 : Mem} : msub 58 (mput 0 58 μ σ1) = msub 58 μ := by
  funext k; unfold msub; rw [mput_out (by omega)]
theorem sub_0 {μ σ1 : Mem} {q : Nat} (h : q < 58) : msub 0 (mput 0 58 μ σ1) q = σ1 q := by
  unfold msub; exact mput_in (o := 0) h
theorem put_M0 {τ μ1 : Mem} {q : Nat} (h : q < 58) : msub 0 (mput 58 10 τ μ1) q = τ q := by
  unfold msub; exact mput_out (by omega)
theorem put_M {τ μ1 : Mem} {q : Nat} (h : q < 10) : msub 58 (mput 58 10 τ μ1) q = μ1 q := by
  unfold msub; exact mput_in h
section WP
variable {post : Int32 → Mem → Prop} {μ τ μ1 : Mem} {r b2 : Int32}
theorem wp_68 {σ1 : Mem} {v : Int32} {q : Nat} (h : q < 10) : msub 58 (mset (mput 0 58 μ σ1) 68 0 v) q = msub 58 μ q := by
  unfold msub; rw [mset_n (by omega), mput_out (by omega)]
theorem wp_58a {A1 A2 : Prop} (hp : (∃ v σ1, post v σ1 ∧ r = nI 0 ∧ τ = mset (mput 0 58 μ σ1) 68 0 v) ∨ (A1 ∧ r = nI 1 ∧ τ = μ) ∨ (A2 ∧ r = nI 2 ∧ τ = μ)) {q : Nat} (h : q < 10) : msub 58 τ q = msub 58 μ q := by
  rcases hp with ⟨v, σ1, -, -, rfl⟩ | ⟨-, -, rfl⟩ | ⟨-, -, rfl⟩
  · exact wp_68 h
  · rfl
  · rfl
theorem wp_58b {A1 : Prop} (hp : (∃ v σ1, post v σ1 ∧ r = nI 0 ∧ τ = mset (mput 0 58 μ σ1) 68 0 v) ∨ (A1 ∧ r = nI 1 ∧ τ = μ)) {q : Nat} (h : q < 10) : msub 58 τ q = msub 58 μ q :=
  wp_58a (A1 := A1) (A2 := False) (hp.elim Or.inl (fun z => Or.inr (Or.inl z))) h
/-- what stands behind the wrapper's call and the model's -/
def wpR (τ μ1 : Mem) (r b2 : Int32) : Prop := mput 58 10 τ μ1 58 2 = r ∧ (r = nI 0 → mput 58 10 τ μ1 68 0 = b2) ∧ RELX (msub 0 (mput 58 10 τ μ1)) (msub 58 (mput 58 10 τ μ1))
theorem wp_res2 {A1 A2 : Prop} (hp : (∃ v σ1, post v σ1 ∧ r = nI 0 ∧ τ = mset (mput 0 58 μ σ1) 68 0 v) ∨ (A1 ∧ r = nI 1 ∧ τ = μ) ∨ (A2 ∧ r = nI 2 ∧ τ = μ)) (h0 : ∀ v σ1, post v σ1 → μ1 0 2 = nI 0 ∧ v = b2 ∧ RELX σ1 μ1) (h1 : A1 → μ1 0 2 = nI 1 ∧ RELX (msub 0 μ) μ1) (h2 : A2 → μ1 0 2 = nI 2 ∧ RELX (msub 0 μ) μ1) : wpR τ μ1 r b2 := by
  have e2 : ∀ τ : Mem, mput 58 10 τ μ1 58 2 = μ1 0 2 := fun τ => congrFun (mput_in (o := 58) (k := 0) (by decide)) 2
  rcases hp with ⟨v, σ1, hv, rfl, rfl⟩ | ⟨ha, rfl, rfl⟩ | ⟨ha, rfl, rfl⟩
  · obtain ⟨g1, g2, g3⟩ := h0 v σ1 hv
    refine ⟨by rw [e2]; exact g1, fun _ => ?_, relx_cong g3 (fun q hq => ?_) (fun q hq => put_M hq)⟩
    · rw [mput_out (by omega), mset_s]; exact g2
    · rw [put_M0 hq, mset_n (by omega)]; exact mput_in (o := 0) hq
  · obtain ⟨g1, g2⟩ := h1 ha
    exact ⟨by rw [e2]; exact g1, fun z => absurd z (by decide), relx_cong g2 (fun q hq => put_M0 hq) (fun q hq => put_M hq)⟩
  · obtain ⟨g1, g2⟩ := h2 ha
    exact ⟨by rw [e2]; exact g1, fun z => absurd z (by decide), relx_cong g2 (fun q hq => put_M0 hq) (fun q hq => put_M hq)⟩
theorem wp_res1 {A1 : Prop} (hp : (∃ v σ1, post v σ1 ∧ r = nI 0 ∧ τ = mset (mput 0 58 μ σ1) 68 0 v) ∨ (A1 ∧ r = nI 1 ∧ τ = μ)) (h0 : ∀ v σ1, post v σ1 → μ1 0 2 = nI 0 ∧ v = b2 ∧ RELX σ1 μ1) (h1 : A1 → μ1 0 2 = nI 1 ∧ RELX (msub 0 μ) μ1) : wpR τ μ1 r b2 :=
  wp_res2 (A1 := A1) (A2 := False) (hp.elim Or.inl (fun z => Or.inr (Or.inl z))) h0 h1 (fun z => z.elim)
end WP
/-- what holds of the law all the time -/
def LC (p : Program) (l : Launch) (s : State) (m : MethodId) (meth : Method) (c : Code) (b L : Nat) (xs : Nat → Int32) (D : va_G) (cs : Nat → ClassId) : Prop := bC p s m #[.ref b] meth c bL_law 7 "EarleyChartLaw" (some .boolean) ∧ wk D cs s ∧ x0 #[.ref b] s ∧ va_X b L xs s s.heap ∧ b < s.heap.size ∧ l.stackTraces = false ∧ L ≤ 2050
abbrev lA (s : State) : Nat → Prop := fun q => s.heap.size ≤ q
abbrev lB (b : Nat) (ad : Nat → Nat) (i : Nat) : List (Nat × Value) := [(0, .ref b), (1, .ref (ad 0)), (2, .ref (ad 58)), (3, .ref (ad 68)), (4, .int (nI i))]
/-- between two calls of the script -/
def LSt (s : State) (D : va_G) (cs : Nat → ClassId) (ad : Nat → Nat) (b i : Nat) (μ : Mem) (H : Heap) (locs : List Loc) (ls : Array Slot) : Prop := wS (wL D cs ad) (lA s) s.heap μ H locs ∧ RELX (msub 0 μ) (msub 58 μ) ∧ lv_has ls 7 (lB b ad i)
theorem xK_rf {s : State} : xK s s := ⟨State.WarmedH.refl s, Nat.le_refl _, fun _ _ => rfl⟩
section LT
variable {p : Program} {l : Launch} {e : Env} {s : State} {m : MethodId} {below : List Frame} {meth : Method} {c : Code} {H : Heap} {locs : List Loc} {cells slots : Nat} {Q : State → Prop} {ls : Array Slot} {b L i : Nat} {xs : Nat → Int32} {D : va_G} {cs : Nat → ClassId} {ad : Nat → Nat} {τ μ1 : Mem} {r b2 : Int32} {pc : Nat}
/-- the model's thrown() against the wrapper's answer -/
theorem l_thr (hC : LC p l s m meth c b L xs D cs) (hE : wS (wL D cs ad) (lA s) s.heap (mput 58 10 τ μ1) H locs) (hl : lv_has ls 7 ((5, .int r) :: lB b ad i)) (hw : wpR τ μ1 r b2) (hcel : cells ≤ room_1.cells ∧ slots ≤ room_1.slots)
    (d0 : decode bL_law pc = .ok (.istore 6, 2)) (d2 : decode bL_law (pc + 2) = .ok (.aload_n 2, 1)) (d3 : decode bL_law (pc + 3) = .ok (.invokevirtual 65, 3)) (d6 : decode bL_law (pc + 6) = .ok (.iload 5, 2)) (d8 : decode bL_law (pc + 8) = .ok (.if_icmp .eq 5, 3)) (d13 : decode bL_law (pc + 13) = .ok (.iload 5, 2)) {off : Int} (d15 : decode bL_law (pc + 15) = .ok (.ifCond .ne off, 3)) {tgt : Nat} (ht : ((pc + 15 : Nat) : Int) + off = (tgt : Int))
    (K0 : ∀ (H : Heap) (locs : List Loc) (ls : Array Slot), wS (wL D cs ad) (lA s) s.heap (mput 58 10 τ μ1) H locs → lv_has ls 7 ((6, .int b2) :: (5, .int r) :: lB b ad i) → mput 58 10 τ μ1 68 0 = b2 → W p l e room_1 s m #[.ref b] below meth c H locs cells slots Q (F0 m (pc + 18) ls []))
    (K1 : ∀ (H : Heap) (locs : List Loc) (ls : Array Slot), wS (wL D cs ad) (lA s) s.heap (mput 58 10 τ μ1) H locs → lv_has ls 7 (lB b ad i) → W p l e room_1 s m #[.ref b] below meth c H locs cells slots Q (F0 m tgt ls [])) :
    W p l e room_1 s m #[.ref b] below meth c H locs cells slots Q (F0 m pc ls [.int b2]) := by
  obtain ⟨C, hk, hx0, hXs, hbl, hl0, hL⟩ := hC
  obtain ⟨hx, hb, hml, hown, hts, hr, hlocks⟩ := id C
  refine lv_istore (lv' := (6, .int b2) :: (5, .int r) :: lB b ad i) hx hb d0 hl (by decide) rfl (fun ls hl => ?_)
  refine lv_aload_n hx hb d2 rfl (lv_at hl 4 rfl) ?_
  refine s_ci hE sub_M (fun _ h => h) (s_runV C hk hE sub_M hl.1 (As := []) (rest := []) (q := 0) (c_M_thrown l D cs (fun j => ad (j + 58)) (msub 58 (mput 58 10 τ μ1)) _) (Nat.le_of_ble_eq_true rfl) (ci := 6) (N := 17) (T := F_M) rfl rfl tw_635 tw_636 tw_637 tw_9 tw_638 (n := 0) (by decide +kernel) rfl rfl (Nat.le_of_ble_eq_true rfl) d3 ⟨Nat.le_of_ble_eq_true rfl, Nat.le_of_ble_eq_true rfl⟩ hcel) (fun r9 τ9 H locs hp hE _ => ?_)
  rw [hp.2, mput_self] at hE
  have hr9 : r9 = r := by rw [hp.1]; exact hw.1
  refine lv_iload hx hb d6 (lv_at hl 1 rfl) ?_
  refine lv_icmp_eq (tgt := pc + 13) hx hb d8 (by omega) (fun _ => ?_) (fun h => absurd hr9 h)
  refine lv_iload hx hb d13 (lv_at hl 1 rfl) ?_
  refine lv_if_ne (tgt := tgt) hx hb d15 ht (fun _ => ?_) (fun h => ?_)
  · exact K1 _ _ ls hE (lv_sub hl [2, 3, 4, 5, 6] rfl)
  · have h0 : r = nI 0 := h
    exact K0 _ _ ls hE hl (hw.2.1 h0)
/-- the end of a case with an int -/
theorem l_tail (hC : LC p l s m meth c b L xs D cs) (hE : wS (wL D cs ad) (lA s) s.heap (mput 58 10 τ μ1) H locs) (hl : lv_has ls 7 ((5, .int r) :: lB b ad i)) (hw : wpR τ μ1 r b2) (hcel : cells ≤ room_1.cells ∧ slots ≤ room_1.slots)
    (d0 : decode bL_law pc = .ok (.istore 6, 2)) (d2 : decode bL_law (pc + 2) = .ok (.aload_n 2, 1)) (d3 : decode bL_law (pc + 3) = .ok (.invokevirtual 65, 3)) (d6 : decode bL_law (pc + 6) = .ok (.iload 5, 2)) (d8 : decode bL_law (pc + 8) = .ok (.if_icmp .eq 5, 3)) (d13 : decode bL_law (pc + 13) = .ok (.iload 5, 2)) (d15 : decode bL_law (pc + 15) = .ok (.ifCond .ne 15, 3))
    (d18 : decode bL_law (pc + 18) = .ok (.aload_n 3, 1)) (d19 : decode bL_law (pc + 19) = .ok (.iconst 0, 1)) (d20 : decode bL_law (pc + 20) = .ok (.laload, 1)) (d21 : decode bL_law (pc + 21) = .ok (.iload 6, 2)) (d23 : decode bL_law (pc + 23) = .ok (.i2l, 1)) (d24 : decode bL_law (pc + 24) = .ok (.lcmp, 1)) (d25 : decode bL_law (pc + 25) = .ok (.ifCond .eq 5, 3)) {off : Int} (d30 : decode bL_law (pc + 30) = .ok (.goto off, 3)) (ht : ((pc + 30 : Nat) : Int) + off = (745 : Nat))
    (K : ∀ (μ : Mem) (H : Heap) (locs : List Loc) (ls : Array Slot), LSt s D cs ad b i μ H locs ls → W p l e room_1 s m #[.ref b] below meth c H locs cells slots Q (F0 m 745 ls [])) :
    W p l e room_1 s m #[.ref b] below meth c H locs cells slots Q (F0 m pc ls [.int b2]) := by
  obtain ⟨hx, hb, hml, hown, hts, hr, hlocks⟩ := id hC.1
  have hend : ∀ (H : Heap) (locs : List Loc) (ls : Array Slot), wS (wL D cs ad) (lA s) s.heap (mput 58 10 τ μ1) H locs → lv_has ls 7 (lB b ad i) → W p l e room_1 s m #[.ref b] below meth c H locs cells slots Q (F0 m (pc + 30) ls []) := fun H locs ls hE hl =>
    lv_goto (tgt := 745) hx hb d30 ht (K _ H locs ls ⟨hE, hw.2.2, hl⟩)
  refine l_thr hC hE hl hw hcel d0 d2 d3 d6 d8 d13 d15 (tgt := pc + 30) (by omega) (fun H locs ls hE hl h68 => ?_) hend
  refine lv_aload_n hx hb d18 rfl (lv_at hl 5 rfl) ?_
  refine lv_iconst (v := nI 0) hx hb d19 (by decide) ?_
  refine w_lald hC.1 hC.2.1 hE 68 (Nat.le_of_ble_eq_true rfl) (n := 1) rfl (by decide) (by decide) d20 ?_
  refine lv_iload hx hb d21 (lv_at hl 0 rfl) ?_
  refine lv_i2l (v := b2.toInt64) hx hb d23 rfl ?_
  refine W.lcmp hx hb d24 ?_
  refine lv_if_eq (tgt := pc + 30) hx hb d25 (by omega) (fun _ => ?_) (fun h => absurd (by rw [h68]; simp [lg_cmp]) h)
  exact hend _ _ ls hE (lv_sub hl [2, 3, 4, 5, 6] rfl)
end LT
