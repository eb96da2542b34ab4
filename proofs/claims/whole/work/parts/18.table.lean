set_option maxHeartbeats 4000000 in
set_option maxRecDepth 100000 in
theorem c_T_ofSymbol (l : Launch) (D : va_G) (cs : Nat → ClassId) (ad : Nat → Nat) (σ : Mem) (P S n9 : Nat) (x : Int32) (i j : Nat) (ht : tS σ P S n9) (hi : i < 9) (hj : j < 9) : MetI l (wE D cs ad) cs yT_ofSymbol bT_ofSymbol 4 (some .int) 1 23 [.ref (ad 4), .int x, .int (nI i), .int (nI j)] σ (fun r τ => r = symS σ n9 x i j ∧ τ = σ) := by
  refine MetI.start (by decide) (Nat.le_of_ble_eq_true rfl) ?_
  intro p e s m below meth c A ls C hk hA hE hl
  obtain ⟨hx, hb, hml, hown, hts, hr, hlocks⟩ := id C
  have hl : lv_has ls 4 [(0, .ref (ad 4)), (1, .int x), (2, .int (nI i)), (3, .int (nI j))] := hl
  have hg := ht.1
  have hn9 := ht.2.1
  have hln := ht.2.2
  have hP8 := hg.1
  have hS24 := hg.2.1
  refine lv_iload_n hx hb dT_ofSymbol_0 rfl (lv_at hl 1 rfl) ?_
  refine w_ci hE hA (w_runSN C hk hE hl.1 (As := [.int x]) (rest := []) (c_E_isVariable l D cs ad σ x _) hk.2.2.1 tw_199 tw_1 tw_200 (n := 1) (by decide +kernel) rfl rfl (Nat.le_of_ble_eq_true rfl) dT_ofSymbol_1 ⟨Nat.le_of_ble_eq_true rfl, Nat.le_of_ble_eq_true rfl⟩ ⟨Nat.zero_le _, Nat.zero_le _⟩) (fun r1 τ2 H locs hp hE _ _ => ?_)
  refine w_top hp.1 ?_
  have hE := wS_eq hp.2 hE
  refine lv_if_eq (tgt := 20) hx hb dT_ofSymbol_4 (by decide) (fun c3 => ?_) (fun c3 => ?_)
  · have c3 := zb_eq0 c3
    refine lv_aload_n hx hb dT_ofSymbol_20 rfl (lv_at hl 0 rfl) ?_
    refine w_get C hk hE (K := R_T) (T := F_T) (N := 4) (ci := 3) in_T 4 (Nat.le_of_ble_eq_true rfl) rfl rfl 1 (by decide) tw_87 rfl rfl dT_ofSymbol_21 ?_
    refine lv_iload_n hx hb dT_ofSymbol_24 rfl (lv_at hl 1 rfl) ?_
    refine lv_iload_n hx hb dT_ofSymbol_25 rfl (lv_at hl 2 rfl) ?_
    refine lv_iload_n hx hb dT_ofSymbol_26 rfl (lv_at hl 3 rfl) ?_
    refine w_ci hE hA (w_runV C hk hE hl.1 (As := [.int x, .int (nI i), .int (nI j)]) (rest := []) (q := 2) (c_I_isJust l D cs ad σ x i j n9 (by omega) (by omega) hn9 hln _) (Nat.le_of_ble_eq_true rfl) (ci := 1) (N := 2) (T := F_I) rfl rfl tw_229 tw_230 tw_231 tw_3 tw_232 (n := 3) (by decide +kernel) rfl rfl (Nat.le_of_ble_eq_true rfl) dT_ofSymbol_27 ⟨Nat.le_of_ble_eq_true rfl, Nat.le_of_ble_eq_true rfl⟩ ⟨Nat.zero_le _, Nat.zero_le _⟩) (fun r4 τ5 H locs hp hE _ _ => ?_)
    refine w_top hp.1 ?_
    have hE := wS_eq hp.2 hE
    refine lv_if_eq (tgt := 37) hx hb dT_ofSymbol_30 (by decide) (fun c6 => ?_) (fun c6 => ?_)
    · have c6 := zb_eq0 c6
      refine lv_iconst (v := (-1)) hx hb dT_ofSymbol_37 (by decide) ?_
      exact w_reti C hE (⟨by rw [symS]; simp only [c3, c6, if_true, if_false, Bool.false_eq_true], rfl⟩) dT_ofSymbol_38
    · have c6 := zb_ne0 c6
      refine lv_iconst (v := nI 0) hx hb dT_ofSymbol_33 (by decide) ?_
      refine lv_goto (tgt := 38) hx hb dT_ofSymbol_34 (by decide) ?_
      exact w_reti C hE (⟨by rw [symS]; simp only [c3, c6, if_true, if_false, Bool.false_eq_true], rfl⟩) dT_ofSymbol_38
  · have c3 := zb_ne0 c3
    obtain ⟨hv1, hv2⟩ := isV_of c3
    refine lv_aload_n hx hb dT_ofSymbol_7 rfl (lv_at hl 0 rfl) ?_
    refine w_get C hk hE (K := R_T) (T := F_T) (N := 4) (ci := 3) in_T 4 (Nat.le_of_ble_eq_true rfl) rfl rfl 2 (by decide) tw_88 rfl rfl dT_ofSymbol_8 ?_
    refine lv_iload_n hx hb dT_ofSymbol_11 rfl (lv_at hl 1 rfl) ?_
    refine w_top (y := nI x.toNatClampNeg) (hv1) ?_
    refine w_aald C hk hE 13 (Nat.le_of_ble_eq_true rfl) (n := 6) (b := ad (x.toNatClampNeg + 28)) rfl (by omega) (by decide) rfl dT_ofSymbol_12 ?_
    refine lv_iload_n hx hb dT_ofSymbol_13 rfl (lv_at hl 2 rfl) ?_
    refine lv_iload_n hx hb dT_ofSymbol_14 rfl (lv_at hl 3 rfl) ?_
    refine w_ci hE hA (w_runS C hk hE hl.1 (As := [.int (nI i), .int (nI j)]) (rest := [.ref (ad (x.toNatClampNeg + 28))]) (c_T_stretch l D cs ad σ i j _) tw_209 tw_210 tw_4 tw_211 (n := 2) (by decide +kernel) rfl rfl (Nat.le_of_ble_eq_true rfl) dT_ofSymbol_15 ⟨Nat.le_of_ble_eq_true rfl, Nat.le_of_ble_eq_true rfl⟩ ⟨Nat.zero_le _, Nat.zero_le _⟩) (fun r7 τ8 H locs hp hE _ _ => ?_)
    refine w_top hp.1 ?_
    have hE := wS_eq hp.2 hE
    refine w_iald C hk hE (x.toNatClampNeg + 28) (by show _ < 58; omega) (n := 81) (cE_v (ad := ad) (k := x.toNatClampNeg)) (by omega) (by first | decide | omega) dT_ofSymbol_18 ?_
    exact w_reti C hE (⟨by rw [symS]; simp only [c3, if_true, if_false, Bool.false_eq_true], rfl⟩) dT_ofSymbol_19
set_option maxHeartbeats 4000000 in
set_option maxRecDepth 100000 in
theorem c_T_ofRow (l : Launch) (D : va_G) (cs : Nat → ClassId) (ad : Nat → Nat) (σ : Mem) (t i j : Nat) (ht : t < 24) (hi : i < 9) (hj : j < 9) : MetI l (wE D cs ad) cs yT_ofRow bT_ofRow 4 (some .int) 1 21 [.ref (ad 4), .int (nI t), .int (nI i), .int (nI j)] σ (fun r τ => r = σ (t + 34) (i * 9 + j) ∧ τ = σ) := by
  refine MetI.start (by decide) (Nat.le_of_ble_eq_true rfl) ?_
  intro p e s m below meth c A ls C hk hA hE hl
  obtain ⟨hx, hb, hml, hown, hts, hr, hlocks⟩ := id C
  have hl : lv_has ls 4 [(0, .ref (ad 4)), (1, .int (nI t)), (2, .int (nI i)), (3, .int (nI j))] := hl
  refine lv_aload_n hx hb dT_ofRow_0 rfl (lv_at hl 0 rfl) ?_
  refine w_get C hk hE (K := R_T) (T := F_T) (N := 4) (ci := 3) in_T 4 (Nat.le_of_ble_eq_true rfl) rfl rfl 3 (by decide) tw_89 rfl rfl dT_ofRow_1 ?_
  refine lv_iload_n hx hb dT_ofRow_4 rfl (lv_at hl 1 rfl) ?_
  refine w_aald C hk hE 14 (Nat.le_of_ble_eq_true rfl) (n := 24) (b := ad (t + 34)) rfl (by omega) (by decide) rfl dT_ofRow_5 ?_
  refine lv_iload_n hx hb dT_ofRow_6 rfl (lv_at hl 2 rfl) ?_
  refine lv_iload_n hx hb dT_ofRow_7 rfl (lv_at hl 3 rfl) ?_
  refine w_ci hE hA (w_runS C hk hE hl.1 (As := [.int (nI i), .int (nI j)]) (rest := [.ref (ad (t + 34))]) (c_T_stretch l D cs ad σ i j _) tw_209 tw_210 tw_4 tw_211 (n := 2) (by decide +kernel) rfl rfl (Nat.le_of_ble_eq_true rfl) dT_ofRow_8 ⟨Nat.le_of_ble_eq_true rfl, Nat.le_of_ble_eq_true rfl⟩ ⟨Nat.zero_le _, Nat.zero_le _⟩) (fun r1 τ2 H locs hp hE _ _ => ?_)
  refine w_top hp.1 ?_
  have hE := wS_eq hp.2 hE
  refine w_iald C hk hE (t + 34) (by show _ < 58; omega) (n := 81) (cE_r (ad := ad) (k := t)) (by omega) (by first | decide | omega) dT_ofRow_11 ?_
  exact w_reti C hE (⟨rfl, rfl⟩) dT_ofRow_12
set_option maxHeartbeats 4000000 in
set_option maxRecDepth 100000 in
theorem c_T_ofSplitRow (l : Launch) (D : va_G) (cs : Nat → ClassId) (ad : Nat → Nat) (σ : Mem) (P S n9 t i k j : Nat) (ht : tS σ P S n9) (htS : t < 24) (hi : i < 9) (hk9 : k < 9) (hj : j < 9) : MetI l (wE D cs ad) cs yT_ofSplitRow bT_ofSplitRow 7 (some .int) 2 46 [.ref (ad 4), .int (nI t), .int (nI i), .int (nI k), .int (nI j)] σ (fun r τ => r = splitS σ n9 S t i k j ∧ τ = σ) := by
  refine MetI.start (by decide) (Nat.le_of_ble_eq_true rfl) ?_
  intro p e s m below meth c A ls C hk hA hE hl
  obtain ⟨hx, hb, hml, hown, hts, hr, hlocks⟩ := id C
  have hl : lv_has ls 7 [(0, .ref (ad 4)), (1, .int (nI t)), (2, .int (nI i)), (3, .int (nI k)), (4, .int (nI j))] := hl
  have hg := ht.1
  have hn9 := ht.2.1
  have hln := ht.2.2
  have hP8 := hg.1
  have hS24 := hg.2.1
  refine lv_aload_n hx hb dT_ofSplitRow_0 rfl (lv_at hl 0 rfl) ?_
  refine lv_aload_n hx hb dT_ofSplitRow_1 rfl (lv_at hl 0 rfl) ?_
  refine w_get C hk hE (K := R_T) (T := F_T) (N := 4) (ci := 3) in_T 4 (Nat.le_of_ble_eq_true rfl) rfl rfl 0 (by decide) tw_86 rfl rfl dT_ofSplitRow_2 ?_
  refine w_get C hk hE (K := R_G) (T := F_G) (N := 6) (ci := 0) in_G 1 (Nat.le_of_ble_eq_true rfl) rfl rfl 2 (by decide) tw_39 rfl rfl dT_ofSplitRow_5 ?_
  refine lv_iload_n hx hb dT_ofSplitRow_8 rfl (lv_at hl 1 rfl) ?_
  refine w_iald C hk hE 8 (by exact Nat.le_of_ble_eq_true rfl) (n := 24) rfl (by omega) (by first | decide | omega) dT_ofSplitRow_9 ?_
  refine lv_iload_n hx hb dT_ofSplitRow_10 rfl (lv_at hl 2 rfl) ?_
  refine lv_iload_n hx hb dT_ofSplitRow_11 rfl (lv_at hl 3 rfl) ?_
  refine w_ci hE hA (w_runV C hk hE hl.1 (As := [.int (σ 8 t), .int (nI i), .int (nI k)]) (rest := []) (q := 4) (c_T_ofSymbol l D cs ad σ P S n9 (σ 8 t) i k ht hi hk9 _) (Nat.le_of_ble_eq_true rfl) (ci := 3) (N := 4) (T := F_T) rfl rfl tw_224 tw_225 tw_226 tw_4 tw_227 (n := 3) (by decide +kernel) rfl rfl (Nat.le_of_ble_eq_true rfl) dT_ofSplitRow_12 ⟨Nat.le_of_ble_eq_true rfl, Nat.le_of_ble_eq_true rfl⟩ ⟨Nat.zero_le _, Nat.zero_le _⟩) (fun r1 τ2 H locs hp hE _ _ => ?_)
  refine w_top hp.1 ?_
  have hE := wS_eq hp.2 hE
  refine lv_istore (lv' := [(5, .int (symS σ n9 (σ 8 t) i k)), (0, .ref (ad 4)), (1, .int (nI t)), (2, .int (nI i)), (3, .int (nI k)), (4, .int (nI j))]) hx hb dT_ofSplitRow_15 hl (by decide) rfl (fun ls hl => ?_)
  refine lv_iload hx hb dT_ofSplitRow_17 (lv_at hl 0 rfl) ?_
  refine lv_iconst (v := (-1)) hx hb dT_ofSplitRow_19 (by decide) ?_
  refine lv_icmp_eq (tgt := 36) hx hb dT_ofSplitRow_20 (by decide) (fun c3 => ?_) (fun c3 => ?_)
  · refine lv_iconst (v := (-1)) hx hb dT_ofSplitRow_36 (by decide) ?_
    exact w_reti C hE (⟨by rw [splitS]; simp only [c3, if_true, if_false, ite_self], rfl⟩) dT_ofSplitRow_37
  · refine lv_iload_n hx hb dT_ofSplitRow_23 rfl (lv_at hl 2 rfl) ?_
    refine lv_iconst (v := nI 1) hx hb dT_ofSplitRow_24 (by decide) ?_
    refine lv_iadd hx hb dT_ofSplitRow_25 ?_
    refine w_top (y := nI (t + 1)) (by first | exact nI_add _ _ | simp only [nI_add, Nat.add_assoc, Nat.add_zero, Nat.zero_add]) ?_
    refine lv_aload_n hx hb dT_ofSplitRow_26 rfl (lv_at hl 1 rfl) ?_
    refine w_get C hk hE (K := R_T) (T := F_T) (N := 4) (ci := 3) in_T 4 (Nat.le_of_ble_eq_true rfl) rfl rfl 0 (by decide) tw_86 rfl rfl dT_ofSplitRow_27 ?_
    refine w_get C hk hE (K := R_G) (T := F_G) (N := 6) (ci := 0) in_G 1 (Nat.le_of_ble_eq_true rfl) rfl rfl 5 (by decide) tw_49 rfl rfl dT_ofSplitRow_30 ?_
    refine w_top (y := nI S) (hg.2.2.2.1) ?_
    refine lv_icmp_lt (tgt := 38) hx hb dT_ofSplitRow_33 (by decide) (fun c4 => ?_) (fun c4 => ?_)
    · have c4 : (t + 1) < S := (nI_ltI (by omega) (by omega)).mp c4
      refine lv_aload_n hx hb dT_ofSplitRow_38 rfl (lv_at hl 1 rfl) ?_
      refine lv_iload_n hx hb dT_ofSplitRow_39 rfl (lv_at hl 2 rfl) ?_
      refine lv_iconst (v := nI 1) hx hb dT_ofSplitRow_40 (by decide) ?_
      refine lv_iadd hx hb dT_ofSplitRow_41 ?_
      refine w_top (y := nI (t + 1)) (by first | exact nI_add _ _ | simp only [nI_add, Nat.add_assoc, Nat.add_zero, Nat.zero_add]) ?_
      refine lv_iload_n hx hb dT_ofSplitRow_42 rfl (lv_at hl 4 rfl) ?_
      refine lv_iload hx hb dT_ofSplitRow_43 (lv_at hl 5 rfl) ?_
      refine w_ci hE hA (w_runV C hk hE hl.1 (As := [.int (nI (t + 1)), .int (nI k), .int (nI j)]) (rest := []) (q := 4) (c_T_ofRow l D cs ad σ (t + 1) k j (by omega) hk9 hj _) (Nat.le_of_ble_eq_true rfl) (ci := 3) (N := 4) (T := F_T) rfl rfl tw_233 tw_234 tw_235 tw_4 tw_236 (n := 3) (by decide +kernel) rfl rfl (Nat.le_of_ble_eq_true rfl) dT_ofSplitRow_45 ⟨Nat.le_of_ble_eq_true rfl, Nat.le_of_ble_eq_true rfl⟩ ⟨Nat.zero_le _, Nat.zero_le _⟩) (fun r5 τ6 H locs hp hE _ _ => ?_)
      refine w_top hp.1 ?_
      have hE := wS_eq hp.2 hE
      refine lv_istore (lv' := [(6, .int (σ (t + 1 + 34) (k * 9 + j))), (5, .int (symS σ n9 (σ 8 t) i k)), (0, .ref (ad 4)), (1, .int (nI t)), (2, .int (nI i)), (3, .int (nI k)), (4, .int (nI j))]) hx hb dT_ofSplitRow_48 hl (by decide) rfl (fun ls hl => ?_)
      refine lv_iload hx hb dT_ofSplitRow_50 (lv_at hl 0 rfl) ?_
      refine lv_iconst (v := (-1)) hx hb dT_ofSplitRow_52 (by decide) ?_
      refine lv_icmp_ne (tgt := 60) hx hb dT_ofSplitRow_53 (by decide) (fun c7 => ?_) (fun c7 => ?_)
      · refine lv_iload hx hb dT_ofSplitRow_60 (lv_at hl 1 rfl) ?_
        refine lv_iload hx hb dT_ofSplitRow_62 (lv_at hl 0 rfl) ?_
        refine lv_iadd hx hb dT_ofSplitRow_64 ?_
        exact w_reti C hE (⟨by rw [splitS]; simp only [c3, c4, c7, if_true, if_false, ite_self], rfl⟩) dT_ofSplitRow_65
      · refine lv_iconst (v := (-1)) hx hb dT_ofSplitRow_56 (by decide) ?_
        refine lv_goto (tgt := 65) hx hb dT_ofSplitRow_57 (by decide) ?_
        exact w_reti C hE (⟨by rw [splitS]; simp only [c3, c4, c7, if_true, if_false, ite_self], rfl⟩) dT_ofSplitRow_65
    · have c4 : ¬ ((t + 1) < S) := fun h => c4 ((nI_ltI (by omega) (by omega)).mpr h)
      refine lv_iconst (v := (-1)) hx hb dT_ofSplitRow_36 (by decide) ?_
      exact w_reti C hE (⟨by rw [splitS]; simp only [c3, c4, if_true, if_false, ite_self], rfl⟩) dT_ofSplitRow_37
set_option maxHeartbeats 4000000 in
set_option maxRecDepth 100000 in
theorem lp_T_least {p : Program} {l : Launch} {e : Env} {s : State} {m : MethodId} {below : List Frame} {meth : Method} {c : Code} {D : va_G} {cs : Nat → ClassId} {ad : Nat → Nat} {A : Nat → Prop} {σ : Mem} {P S n9 t i j : Nat} (C : bC p s m ([.ref (ad 4), .int (nI t), .int (nI i), .int (nI j)] : List Value).toArray meth c bT_leastOfRow 7 "EarleyChart$StepTable" (some .int)) (hk : wk D cs s) (hA : ∀ q : Nat, s.heap.size ≤ q → A q) (ht : tS σ P S n9) (htS : t < 24) (hi : i ≤ j) (hj : j < 9)   :
    ∀ (n : Nat) (w9 : Nat), (j + 1 - (i + w9)) < n → (i + w9 ≤ j + 1) → (¬ σ 8 t = (-1)) → ∀ (H : Heap) (locs : List Loc) (ls : Array Slot), wS (wE D cs ad) A s.heap σ H locs → lv_has ls 7 [(0, .ref (ad 4)), (1, .int (nI t)), (2, .int (nI i)), (3, .int (nI j)), (4, .int (leastF σ n9 S t i j w9)), (5, .int (nI (i + w9)))] → W p l e (rmF 3 72) s m ([.ref (ad 4), .int (nI t), .int (nI i), .int (nI j)] : List Value).toArray below meth c H locs 0 0 (wQi (wE D cs ad) A (fun r τ => r = leastS σ n9 S t i j ∧ τ = σ) s below ([.ref (ad 4), .int (nI t), .int (nI i), .int (nI j)] : List Value).toArray) (F0 m 30 ls []) := by
  obtain ⟨hx, hb, hml, hown, hts, hr, hlocks⟩ := id C
  have hg := ht.1
  have hn9 := ht.2.1
  have hln := ht.2.2
  have hP8 := hg.1
  have hS24 := hg.2.1
  intro n
  induction n with
  | zero => intro w9 h; exact absurd h (Nat.not_lt_zero _)
  | succ n ih =>
    intro w9 hn hc hne H locs ls hE hl
    refine lv_iload hx hb dT_leastOfRow_30 (lv_at hl 5 rfl) ?_
    refine lv_iload_n hx hb dT_leastOfRow_32 rfl (lv_at hl 3 rfl) ?_
    refine lv_icmp_gt (tgt := 73) hx hb dT_leastOfRow_33 (by decide) (fun c1 => ?_) (fun c1 => ?_)
    · have c1 : j < (i + w9) := (nI_ltI (by omega) (by omega)).mp c1
      refine lv_iload hx hb dT_leastOfRow_73 (lv_at hl 4 rfl) ?_
      exact w_reti C hE (⟨by rw [leastS, if_neg hne, show j + 1 - i = w9 by omega], rfl⟩) dT_leastOfRow_75
    · have c1 : ¬ (j < (i + w9)) := fun h => c1 ((nI_ltI (by omega) (by omega)).mpr h)
      refine lv_aload_n hx hb dT_leastOfRow_36 rfl (lv_at hl 0 rfl) ?_
      refine lv_iload_n hx hb dT_leastOfRow_37 rfl (lv_at hl 1 rfl) ?_
      refine lv_iload_n hx hb dT_leastOfRow_38 rfl (lv_at hl 2 rfl) ?_
      refine lv_iload hx hb dT_leastOfRow_39 (lv_at hl 5 rfl) ?_
      refine lv_iload_n hx hb dT_leastOfRow_41 rfl (lv_at hl 3 rfl) ?_
      refine w_ci hE hA (w_runV C hk hE hl.1 (As := [.int (nI t), .int (nI i), .int (nI (i + w9)), .int (nI j)]) (rest := []) (q := 4) (c_T_ofSplitRow l D cs ad σ P S n9 t i (i + w9) j ht htS (by omega) (by omega) hj _) (Nat.le_of_ble_eq_true rfl) (ci := 3) (N := 4) (T := F_T) rfl rfl tw_220 tw_221 tw_222 tw_4 tw_223 (n := 4) (by decide +kernel) rfl rfl (Nat.le_of_ble_eq_true rfl) dT_leastOfRow_42 ⟨Nat.le_of_ble_eq_true rfl, Nat.le_of_ble_eq_true rfl⟩ ⟨Nat.zero_le _, Nat.zero_le _⟩) (fun r2 τ3 H locs hp hE _ _ => ?_)
      refine w_top hp.1 ?_
      have hE := wS_eq hp.2 hE
      refine lv_istore (lv' := [(6, .int (splitS σ n9 S t i (i + w9) j)), (0, .ref (ad 4)), (1, .int (nI t)), (2, .int (nI i)), (3, .int (nI j)), (4, .int (leastF σ n9 S t i j w9)), (5, .int (nI (i + w9)))]) hx hb dT_leastOfRow_45 hl (by decide) rfl (fun ls hl => ?_)
      refine lv_iload hx hb dT_leastOfRow_47 (lv_at hl 0 rfl) ?_
      refine lv_iconst (v := (-1)) hx hb dT_leastOfRow_49 (by decide) ?_
      refine lv_icmp_eq (tgt := 67) hx hb dT_leastOfRow_50 (by decide) (fun c4 => ?_) (fun c4 => ?_)
      · refine lv_iinc (v := nI ((i + w9) + 1)) (lv' := [(5, .int (nI ((i + w9) + 1))), (6, .int (splitS σ n9 S t i (i + w9) j)), (0, .ref (ad 4)), (1, .int (nI t)), (2, .int (nI i)), (3, .int (nI j)), (4, .int (leastF σ n9 S t i j w9))]) hx hb dT_leastOfRow_67 hl (k := 6) rfl (by exact nI_1 _) (by decide) rfl (fun ls hl => ?_)
        refine lv_goto (tgt := 30) hx hb dT_leastOfRow_70 (by decide) ?_
        have ev5 : (leastF σ n9 S t i j w9 : Int32) = leastF σ n9 S t i j (w9 + 1) := by first | rfl | (rw [leastF]; simp only [c4, if_true, if_false, Bool.false_eq_true])
        rw [ev5] at hl
        have ev6 : (nI ((i + w9) + 1) : Int32) = nI (i + (w9 + 1)) := by first | rfl | (rw [leastF]; simp only [c4, if_true, if_false, Bool.false_eq_true])
        rw [ev6] at hl
        exact ih (w9 + 1) (by omega) (by omega) (hne) _ _ ls hE (lv_sub hl [2, 3, 4, 5, 6, 0] rfl)
      · refine lv_iload hx hb dT_leastOfRow_53 (lv_at hl 0 rfl) ?_
        refine lv_iload hx hb dT_leastOfRow_55 (lv_at hl 5 rfl) ?_
        refine w_ci hE hA (w_runS C hk hE hl.1 (As := [.int (splitS σ n9 S t i (i + w9) j), .int (leastF σ n9 S t i j w9)]) (rest := []) (c_T_isFewer l D cs ad σ (splitS σ n9 S t i (i + w9) j) (leastF σ n9 S t i j w9) _) tw_237 tw_238 tw_4 tw_239 (n := 2) (by decide +kernel) rfl rfl (Nat.le_of_ble_eq_true rfl) dT_leastOfRow_57 ⟨Nat.le_of_ble_eq_true rfl, Nat.le_of_ble_eq_true rfl⟩ ⟨Nat.zero_le _, Nat.zero_le _⟩) (fun r7 τ8 H locs hp hE _ _ => ?_)
        refine w_top hp.1 ?_
        have hE := wS_eq hp.2 hE
        refine lv_if_eq (tgt := 67) hx hb dT_leastOfRow_60 (by decide) (fun c9 => ?_) (fun c9 => ?_)
        · have c9 : fewer (splitS σ n9 S t i (i + w9) j) (leastF σ n9 S t i j w9) = false := zb_eq0 c9
          refine lv_iinc (v := nI ((i + w9) + 1)) (lv' := [(5, .int (nI ((i + w9) + 1))), (6, .int (splitS σ n9 S t i (i + w9) j)), (0, .ref (ad 4)), (1, .int (nI t)), (2, .int (nI i)), (3, .int (nI j)), (4, .int (leastF σ n9 S t i j w9))]) hx hb dT_leastOfRow_67 hl (k := 6) rfl (by exact nI_1 _) (by decide) rfl (fun ls hl => ?_)
          refine lv_goto (tgt := 30) hx hb dT_leastOfRow_70 (by decide) ?_
          have ev10 : (leastF σ n9 S t i j w9 : Int32) = leastF σ n9 S t i j (w9 + 1) := by first | rfl | (rw [leastF]; simp only [c4, c9, if_true, if_false, Bool.false_eq_true])
          rw [ev10] at hl
          have ev11 : (nI ((i + w9) + 1) : Int32) = nI (i + (w9 + 1)) := by first | rfl | (rw [leastF]; simp only [c4, c9, if_true, if_false, Bool.false_eq_true])
          rw [ev11] at hl
          exact ih (w9 + 1) (by omega) (by omega) (hne) _ _ ls hE (lv_sub hl [2, 3, 4, 5, 6, 0] rfl)
        · have c9 : fewer (splitS σ n9 S t i (i + w9) j) (leastF σ n9 S t i j w9) = true := zb_ne0 c9
          refine lv_iload hx hb dT_leastOfRow_63 (lv_at hl 0 rfl) ?_
          refine lv_istore (lv' := [(4, .int (splitS σ n9 S t i (i + w9) j)), (6, .int (splitS σ n9 S t i (i + w9) j)), (0, .ref (ad 4)), (1, .int (nI t)), (2, .int (nI i)), (3, .int (nI j)), (5, .int (nI (i + w9)))]) hx hb dT_leastOfRow_65 hl (by decide) rfl (fun ls hl => ?_)
          refine lv_iinc (v := nI ((i + w9) + 1)) (lv' := [(5, .int (nI ((i + w9) + 1))), (4, .int (splitS σ n9 S t i (i + w9) j)), (6, .int (splitS σ n9 S t i (i + w9) j)), (0, .ref (ad 4)), (1, .int (nI t)), (2, .int (nI i)), (3, .int (nI j))]) hx hb dT_leastOfRow_67 hl (k := 6) rfl (by exact nI_1 _) (by decide) rfl (fun ls hl => ?_)
          refine lv_goto (tgt := 30) hx hb dT_leastOfRow_70 (by decide) ?_
          have ev12 : (splitS σ n9 S t i (i + w9) j : Int32) = leastF σ n9 S t i j (w9 + 1) := by first | rfl | (rw [leastF]; simp only [c4, c9, if_true, if_false, Bool.false_eq_true])
          rw [ev12] at hl
          have ev13 : (nI ((i + w9) + 1) : Int32) = nI (i + (w9 + 1)) := by first | rfl | (rw [leastF]; simp only [c4, c9, if_true, if_false, Bool.false_eq_true])
          rw [ev13] at hl
          exact ih (w9 + 1) (by omega) (by omega) (hne) _ _ ls hE (lv_sub hl [3, 4, 5, 6, 1, 0] rfl)
set_option maxHeartbeats 4000000 in
set_option maxRecDepth 100000 in
theorem c_T_leastOfRow (l : Launch) (D : va_G) (cs : Nat → ClassId) (ad : Nat → Nat) (σ : Mem) (P S n9 t i j : Nat) (ht : tS σ P S n9) (htS : t < 24) (hi : i ≤ j) (hj : j < 9) : MetI l (wE D cs ad) cs yT_leastOfRow bT_leastOfRow 7 (some .int) 3 72 [.ref (ad 4), .int (nI t), .int (nI i), .int (nI j)] σ (fun r τ => r = leastS σ n9 S t i j ∧ τ = σ) := by
  refine MetI.start (by decide) (Nat.le_of_ble_eq_true rfl) ?_
  intro p e s m below meth c A ls C hk hA hE hl
  obtain ⟨hx, hb, hml, hown, hts, hr, hlocks⟩ := id C
  have hl : lv_has ls 7 [(0, .ref (ad 4)), (1, .int (nI t)), (2, .int (nI i)), (3, .int (nI j))] := hl
  have hg := ht.1
  have hn9 := ht.2.1
  have hln := ht.2.2
  have hP8 := hg.1
  have hS24 := hg.2.1
  refine lv_aload_n hx hb dT_leastOfRow_0 rfl (lv_at hl 0 rfl) ?_
  refine w_get C hk hE (K := R_T) (T := F_T) (N := 4) (ci := 3) in_T 4 (Nat.le_of_ble_eq_true rfl) rfl rfl 0 (by decide) tw_86 rfl rfl dT_leastOfRow_1 ?_
  refine w_get C hk hE (K := R_G) (T := F_G) (N := 6) (ci := 0) in_G 1 (Nat.le_of_ble_eq_true rfl) rfl rfl 2 (by decide) tw_39 rfl rfl dT_leastOfRow_4 ?_
  refine lv_iload_n hx hb dT_leastOfRow_7 rfl (lv_at hl 1 rfl) ?_
  refine w_iald C hk hE 8 (by exact Nat.le_of_ble_eq_true rfl) (n := 24) rfl (by omega) (by first | decide | omega) dT_leastOfRow_8 ?_
  refine lv_iconst (v := (-1)) hx hb dT_leastOfRow_9 (by decide) ?_
  refine lv_icmp_ne (tgt := 24) hx hb dT_leastOfRow_10 (by decide) (fun c1 => ?_) (fun c1 => ?_)
  · refine lv_iconst (v := (-1)) hx hb dT_leastOfRow_24 (by decide) ?_
    refine lv_istore (lv' := [(4, .int (-1)), (0, .ref (ad 4)), (1, .int (nI t)), (2, .int (nI i)), (3, .int (nI j))]) hx hb dT_leastOfRow_25 hl (by decide) rfl (fun ls hl => ?_)
    refine lv_iload_n hx hb dT_leastOfRow_27 rfl (lv_at hl 3 rfl) ?_
    refine lv_istore (lv' := [(5, .int (nI i)), (4, .int (-1)), (0, .ref (ad 4)), (1, .int (nI t)), (2, .int (nI i)), (3, .int (nI j))]) hx hb dT_leastOfRow_28 hl (by decide) rfl (fun ls hl => ?_)
    have ev2 : ((-1) : Int32) = leastF σ n9 S t i j 0 := by rfl
    rw [ev2] at hl
    exact lp_T_least C hk hA ht htS hi hj _ 0 (Nat.lt_succ_self _) (by omega) (c1) _ _ ls hE (lv_sub hl [2, 3, 4, 5, 1, 0] rfl)
  · refine lv_iload_n hx hb dT_leastOfRow_13 rfl (lv_at hl 2 rfl) ?_
    refine lv_iload_n hx hb dT_leastOfRow_14 rfl (lv_at hl 3 rfl) ?_
    refine lv_icmp_ne (tgt := 22) hx hb dT_leastOfRow_15 (by decide) (fun c3 => ?_) (fun c3 => ?_)
    · have c3 : ¬ (i = j) := fun h => c3 ((nI_eq (by omega) (by omega)).mpr h)
      refine lv_iconst (v := (-1)) hx hb dT_leastOfRow_22 (by decide) ?_
      exact w_reti C hE (⟨by rw [leastS]; simp only [c1, c3, if_true, if_false], rfl⟩) dT_leastOfRow_23
    · have c3 : i = j := (nI_eq (by omega) (by omega)).mp c3
      refine lv_iconst (v := nI 0) hx hb dT_leastOfRow_18 (by decide) ?_
      refine lv_goto (tgt := 23) hx hb dT_leastOfRow_19 (by decide) ?_
      exact w_reti C hE (⟨by rw [leastS]; simp only [c1, c3, if_true, if_false], rfl⟩) dT_leastOfRow_23
set_option maxHeartbeats 4000000 in
set_option maxRecDepth 100000 in
theorem lp_T_lower {p : Program} {l : Launch} {e : Env} {s : State} {m : MethodId} {below : List Frame} {meth : Method} {c : Code} {D : va_G} {cs : Nat → ClassId} {ad : Nat → Nat} {A : Nat → Prop} {σ : Mem} {P S n9 i j : Nat} (C : bC p s m ([.ref (ad 4), .int (nI i), .int (nI j)] : List Value).toArray meth c bT_lower 7 "EarleyChart$StepTable" (some .boolean)) (hk : wk D cs s) (hA : ∀ q : Nat, s.heap.size ≤ q → A q) (ht : tS σ P S n9) (hi : i ≤ j) (hj : j < 9)   :
    ∀ (n : Nat) (t : Nat) (b : Bool) (μ : Mem), t < n → (t ≤ S) → (tS μ P S n9) → (lowF n9 S i j t b μ = lowF n9 S i j S false σ) → ∀ (H : Heap) (locs : List Loc) (ls : Array Slot), wS (wE D cs ad) A s.heap μ H locs → lv_has ls 7 [(0, .ref (ad 4)), (1, .int (nI i)), (2, .int (nI j)), (3, .int (zb b)), (4, .int (dn t))] → W p l e (rmF 4 98) s m ([.ref (ad 4), .int (nI i), .int (nI j)] : List Value).toArray below meth c H locs 0 0 (wQi (wE D cs ad) A (fun r τ => r = zb (lowF n9 S i j S false σ).1 ∧ τ = (lowF n9 S i j S false σ).2) s below ([.ref (ad 4), .int (nI i), .int (nI j)] : List Value).toArray) (F0 m 13 ls []) := by
  obtain ⟨hx, hb, hml, hown, hts, hr, hlocks⟩ := id C
  have hg := ht.1
  have hn9 := ht.2.1
  have hln := ht.2.2
  have hP8 := hg.1
  have hS24 := hg.2.1
  intro n
  induction n with
  | zero => intro t b μ h; exact absurd h (Nat.not_lt_zero _)
  | succ n ih =>
    intro t b μ hn hi9 htμ hres H locs ls hE hl
    refine lv_iload hx hb dT_lower_13 (lv_at hl 4 rfl) ?_
    refine lv_if_lt (tgt := 115) hx hb dT_lower_15 (by decide) (fun c1 => ?_) (fun c1 => ?_)
    · have ht0 := dn_lt (by omega) c1
      refine lv_iload_n hx hb dT_lower_115 rfl (lv_at hl 3 rfl) ?_
      exact w_retz C hE (zb_01 b) (by rw [← hres, ht0]; exact ⟨rfl, rfl⟩) dT_lower_116
    · obtain ⟨u, rfl⟩ := dn_ge c1
      have hgμ := htμ.1
      obtain ⟨h9, h9b, h9c⟩ := hgμ.2.2.2.2.2.1 u (by omega)
      obtain ⟨h6, h6b, h7, h7b⟩ := hgμ.2.2.2.2.1 (gp μ u) h9b
      have hl : lv_has ls 7 [(0, .ref (ad 4)), (1, .int (nI i)), (2, .int (nI j)), (3, .int (zb b)), (4, .int (nI u))] := hl
      refine lv_aload_n hx hb dT_lower_18 rfl (lv_at hl 0 rfl) ?_
      refine lv_iload hx hb dT_lower_19 (lv_at hl 4 rfl) ?_
      refine lv_iload_n hx hb dT_lower_21 rfl (lv_at hl 1 rfl) ?_
      refine lv_iload_n hx hb dT_lower_22 rfl (lv_at hl 2 rfl) ?_
      refine w_ci hE hA (w_runV C hk hE hl.1 (As := [.int (nI u), .int (nI i), .int (nI j)]) (rest := []) (q := 4) (c_T_leastOfRow l D cs ad μ P S n9 u i j htμ (by omega) hi hj _) (Nat.le_of_ble_eq_true rfl) (ci := 3) (N := 4) (T := F_T) rfl rfl tw_216 tw_218 ts_7 tw_4 tw_219 (n := 3) (by decide +kernel) rfl rfl (Nat.le_of_ble_eq_true rfl) dT_lower_23 ⟨Nat.le_of_ble_eq_true rfl, Nat.le_of_ble_eq_true rfl⟩ ⟨Nat.zero_le _, Nat.zero_le _⟩) (fun r2 τ3 H locs hp hE _ _ => ?_)
      refine w_top hp.1 ?_
      have hE := wS_eq hp.2 hE
      refine lv_istore (lv' := [(5, .int (leastS μ n9 S u i j)), (0, .ref (ad 4)), (1, .int (nI i)), (2, .int (nI j)), (3, .int (zb b)), (4, .int (nI u))]) hx hb dT_lower_26 hl (by decide) rfl (fun ls hl => ?_)
      refine lv_aload_n hx hb dT_lower_28 rfl (lv_at hl 1 rfl) ?_
      refine w_get C hk hE (K := R_T) (T := F_T) (N := 4) (ci := 3) in_T 4 (Nat.le_of_ble_eq_true rfl) rfl rfl 3 (by decide) tw_89 rfl rfl dT_lower_29 ?_
      refine lv_iload hx hb dT_lower_32 (lv_at hl 5 rfl) ?_
      refine w_aald C hk hE 14 (Nat.le_of_ble_eq_true rfl) (n := 24) (b := ad (u + 34)) rfl (by omega) (by decide) rfl dT_lower_34 ?_
      refine lv_iload_n hx hb dT_lower_35 rfl (lv_at hl 2 rfl) ?_
      refine lv_iload_n hx hb dT_lower_36 rfl (lv_at hl 3 rfl) ?_
      refine w_ci hE hA (w_runS C hk hE hl.1 (As := [.int (nI i), .int (nI j)]) (rest := [.ref (ad (u + 34))]) (c_T_stretch l D cs ad (μ) i j _) tw_209 tw_210 tw_4 tw_211 (n := 2) (by decide +kernel) rfl rfl (Nat.le_of_ble_eq_true rfl) dT_lower_37 ⟨Nat.le_of_ble_eq_true rfl, Nat.le_of_ble_eq_true rfl⟩ ⟨Nat.zero_le _, Nat.zero_le _⟩) (fun r4 τ5 H locs hp hE _ _ => ?_)
      refine w_top hp.1 ?_
      have hE := wS_eq hp.2 hE
      refine lv_iload hx hb dT_lower_40 (lv_at hl 0 rfl) ?_
      refine w_iast C hk hE (u + 34) (by show _ < 58; omega) (n := 81) (fun _ => cE_r (ad := ad) (k := u)) (by omega) (by first | decide | omega) dT_lower_42 (fun H locs hE => ?_)
      have hE : wS (wE D cs ad) A s.heap (low1 n9 S i j u μ) H locs := hE
      refine lv_aload_n hx hb dT_lower_43 rfl (lv_at hl 1 rfl) ?_
      refine w_get C hk hE (K := R_T) (T := F_T) (N := 4) (ci := 3) in_T 4 (Nat.le_of_ble_eq_true rfl) rfl rfl 0 (by decide) tw_86 rfl rfl dT_lower_44 ?_
      refine lv_iload hx hb dT_lower_47 (lv_at hl 5 rfl) ?_
      refine w_ci hE hA (w_runV C hk hE hl.1 (As := [.int (nI u)]) (rest := []) (q := 1) (c_G_dotAt l D cs ad (low1 n9 S i j u μ) u (gp μ u) (gf μ (gp μ u)) (by omega) ((congrFun (low1_lo (by decide)) u).trans h9) (by omega) ((congrFun (low1_lo (by decide)) _).trans h7) h9c _) (Nat.le_of_ble_eq_true rfl) (ci := 0) (N := 6) (T := F_G) rfl rfl tw_240 tw_241 tw_242 tw_2 tw_243 (n := 1) (by decide +kernel) rfl rfl (Nat.le_of_ble_eq_true rfl) dT_lower_49 ⟨Nat.le_of_ble_eq_true rfl, Nat.le_of_ble_eq_true rfl⟩ ⟨Nat.zero_le _, Nat.zero_le _⟩) (fun r6 τ7 H locs hp hE _ _ => ?_)
      refine w_top hp.1 ?_
      have hE := wS_eq hp.2 hE
      refine lv_if_ne (tgt := 109) hx hb dT_lower_52 (by decide) (fun c8 => ?_) (fun c8 => ?_)
      · have c8 := w_n0 (by omega) c8
        refine lv_iinc (v := (nI u) + -1) (lv' := [(4, .int ((nI u) + -1)), (5, .int (leastS μ n9 S u i j)), (0, .ref (ad 4)), (1, .int (nI i)), (2, .int (nI j)), (3, .int (zb b))]) hx hb dT_lower_109 hl (k := 5) rfl (rfl) (by decide) rfl (fun ls hl => ?_)
        refine lv_goto (tgt := 13) hx hb dT_lower_112 (by decide) ?_
        have ev9 : ((nI u) + -1 : Int32) = dn u := by exact dn_pred _
        rw [ev9] at hl
        exact ih u b (low1 n9 S i j u μ) (by omega) (by omega) (tS_of htμ (fun q hq => by first | exact low1_lo (by omega) | exact (mset_28 (by omega)).trans (low1_lo (by omega)))) (by rw [← hres, lowF]; congr 1 <;> simp [lowS, lowC, c8]) _ _ ls hE (lv_sub hl [2, 3, 4, 5, 0] rfl)
      · have c8 := w_z0 (by omega) c8
        refine lv_iload hx hb dT_lower_55 (lv_at hl 0 rfl) ?_
        refine lv_iconst (v := (-1)) hx hb dT_lower_57 (by decide) ?_
        refine lv_icmp_eq (tgt := 109) hx hb dT_lower_58 (by decide) (fun c10 => ?_) (fun c10 => ?_)
        · refine lv_iinc (v := (nI u) + -1) (lv' := [(4, .int ((nI u) + -1)), (5, .int (leastS μ n9 S u i j)), (0, .ref (ad 4)), (1, .int (nI i)), (2, .int (nI j)), (3, .int (zb b))]) hx hb dT_lower_109 hl (k := 5) rfl (rfl) (by decide) rfl (fun ls hl => ?_)
          refine lv_goto (tgt := 13) hx hb dT_lower_112 (by decide) ?_
          have ev11 : ((nI u) + -1 : Int32) = dn u := by exact dn_pred _
          rw [ev11] at hl
          exact ih u b (low1 n9 S i j u μ) (by omega) (by omega) (tS_of htμ (fun q hq => by first | exact low1_lo (by omega) | exact (mset_28 (by omega)).trans (low1_lo (by omega)))) (by rw [← hres, lowF]; congr 1 <;> simp [lowS, lowC, c8, c10]) _ _ ls hE (lv_sub hl [2, 3, 4, 5, 0] rfl)
        · refine lv_aload_n hx hb dT_lower_61 rfl (lv_at hl 1 rfl) ?_
          refine w_get C hk hE (K := R_T) (T := F_T) (N := 4) (ci := 3) in_T 4 (Nat.le_of_ble_eq_true rfl) rfl rfl 2 (by decide) tw_88 rfl rfl dT_lower_62 ?_
          refine lv_aload_n hx hb dT_lower_65 rfl (lv_at hl 1 rfl) ?_
          refine w_get C hk hE (K := R_T) (T := F_T) (N := 4) (ci := 3) in_T 4 (Nat.le_of_ble_eq_true rfl) rfl rfl 0 (by decide) tw_86 rfl rfl dT_lower_66 ?_
          refine lv_iload hx hb dT_lower_69 (lv_at hl 5 rfl) ?_
          refine w_ci hE hA (w_runV C hk hE hl.1 (As := [.int (nI u)]) (rest := [.ref (ad 13)]) (q := 1) (c_G_leftSideAt l D cs ad (low1 n9 S i j u μ) u (gp μ u) (by omega) ((congrFun (low1_lo (by decide)) u).trans h9) (by omega) _) (Nat.le_of_ble_eq_true rfl) (ci := 0) (N := 6) (T := F_G) rfl rfl tw_244 tw_191 tw_192 tw_2 tw_193 (n := 1) (by decide +kernel) rfl rfl (Nat.le_of_ble_eq_true rfl) dT_lower_71 ⟨Nat.le_of_ble_eq_true rfl, Nat.le_of_ble_eq_true rfl⟩ ⟨Nat.zero_le _, Nat.zero_le _⟩) (fun r12 τ13 H locs hp hE _ _ => ?_)
          refine w_top (y := nI (gv μ (gp μ u))) (hp.1.trans ((congrFun (low1_lo (by decide)) _).trans h6)) ?_
          have hE := wS_eq hp.2 hE
          refine w_aald C hk hE 13 (Nat.le_of_ble_eq_true rfl) (n := 6) (b := ad ((gv μ (gp μ u)) + 28)) rfl (by omega) (by decide) rfl dT_lower_74 ?_
          refine lv_astore (lv' := [(6, .ref (ad ((gv μ (gp μ u)) + 28))), (5, .int (leastS μ n9 S u i j)), (0, .ref (ad 4)), (1, .int (nI i)), (2, .int (nI j)), (3, .int (zb b)), (4, .int (nI u))]) hx hb dT_lower_75 hl (by decide) rfl (fun ls hl => ?_)
          refine lv_iload hx hb dT_lower_77 (lv_at hl 1 rfl) ?_
          refine lv_iconst (v := nI 1) hx hb dT_lower_79 (by decide) ?_
          refine lv_iadd hx hb dT_lower_80 ?_
          refine lv_aload hx hb dT_lower_81 (lv_at hl 0 rfl) ?_
          refine lv_iload_n hx hb dT_lower_83 rfl (lv_at hl 3 rfl) ?_
          refine lv_iload_n hx hb dT_lower_84 rfl (lv_at hl 4 rfl) ?_
          refine w_ci hE hA (w_runS C hk hE hl.1 (As := [.int (nI i), .int (nI j)]) (rest := [.ref (ad ((gv μ (gp μ u)) + 28)), .int ((leastS μ n9 S u i j) + (nI 1))]) (c_T_stretch l D cs ad (low1 n9 S i j u μ) i j _) tw_209 tw_210 tw_4 tw_211 (n := 2) (by decide +kernel) rfl rfl (Nat.le_of_ble_eq_true rfl) dT_lower_85 ⟨Nat.le_of_ble_eq_true rfl, Nat.le_of_ble_eq_true rfl⟩ ⟨Nat.zero_le _, Nat.zero_le _⟩) (fun r14 τ15 H locs hp hE _ _ => ?_)
          refine w_top hp.1 ?_
          have hE := wS_eq hp.2 hE
          refine w_iald C hk hE ((gv μ (gp μ u)) + 28) (by show _ < 58; omega) (n := 81) (cE_v (ad := ad) (k := (gv μ (gp μ u)))) (by omega) (by first | decide | omega) dT_lower_88 ?_
          refine w_ci hE hA (w_runS C hk hE hl.1 (As := [.int ((leastS μ n9 S u i j) + (nI 1)), .int ((low1 n9 S i j u μ) ((gv μ (gp μ u)) + 28) (i * 9 + j))]) (rest := []) (c_T_isFewer l D cs ad (low1 n9 S i j u μ) ((leastS μ n9 S u i j) + (nI 1)) ((low1 n9 S i j u μ) ((gv μ (gp μ u)) + 28) (i * 9 + j)) _) tw_237 tw_238 tw_4 tw_239 (n := 2) (by decide +kernel) rfl rfl (Nat.le_of_ble_eq_true rfl) dT_lower_89 ⟨Nat.le_of_ble_eq_true rfl, Nat.le_of_ble_eq_true rfl⟩ ⟨Nat.zero_le _, Nat.zero_le _⟩) (fun r16 τ17 H locs hp hE _ _ => ?_)
          refine w_top hp.1 ?_
          have hE := wS_eq hp.2 hE
          refine lv_if_eq (tgt := 109) hx hb dT_lower_92 (by decide) (fun c18 => ?_) (fun c18 => ?_)
          · have c18 : fewer (leastS μ n9 S u i j + nI 1) (low1 n9 S i j u μ (gv μ (gp μ u) + 28) (i * 9 + j)) = false := zb_eq0 c18
            refine lv_iinc (v := (nI u) + -1) (lv' := [(4, .int ((nI u) + -1)), (6, .ref (ad ((gv μ (gp μ u)) + 28))), (5, .int (leastS μ n9 S u i j)), (0, .ref (ad 4)), (1, .int (nI i)), (2, .int (nI j)), (3, .int (zb b))]) hx hb dT_lower_109 hl (k := 6) rfl (rfl) (by decide) rfl (fun ls hl => ?_)
            refine lv_goto (tgt := 13) hx hb dT_lower_112 (by decide) ?_
            have ev19 : ((nI u) + -1 : Int32) = dn u := by exact dn_pred _
            rw [ev19] at hl
            exact ih u b (low1 n9 S i j u μ) (by omega) (by omega) (tS_of htμ (fun q hq => by first | exact low1_lo (by omega) | exact (mset_28 (by omega)).trans (low1_lo (by omega)))) (by rw [← hres, lowF]; congr 1 <;> simp [lowS, lowC, c8, c10, c18]) _ _ ls hE (lv_sub hl [3, 4, 5, 6, 0] rfl)
          · have c18 : fewer (leastS μ n9 S u i j + nI 1) (low1 n9 S i j u μ (gv μ (gp μ u) + 28) (i * 9 + j)) = true := zb_ne0 c18
            refine lv_aload hx hb dT_lower_95 (lv_at hl 0 rfl) ?_
            refine lv_iload_n hx hb dT_lower_97 rfl (lv_at hl 3 rfl) ?_
            refine lv_iload_n hx hb dT_lower_98 rfl (lv_at hl 4 rfl) ?_
            refine w_ci hE hA (w_runS C hk hE hl.1 (As := [.int (nI i), .int (nI j)]) (rest := [.ref (ad ((gv μ (gp μ u)) + 28))]) (c_T_stretch l D cs ad (low1 n9 S i j u μ) i j _) tw_209 tw_210 tw_4 tw_211 (n := 2) (by decide +kernel) rfl rfl (Nat.le_of_ble_eq_true rfl) dT_lower_99 ⟨Nat.le_of_ble_eq_true rfl, Nat.le_of_ble_eq_true rfl⟩ ⟨Nat.zero_le _, Nat.zero_le _⟩) (fun r20 τ21 H locs hp hE _ _ => ?_)
            refine w_top hp.1 ?_
            have hE := wS_eq hp.2 hE
            refine lv_iload hx hb dT_lower_102 (lv_at hl 1 rfl) ?_
            refine lv_iconst (v := nI 1) hx hb dT_lower_104 (by decide) ?_
            refine lv_iadd hx hb dT_lower_105 ?_
            refine w_iast C hk hE ((gv μ (gp μ u)) + 28) (by show _ < 58; omega) (n := 81) (fun _ => cE_v (ad := ad) (k := (gv μ (gp μ u)))) (by omega) (by first | decide | omega) dT_lower_106 (fun H locs hE => ?_)
            refine lv_iconst (v := nI 1) hx hb dT_lower_107 (by decide) ?_
            refine lv_istore_n (lv' := [(3, .int (nI 1)), (6, .ref (ad ((gv μ (gp μ u)) + 28))), (5, .int (leastS μ n9 S u i j)), (0, .ref (ad 4)), (1, .int (nI i)), (2, .int (nI j)), (4, .int (nI u))]) hx hb dT_lower_108 rfl hl (by decide) rfl (fun ls hl => ?_)
            refine lv_iinc (v := (nI u) + -1) (lv' := [(4, .int ((nI u) + -1)), (3, .int (nI 1)), (6, .ref (ad ((gv μ (gp μ u)) + 28))), (5, .int (leastS μ n9 S u i j)), (0, .ref (ad 4)), (1, .int (nI i)), (2, .int (nI j))]) hx hb dT_lower_109 hl (k := 6) rfl (rfl) (by decide) rfl (fun ls hl => ?_)
            refine lv_goto (tgt := 13) hx hb dT_lower_112 (by decide) ?_
            have ev22 : (nI 1 : Int32) = zb true := by exact zb_t.symm
            rw [ev22] at hl
            have ev23 : ((nI u) + -1 : Int32) = dn u := by exact dn_pred _
            rw [ev23] at hl
            exact ih u true (mset (low1 n9 S i j u μ) ((gv μ (gp μ u)) + 28) (i * 9 + j) ((leastS μ n9 S u i j) + (nI 1))) (by omega) (by omega) (tS_of htμ (fun q hq => by first | exact low1_lo (by omega) | exact (mset_28 (by omega)).trans (low1_lo (by omega)))) (by rw [← hres, lowF]; congr 1 <;> simp [lowS, lowC, c8, c10, c18]) _ _ ls hE (lv_sub hl [4, 5, 6, 1, 0] rfl)
set_option maxHeartbeats 4000000 in
set_option maxRecDepth 100000 in
theorem c_T_lower (l : Launch) (D : va_G) (cs : Nat → ClassId) (ad : Nat → Nat) (σ : Mem) (P S n9 i j : Nat) (ht : tS σ P S n9) (hi : i ≤ j) (hj : j < 9) : MetI l (wE D cs ad) cs yT_lower bT_lower 7 (some .boolean) 4 98 [.ref (ad 4), .int (nI i), .int (nI j)] σ (fun r τ => r = zb (lowF n9 S i j S false σ).1 ∧ τ = (lowF n9 S i j S false σ).2) := by
  refine MetI.start (by decide) (Nat.le_of_ble_eq_true rfl) ?_
  intro p e s m below meth c A ls C hk hA hE hl
  obtain ⟨hx, hb, hml, hown, hts, hr, hlocks⟩ := id C
  have hl : lv_has ls 7 [(0, .ref (ad 4)), (1, .int (nI i)), (2, .int (nI j))] := hl
  have hg := ht.1
  have hn9 := ht.2.1
  have hln := ht.2.2
  have hP8 := hg.1
  have hS24 := hg.2.1
  refine lv_iconst (v := nI 0) hx hb dT_lower_0 (by decide) ?_
  refine lv_istore_n (lv' := [(3, .int (nI 0)), (0, .ref (ad 4)), (1, .int (nI i)), (2, .int (nI j))]) hx hb dT_lower_1 rfl hl (by decide) rfl (fun ls hl => ?_)
  refine lv_aload_n hx hb dT_lower_2 rfl (lv_at hl 1 rfl) ?_
  refine w_get C hk hE (K := R_T) (T := F_T) (N := 4) (ci := 3) in_T 4 (Nat.le_of_ble_eq_true rfl) rfl rfl 0 (by decide) tw_86 rfl rfl dT_lower_3 ?_
  refine w_get C hk hE (K := R_G) (T := F_G) (N := 6) (ci := 0) in_G 1 (Nat.le_of_ble_eq_true rfl) rfl rfl 5 (by decide) tw_49 rfl rfl dT_lower_6 ?_
  refine w_top (y := nI S) (hg.2.2.2.1) ?_
  refine lv_iconst (v := nI 1) hx hb dT_lower_9 (by decide) ?_
  refine lv_isub hx hb dT_lower_10 ?_
  refine lv_istore (lv' := [(4, .int ((nI S) - (nI 1))), (3, .int (nI 0)), (0, .ref (ad 4)), (1, .int (nI i)), (2, .int (nI j))]) hx hb dT_lower_11 hl (by decide) rfl (fun ls hl => ?_)
  have ev1 : (nI 0 : Int32) = zb false := by first | exact dn_sub | rfl
  rw [ev1] at hl
  have ev2 : ((nI S) - (nI 1) : Int32) = dn S := by first | exact dn_sub | rfl
  rw [ev2] at hl
  exact lp_T_lower C hk hA ht hi hj _ S false σ (Nat.lt_succ_self _) (Nat.le_refl _) (ht) (rfl) _ _ ls hE (lv_sub hl [2, 3, 4, 1, 0] rfl)
set_option maxHeartbeats 4000000 in
set_option maxRecDepth 100000 in
theorem lp_T_fs2 {p : Program} {l : Launch} {e : Env} {s : State} {m : MethodId} {below : List Frame} {meth : Method} {c : Code} {D : va_G} {cs : Nat → ClassId} {ad : Nat → Nat} {A : Nat → Prop} {σ : Mem} {P S n9 i j : Nat} (C : bC p s m ([.ref (ad 4), .int (nI i), .int (nI j)] : List Value).toArray meth c bT_fillStretch 5 "EarleyChart$StepTable" none) (hk : wk D cs s) (hA : ∀ q : Nat, s.heap.size ≤ q → A q) (ht : tS σ P S n9) (hi : i ≤ j) (hj : j < 9)   :
    ∀ (n : Nat) (k9 : Nat) (b : Bool) (μ : Mem), (1000 - k9) < n → (k9 ≤ 1000) → (tS μ P S n9) → ((if b = true then strF n9 S i j (1000 - k9) μ else μ) = fstr n9 S i j σ) → ∀ (H : Heap) (locs : List Loc) (ls : Array Slot), wS (wE D cs ad) A s.heap μ H locs → lv_has ls 5 [(0, .ref (ad 4)), (1, .int (nI i)), (2, .int (nI j)), (3, .int (zb b)), (4, .int (nI k9))] → W p l e (rmF 5 124) s m ([.ref (ad 4), .int (nI i), .int (nI j)] : List Value).toArray below meth c H locs 0 0 (wQv (wE D cs ad) A (fun τ => τ = fstr n9 S i j σ) s below ([.ref (ad 4), .int (nI i), .int (nI j)] : List Value).toArray) (F0 m 32 ls []) := by
  obtain ⟨hx, hb, hml, hown, hts, hr, hlocks⟩ := id C
  have hg := ht.1
  have hn9 := ht.2.1
  have hln := ht.2.2
  have hP8 := hg.1
  have hS24 := hg.2.1
  intro n
  induction n with
  | zero => intro k9 b μ h; exact absurd h (Nat.not_lt_zero _)
  | succ n ih =>
    intro k9 b μ hn hk9 htμ hres H locs ls hE hl
    refine lv_iload_n hx hb dT_fillStretch_32 rfl (lv_at hl 3 rfl) ?_
    refine lv_if_eq (tgt := 57) hx hb dT_fillStretch_33 (by decide) (fun c1 => ?_) (fun c1 => ?_)
    · have c1 := zb_eq0 c1
      exact w_retv C hE (by first | (rw [← hres, c1]; rfl) | (rw [← hres, c1, show 1000 - k9 = 0 by omega]; rfl)) dT_fillStretch_57
    · have c1 := zb_ne0 c1
      refine lv_iload hx hb dT_fillStretch_36 (lv_at hl 4 rfl) ?_
      refine lv_sipush (v := nI 1000) hx hb dT_fillStretch_38 (by decide) ?_
      refine lv_icmp_ge (tgt := 57) hx hb dT_fillStretch_41 (by decide) (fun c2 => ?_) (fun c2 => ?_)
      · have c2 : 1000 ≤ k9 := (nI_leI (by omega) (by omega)).mp c2
        exact w_retv C hE (by first | (rw [← hres, c1]; rfl) | (rw [← hres, c1, show 1000 - k9 = 0 by omega]; rfl)) dT_fillStretch_57
      · have c2 : ¬ (1000 ≤ k9) := fun h => c2 ((nI_leI (by omega) (by omega)).mpr h)
        refine lv_aload_n hx hb dT_fillStretch_44 rfl (lv_at hl 0 rfl) ?_
        refine lv_iload_n hx hb dT_fillStretch_45 rfl (lv_at hl 1 rfl) ?_
        refine lv_iload_n hx hb dT_fillStretch_46 rfl (lv_at hl 2 rfl) ?_
        refine w_ci hE hA (w_runV C hk hE hl.1 (As := [.int (nI i), .int (nI j)]) (rest := []) (q := 4) (c_T_lower l D cs ad μ P S n9 i j htμ hi hj _) (Nat.le_of_ble_eq_true rfl) (ci := 3) (N := 4) (T := F_T) rfl rfl tw_212 tw_214 ts_6 tw_4 tw_215 (n := 2) (by decide +kernel) rfl rfl (Nat.le_of_ble_eq_true rfl) dT_fillStretch_47 ⟨Nat.le_of_ble_eq_true rfl, Nat.le_of_ble_eq_true rfl⟩ ⟨Nat.zero_le _, Nat.zero_le _⟩) (fun r3 τ4 H locs hp hE _ _ => ?_)
        refine w_top hp.1 ?_
        have hE := wS_eq hp.2 hE
        refine lv_istore_n (lv' := [(3, .int (zb (lowF n9 S i j S false μ).1)), (0, .ref (ad 4)), (1, .int (nI i)), (2, .int (nI j)), (4, .int (nI k9))]) hx hb dT_fillStretch_50 rfl hl (by decide) rfl (fun ls hl => ?_)
        refine lv_iinc (v := nI (k9 + 1)) (lv' := [(4, .int (nI (k9 + 1))), (3, .int (zb (lowF n9 S i j S false μ).1)), (0, .ref (ad 4)), (1, .int (nI i)), (2, .int (nI j))]) hx hb dT_fillStretch_51 hl (k := 4) rfl (by exact nI_1 _) (by decide) rfl (fun ls hl => ?_)
        refine lv_goto (tgt := 32) hx hb dT_fillStretch_54 (by decide) ?_
        have ev5 : (zb (lowF n9 S i j S false μ).1 : Int32) = zb ((lowF n9 S i j S false μ).1) := by rfl
        rw [ev5] at hl
        exact ih (k9 + 1) ((lowF n9 S i j S false μ).1) ((lowF n9 S i j S false μ).2) (by omega) (by omega) (tS_of htμ (fun q hq => lowF_lo _ _ _ (by omega))) (by rw [← hres, c1]; cases hb9 : (lowF n9 S i j S false μ).1 with
      | true => exact (strF_t (by omega) hb9).symm
      | false => exact (strF_f (by omega) hb9).symm) _ _ ls hE (lv_sub hl [2, 3, 4, 1, 0] rfl)
set_option maxHeartbeats 4000000 in
set_option maxRecDepth 100000 in
theorem lp_T_fs1 {p : Program} {l : Launch} {e : Env} {s : State} {m : MethodId} {below : List Frame} {meth : Method} {c : Code} {D : va_G} {cs : Nat → ClassId} {ad : Nat → Nat} {A : Nat → Prop} {σ : Mem} {P S n9 i j : Nat} (C : bC p s m ([.ref (ad 4), .int (nI i), .int (nI j)] : List Value).toArray meth c bT_fillStretch 5 "EarleyChart$StepTable" none) (hk : wk D cs s) (hA : ∀ q : Nat, s.heap.size ≤ q → A q) (ht : tS σ P S n9) (hi : i ≤ j) (hj : j < 9)   :
    ∀ (n : Nat) (v : Nat), (6 - v) < n → (v ≤ 6) → ∀ (H : Heap) (locs : List Loc) (ls : Array Slot), wS (wE D cs ad) A s.heap (initC (i * 9 + j) σ v) H locs → lv_has ls 5 [(0, .ref (ad 4)), (1, .int (nI i)), (2, .int (nI j)), (3, .int (nI v))] → W p l e (rmF 5 124) s m ([.ref (ad 4), .int (nI i), .int (nI j)] : List Value).toArray below meth c H locs 0 0 (wQv (wE D cs ad) A (fun τ => τ = fstr n9 S i j σ) s below ([.ref (ad 4), .int (nI i), .int (nI j)] : List Value).toArray) (F0 m 2 ls []) := by
  obtain ⟨hx, hb, hml, hown, hts, hr, hlocks⟩ := id C
  have hg := ht.1
  have hn9 := ht.2.1
  have hln := ht.2.2
  have hP8 := hg.1
  have hS24 := hg.2.1
  intro n
  induction n with
  | zero => intro v h; exact absurd h (Nat.not_lt_zero _)
  | succ n ih =>
    intro v hn hv H locs ls hE hl
    refine lv_iload_n hx hb dT_fillStretch_2 rfl (lv_at hl 3 rfl) ?_
    refine lv_bipush (v := nI 6) hx hb dT_fillStretch_3 (by decide) ?_
    refine lv_icmp_ge (tgt := 27) hx hb dT_fillStretch_5 (by decide) (fun c1 => ?_) (fun c1 => ?_)
    · have c1 : 6 ≤ v := (nI_leI (by omega) (by omega)).mp c1
      refine lv_iconst (v := nI 1) hx hb dT_fillStretch_27 (by decide) ?_
      refine lv_istore_n (lv' := [(3, .int (nI 1)), (0, .ref (ad 4)), (1, .int (nI i)), (2, .int (nI j))]) hx hb dT_fillStretch_28 rfl hl (by decide) rfl (fun ls hl => ?_)
      refine lv_iconst (v := nI 0) hx hb dT_fillStretch_29 (by decide) ?_
      refine lv_istore (lv' := [(4, .int (nI 0)), (3, .int (nI 1)), (0, .ref (ad 4)), (1, .int (nI i)), (2, .int (nI j))]) hx hb dT_fillStretch_30 hl (by decide) rfl (fun ls hl => ?_)
      have ev2 : (nI 1 : Int32) = zb true := by rfl
      rw [ev2] at hl
      exact lp_T_fs2 C hk hA ht hi hj _ 0 true (initC (i * 9 + j) σ v) (Nat.lt_succ_self _) (by decide) (tS_of ht (fun q hq => initC_lo _ (by omega))) (by rw [show v = 6 by omega]; rfl) _ _ ls hE (lv_sub hl [2, 3, 4, 1, 0] rfl)
    · have c1 : ¬ (6 ≤ v) := fun h => c1 ((nI_leI (by omega) (by omega)).mpr h)
      refine lv_aload_n hx hb dT_fillStretch_8 rfl (lv_at hl 0 rfl) ?_
      refine w_get C hk hE (K := R_T) (T := F_T) (N := 4) (ci := 3) in_T 4 (Nat.le_of_ble_eq_true rfl) rfl rfl 2 (by decide) tw_88 rfl rfl dT_fillStretch_9 ?_
      refine lv_iload_n hx hb dT_fillStretch_12 rfl (lv_at hl 3 rfl) ?_
      refine w_aald C hk hE 13 (Nat.le_of_ble_eq_true rfl) (n := 6) (b := ad (v + 28)) rfl (by omega) (by decide) rfl dT_fillStretch_13 ?_
      refine lv_iload_n hx hb dT_fillStretch_14 rfl (lv_at hl 1 rfl) ?_
      refine lv_iload_n hx hb dT_fillStretch_15 rfl (lv_at hl 2 rfl) ?_
      refine w_ci hE hA (w_runS C hk hE hl.1 (As := [.int (nI i), .int (nI j)]) (rest := [.ref (ad (v + 28))]) (c_T_stretch l D cs ad (initC (i * 9 + j) σ v) i j _) tw_209 tw_210 tw_4 tw_211 (n := 2) (by decide +kernel) rfl rfl (Nat.le_of_ble_eq_true rfl) dT_fillStretch_16 ⟨Nat.le_of_ble_eq_true rfl, Nat.le_of_ble_eq_true rfl⟩ ⟨Nat.zero_le _, Nat.zero_le _⟩) (fun r3 τ4 H locs hp hE _ _ => ?_)
      refine w_top hp.1 ?_
      have hE := wS_eq hp.2 hE
      refine lv_iconst (v := (-1)) hx hb dT_fillStretch_19 (by decide) ?_
      refine w_iast C hk hE (v + 28) (by show _ < 58; omega) (n := 81) (fun _ => cE_v (ad := ad) (k := v)) (by omega) (by first | decide | omega) dT_fillStretch_20 (fun H locs hE => ?_)
      refine lv_iinc (v := nI (v + 1)) (lv' := [(3, .int (nI (v + 1))), (0, .ref (ad 4)), (1, .int (nI i)), (2, .int (nI j))]) hx hb dT_fillStretch_21 hl (k := 3) rfl (by exact nI_1 _) (by decide) rfl (fun ls hl => ?_)
      refine lv_goto (tgt := 2) hx hb dT_fillStretch_24 (by decide) ?_
      exact ih (v + 1) (by omega) (by omega) _ _ ls (wS_eq (show mset (initC (i * 9 + j) σ v) (v + 28) (i * 9 + j) (-1) = initC (i * 9 + j) σ (v + 1) by rfl) hE) (lv_sub hl [1, 2, 3, 0] rfl)
set_option maxHeartbeats 4000000 in
set_option maxRecDepth 100000 in
theorem c_T_fillStretch (l : Launch) (D : va_G) (cs : Nat → ClassId) (ad : Nat → Nat) (σ : Mem) (P S n9 i j : Nat) (ht : tS σ P S n9) (hi : i ≤ j) (hj : j < 9) : MetV l (wE D cs ad) cs yT_fillStretch bT_fillStretch 5 5 124 [.ref (ad 4), .int (nI i), .int (nI j)] σ (fun τ => τ = fstr n9 S i j σ) := by
  refine MetV.start (by decide) (Nat.le_of_ble_eq_true rfl) ?_
  intro p e s m below meth c A ls C hk hA hE hl
  obtain ⟨hx, hb, hml, hown, hts, hr, hlocks⟩ := id C
  have hl : lv_has ls 5 [(0, .ref (ad 4)), (1, .int (nI i)), (2, .int (nI j))] := hl
  have hg := ht.1
  have hn9 := ht.2.1
  have hln := ht.2.2
  have hP8 := hg.1
  have hS24 := hg.2.1
  refine lv_iconst (v := nI 0) hx hb dT_fillStretch_0 (by decide) ?_
  refine lv_istore_n (lv' := [(3, .int (nI 0)), (0, .ref (ad 4)), (1, .int (nI i)), (2, .int (nI j))]) hx hb dT_fillStretch_1 rfl hl (by decide) rfl (fun ls hl => ?_)
  exact lp_T_fs1 C hk hA ht hi hj _ 0 (Nat.lt_succ_self _) (by decide) _ _ ls (wS_eq (show σ = initC (i * 9 + j) σ 0 by rfl) hE) (lv_sub hl [1, 2, 3, 0] rfl)
set_option maxHeartbeats 4000000 in
set_option maxRecDepth 100000 in
theorem lp_T_fillUpTo {p : Program} {l : Launch} {e : Env} {s : State} {m : MethodId} {below : List Frame} {meth : Method} {c : Code} {D : va_G} {cs : Nat → ClassId} {ad : Nat → Nat} {A : Nat → Prop} {σ : Mem} {P S n9 j : Nat} (C : bC p s m ([.ref (ad 4), .int (nI j)] : List Value).toArray meth c bT_fillUpTo 3 "EarleyChart$StepTable" none) (hk : wk D cs s) (hA : ∀ q : Nat, s.heap.size ≤ q → A q) (ht : tS σ P S n9) (hj : j < 9)   :
    ∀ (n : Nat) (t : Nat) (μ : Mem), t < n → (t ≤ j + 1) → (tS μ P S n9) → (upF n9 S j t μ = upF n9 S j (j + 1) σ) → ∀ (H : Heap) (locs : List Loc) (ls : Array Slot), wS (wE D cs ad) A s.heap μ H locs → lv_has ls 3 [(0, .ref (ad 4)), (1, .int (nI j)), (2, .int (dn t))] → W p l e (rmF 6 148) s m ([.ref (ad 4), .int (nI j)] : List Value).toArray below meth c H locs 0 0 (wQv (wE D cs ad) A (fun τ => τ = upF n9 S j (j + 1) σ) s below ([.ref (ad 4), .int (nI j)] : List Value).toArray) (F0 m 2 ls []) := by
  obtain ⟨hx, hb, hml, hown, hts, hr, hlocks⟩ := id C
  have hg := ht.1
  have hn9 := ht.2.1
  have hln := ht.2.2
  have hP8 := hg.1
  have hS24 := hg.2.1
  intro n
  induction n with
  | zero => intro t μ h; exact absurd h (Nat.not_lt_zero _)
  | succ n ih =>
    intro t μ hn hi9 htμ hres H locs ls hE hl
    refine lv_iload_n hx hb dT_fillUpTo_2 rfl (lv_at hl 2 rfl) ?_
    refine lv_if_lt (tgt := 18) hx hb dT_fillUpTo_3 (by decide) (fun c1 => ?_) (fun c1 => ?_)
    · have ht0 := dn_lt (by omega) c1
      exact w_retv C hE (by rw [← hres, ht0]; rfl) dT_fillUpTo_18
    · obtain ⟨u, rfl⟩ := dn_ge c1
      have hl : lv_has ls 3 [(0, .ref (ad 4)), (1, .int (nI j)), (2, .int (nI u))] := hl
      refine lv_aload_n hx hb dT_fillUpTo_6 rfl (lv_at hl 0 rfl) ?_
      refine lv_iload_n hx hb dT_fillUpTo_7 rfl (lv_at hl 2 rfl) ?_
      refine lv_iload_n hx hb dT_fillUpTo_8 rfl (lv_at hl 1 rfl) ?_
      refine w_cv hE hA (w_runV C hk hE hl.1 (As := [.int (nI u), .int (nI j)]) (rest := []) (q := 4) (c_T_fillStretch l D cs ad μ P S n9 u j htμ (by omega) hj _) (Nat.le_of_ble_eq_true rfl) (ci := 3) (N := 4) (T := F_T) rfl rfl tw_457 tw_206 tw_207 tw_4 tw_208 (n := 2) (by decide +kernel) rfl rfl (Nat.le_of_ble_eq_true rfl) dT_fillUpTo_9 ⟨Nat.le_of_ble_eq_true rfl, Nat.le_of_ble_eq_true rfl⟩ ⟨Nat.zero_le _, Nat.zero_le _⟩) (fun τ3 H locs hp hE _ _ => ?_)
      have hE := wS_eq hp hE
      refine lv_iinc (v := (nI u) + -1) (lv' := [(2, .int ((nI u) + -1)), (0, .ref (ad 4)), (1, .int (nI j))]) hx hb dT_fillUpTo_12 hl (k := 2) rfl (rfl) (by decide) rfl (fun ls hl => ?_)
      refine lv_goto (tgt := 2) hx hb dT_fillUpTo_15 (by decide) ?_
      have ev4 : ((nI u) + -1 : Int32) = dn u := by exact dn_pred _
      rw [ev4] at hl
      exact ih u (fstr n9 S u j μ) (by omega) (by omega) (tS_of htμ (fun q hq => fstr_lo (by omega))) (by rw [← hres, upF]) _ _ ls hE (lv_sub hl [1, 2, 0] rfl)
set_option maxHeartbeats 4000000 in
set_option maxRecDepth 100000 in
theorem c_T_fillUpTo (l : Launch) (D : va_G) (cs : Nat → ClassId) (ad : Nat → Nat) (σ : Mem) (P S n9 j : Nat) (ht : tS σ P S n9) (hj : j < 9) : MetV l (wE D cs ad) cs yT_fillUpTo bT_fillUpTo 3 6 148 [.ref (ad 4), .int (nI j)] σ (fun τ => τ = upF n9 S j (j + 1) σ) := by
  refine MetV.start (by decide) (Nat.le_of_ble_eq_true rfl) ?_
  intro p e s m below meth c A ls C hk hA hE hl
  obtain ⟨hx, hb, hml, hown, hts, hr, hlocks⟩ := id C
  have hl : lv_has ls 3 [(0, .ref (ad 4)), (1, .int (nI j))] := hl
  have hg := ht.1
  have hn9 := ht.2.1
  have hln := ht.2.2
  have hP8 := hg.1
  have hS24 := hg.2.1
  refine lv_iload_n hx hb dT_fillUpTo_0 rfl (lv_at hl 1 rfl) ?_
  refine lv_istore_n (lv' := [(2, .int (nI j)), (0, .ref (ad 4)), (1, .int (nI j))]) hx hb dT_fillUpTo_1 rfl hl (by decide) rfl (fun ls hl => ?_)
  have ev1 : (nI j : Int32) = dn (j + 1) := by rfl
  rw [ev1] at hl
  exact lp_T_fillUpTo C hk hA ht hj _ (j + 1) σ (Nat.lt_succ_self _) (Nat.le_refl _) (ht) (rfl) _ _ ls hE (lv_sub hl [1, 2, 0] rfl)
