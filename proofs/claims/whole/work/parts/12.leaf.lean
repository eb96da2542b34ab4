set_option maxHeartbeats 4000000 in
set_option maxRecDepth 100000 in
theorem c_G_start (l : Launch) (D : va_G) (cs : Nat → ClassId) (ad : Nat → Nat) (σ : Mem)  : MetI l (wE D cs ad) cs yG_start bG_start 1 (some .int) 0 0 [.ref (ad 1)] σ (fun r τ => r = σ 6 0 ∧ τ = σ) := by
  refine MetI.start (by decide) (Nat.le_of_ble_eq_true rfl) ?_
  intro p e s m below meth c A ls C hk hA hE hl
  obtain ⟨hx, hb, hml, hown, hts, hr, hlocks⟩ := id C
  have hl : lv_has ls 1 [(0, .ref (ad 1))] := hl
  refine lv_aload_n hx hb dG_start_0 rfl (lv_at hl 0 rfl) ?_
  refine w_get C hk hE (K := R_G) (T := F_G) (N := 6) (ci := 0) in_G 1 (Nat.le_of_ble_eq_true rfl) rfl rfl 0 (by decide) tw_31 rfl rfl dG_start_1 ?_
  refine lv_iconst (v := nI 0) hx hb dG_start_4 (by decide) ?_
  refine w_iald C hk hE 6 (by exact Nat.le_of_ble_eq_true rfl) (n := 8) rfl (by omega) (by first | decide | omega) dG_start_5 ?_
  exact w_reti C hE (⟨rfl, rfl⟩) dG_start_6
set_option maxHeartbeats 4000000 in
set_option maxRecDepth 100000 in
theorem c_G_leftSideAt (l : Launch) (D : va_G) (cs : Nat → ClassId) (ad : Nat → Nat) (σ : Mem) (t p9 : Nat) (ht : t < 24) (hp : σ 9 t = nI p9) (hp8 : p9 < 8) : MetI l (wE D cs ad) cs yG_leftSideAt bG_leftSideAt 2 (some .int) 0 0 [.ref (ad 1), .int (nI t)] σ (fun r τ => r = σ 6 p9 ∧ τ = σ) := by
  refine MetI.start (by decide) (Nat.le_of_ble_eq_true rfl) ?_
  intro p e s m below meth c A ls C hk hA hE hl
  obtain ⟨hx, hb, hml, hown, hts, hr, hlocks⟩ := id C
  have hl : lv_has ls 2 [(0, .ref (ad 1)), (1, .int (nI t))] := hl
  refine lv_aload_n hx hb dG_leftSideAt_0 rfl (lv_at hl 0 rfl) ?_
  refine w_get C hk hE (K := R_G) (T := F_G) (N := 6) (ci := 0) in_G 1 (Nat.le_of_ble_eq_true rfl) rfl rfl 0 (by decide) tw_31 rfl rfl dG_leftSideAt_1 ?_
  refine lv_aload_n hx hb dG_leftSideAt_4 rfl (lv_at hl 0 rfl) ?_
  refine w_get C hk hE (K := R_G) (T := F_G) (N := 6) (ci := 0) in_G 1 (Nat.le_of_ble_eq_true rfl) rfl rfl 3 (by decide) tw_41 rfl rfl dG_leftSideAt_5 ?_
  refine lv_iload_n hx hb dG_leftSideAt_8 rfl (lv_at hl 1 rfl) ?_
  refine w_iald C hk hE 9 (by exact Nat.le_of_ble_eq_true rfl) (n := 24) rfl (by omega) (by first | decide | omega) dG_leftSideAt_9 ?_
  refine w_top (y := nI p9) (hp) ?_
  refine w_iald C hk hE 6 (by exact Nat.le_of_ble_eq_true rfl) (n := 8) rfl (by omega) (by first | decide | omega) dG_leftSideAt_10 ?_
  exact w_reti C hE (⟨rfl, rfl⟩) dG_leftSideAt_11
set_option maxHeartbeats 4000000 in
set_option maxRecDepth 100000 in
theorem c_G_dotAt (l : Launch) (D : va_G) (cs : Nat → ClassId) (ad : Nat → Nat) (σ : Mem) (t p9 f9 : Nat) (ht : t < 24) (hp : σ 9 t = nI p9) (hp8 : p9 < 8) (hf : σ 7 p9 = nI f9) (hle : f9 ≤ t) : MetI l (wE D cs ad) cs yG_dotAt bG_dotAt 2 (some .int) 0 0 [.ref (ad 1), .int (nI t)] σ (fun r τ => r = nI (t - f9) ∧ τ = σ) := by
  refine MetI.start (by decide) (Nat.le_of_ble_eq_true rfl) ?_
  intro p e s m below meth c A ls C hk hA hE hl
  obtain ⟨hx, hb, hml, hown, hts, hr, hlocks⟩ := id C
  have hl : lv_has ls 2 [(0, .ref (ad 1)), (1, .int (nI t))] := hl
  refine lv_iload_n hx hb dG_dotAt_0 rfl (lv_at hl 1 rfl) ?_
  refine lv_aload_n hx hb dG_dotAt_1 rfl (lv_at hl 0 rfl) ?_
  refine w_get C hk hE (K := R_G) (T := F_G) (N := 6) (ci := 0) in_G 1 (Nat.le_of_ble_eq_true rfl) rfl rfl 1 (by decide) tw_34 rfl rfl dG_dotAt_2 ?_
  refine lv_aload_n hx hb dG_dotAt_5 rfl (lv_at hl 0 rfl) ?_
  refine w_get C hk hE (K := R_G) (T := F_G) (N := 6) (ci := 0) in_G 1 (Nat.le_of_ble_eq_true rfl) rfl rfl 3 (by decide) tw_41 rfl rfl dG_dotAt_6 ?_
  refine lv_iload_n hx hb dG_dotAt_9 rfl (lv_at hl 1 rfl) ?_
  refine w_iald C hk hE 9 (by exact Nat.le_of_ble_eq_true rfl) (n := 24) rfl (by omega) (by first | decide | omega) dG_dotAt_10 ?_
  refine w_top (y := nI p9) (hp) ?_
  refine w_iald C hk hE 7 (by exact Nat.le_of_ble_eq_true rfl) (n := 8) rfl (by omega) (by first | decide | omega) dG_dotAt_11 ?_
  refine w_top (y := nI f9) (hf) ?_
  refine lv_isub hx hb dG_dotAt_12 ?_
  refine w_top (y := nI (t - f9)) (w_sub (by omega) (by omega)) ?_
  exact w_reti C hE (⟨rfl, rfl⟩) dG_dotAt_13
set_option maxHeartbeats 4000000 in
set_option maxRecDepth 100000 in
theorem c_T_stretch (l : Launch) (D : va_G) (cs : Nat → ClassId) (ad : Nat → Nat) (σ : Mem) (i j : Nat)  : MetI l (wE D cs ad) cs yT_stretch bT_stretch 2 (some .int) 0 0 [.int (nI i), .int (nI j)] σ (fun r τ => r = nI (i * 9 + j) ∧ τ = σ) := by
  refine MetI.start (by decide) (Nat.le_of_ble_eq_true rfl) ?_
  intro p e s m below meth c A ls C hk hA hE hl
  obtain ⟨hx, hb, hml, hown, hts, hr, hlocks⟩ := id C
  have hl : lv_has ls 2 [(0, .int (nI i)), (1, .int (nI j))] := hl
  refine lv_iload_n hx hb dT_stretch_0 rfl (lv_at hl 0 rfl) ?_
  refine lv_bipush (v := nI 9) hx hb dT_stretch_1 (by decide) ?_
  refine lv_imul hx hb dT_stretch_3 ?_
  refine w_top (y := nI (i * 9)) (by exact pk_mul _ _) ?_
  refine lv_iload_n hx hb dT_stretch_4 rfl (lv_at hl 1 rfl) ?_
  refine lv_iadd hx hb dT_stretch_5 ?_
  refine w_top (y := nI ((i * 9) + j)) (by first | exact nI_add _ _ | simp only [nI_add, Nat.add_assoc, Nat.add_zero, Nat.zero_add]) ?_
  exact w_reti C hE (⟨rfl, rfl⟩) dT_stretch_6
set_option maxHeartbeats 4000000 in
set_option maxRecDepth 100000 in
theorem c_E_isVariable (l : Launch) (D : va_G) (cs : Nat → ClassId) (ad : Nat → Nat) (σ : Mem) (x : Int32)  : MetI l (wE D cs ad) cs yE_isVariable bE_isVariable 1 (some .boolean) 0 0 [.int x] σ (fun r τ => r = zb (isV x) ∧ τ = σ) := by
  refine MetI.start (by decide) (Nat.le_of_ble_eq_true rfl) ?_
  intro p e s m below meth c A ls C hk hA hE hl
  obtain ⟨hx, hb, hml, hown, hts, hr, hlocks⟩ := id C
  have hl : lv_has ls 1 [(0, .int x)] := hl
  refine lv_iload_n hx hb dE_isVariable_0 rfl (lv_at hl 0 rfl) ?_
  refine lv_if_lt (tgt := 14) hx hb dE_isVariable_1 (by decide) (fun c1 => ?_) (fun c1 => ?_)
  · refine lv_iconst (v := nI 0) hx hb dE_isVariable_14 (by decide) ?_
    exact w_retz C hE (Or.inl rfl) (⟨by simp [zb, isV, *], rfl⟩) dE_isVariable_15
  · refine lv_iload_n hx hb dE_isVariable_4 rfl (lv_at hl 0 rfl) ?_
    refine lv_bipush (v := nI 6) hx hb dE_isVariable_5 (by decide) ?_
    refine lv_icmp_ge (tgt := 14) hx hb dE_isVariable_7 (by decide) (fun c2 => ?_) (fun c2 => ?_)
    · refine lv_iconst (v := nI 0) hx hb dE_isVariable_14 (by decide) ?_
      exact w_retz C hE (Or.inl rfl) (⟨by simp [zb, isV, *], rfl⟩) dE_isVariable_15
    · refine lv_iconst (v := nI 1) hx hb dE_isVariable_10 (by decide) ?_
      refine lv_goto (tgt := 15) hx hb dE_isVariable_11 (by decide) ?_
      exact w_retz C hE (Or.inr rfl) (⟨by simp [zb, isV, *], rfl⟩) dE_isVariable_15
set_option maxHeartbeats 4000000 in
set_option maxRecDepth 100000 in
theorem c_T_isFewer (l : Launch) (D : va_G) (cs : Nat → ClassId) (ad : Nat → Nat) (σ : Mem) (x k : Int32)  : MetI l (wE D cs ad) cs yT_isFewer bT_isFewer 2 (some .boolean) 0 0 [.int x, .int k] σ (fun r τ => r = zb (decide (k = -1) || decide (x < k)) ∧ τ = σ) := by
  refine MetI.start (by decide) (Nat.le_of_ble_eq_true rfl) ?_
  intro p e s m below meth c A ls C hk hA hE hl
  obtain ⟨hx, hb, hml, hown, hts, hr, hlocks⟩ := id C
  have hl : lv_has ls 2 [(0, .int x), (1, .int k)] := hl
  refine lv_iload_n hx hb dT_isFewer_0 rfl (lv_at hl 1 rfl) ?_
  refine lv_iconst (v := (-1)) hx hb dT_isFewer_1 (by decide) ?_
  refine lv_icmp_eq (tgt := 10) hx hb dT_isFewer_2 (by decide) (fun c1 => ?_) (fun c1 => ?_)
  · refine lv_iconst (v := nI 1) hx hb dT_isFewer_10 (by decide) ?_
    refine lv_goto (tgt := 15) hx hb dT_isFewer_11 (by decide) ?_
    exact w_retz C hE (Or.inr rfl) (⟨by first | (simp [zb, *]; done) | (simp [zb, Int32.not_lt.mpr c2, c1]; done) | (simp [zb, Int32.not_le.mp c2, c1]; done), rfl⟩) dT_isFewer_15
  · refine lv_iload_n hx hb dT_isFewer_5 rfl (lv_at hl 0 rfl) ?_
    refine lv_iload_n hx hb dT_isFewer_6 rfl (lv_at hl 1 rfl) ?_
    refine lv_icmp_ge (tgt := 14) hx hb dT_isFewer_7 (by decide) (fun c2 => ?_) (fun c2 => ?_)
    · refine lv_iconst (v := nI 0) hx hb dT_isFewer_14 (by decide) ?_
      exact w_retz C hE (Or.inl rfl) (⟨by first | (simp [zb, *]; done) | (simp [zb, Int32.not_lt.mpr c2, c1]; done) | (simp [zb, Int32.not_le.mp c2, c1]; done), rfl⟩) dT_isFewer_15
    · refine lv_iconst (v := nI 1) hx hb dT_isFewer_10 (by decide) ?_
      refine lv_goto (tgt := 15) hx hb dT_isFewer_11 (by decide) ?_
      exact w_retz C hE (Or.inr rfl) (⟨by first | (simp [zb, *]; done) | (simp [zb, Int32.not_lt.mpr c2, c1]; done) | (simp [zb, Int32.not_le.mp c2, c1]; done), rfl⟩) dT_isFewer_15
set_option maxHeartbeats 4000000 in
set_option maxRecDepth 100000 in
theorem c_I_isJust (l : Launch) (D : va_G) (cs : Nat → ClassId) (ad : Nat → Nat) (σ : Mem) (x : Int32) (i j n9 : Nat) (hi : i < 2 ^ 30) (hj : j < 2 ^ 30) (hn9 : n9 ≤ 8) (hln : σ 2 1 = nI n9) : MetI l (wE D cs ad) cs yI_isJust bI_isJust 4 (some .boolean) 0 0 [.ref (ad 2), .int x, .int (nI i), .int (nI j)] σ (fun r τ => r = zb (decide (j = i + 1) && (decide (i < n9) && decide (σ 10 i = x))) ∧ τ = σ) := by
  refine MetI.start (by decide) (Nat.le_of_ble_eq_true rfl) ?_
  intro p e s m below meth c A ls C hk hA hE hl
  obtain ⟨hx, hb, hml, hown, hts, hr, hlocks⟩ := id C
  have hl : lv_has ls 4 [(0, .ref (ad 2)), (1, .int x), (2, .int (nI i)), (3, .int (nI j))] := hl
  refine lv_iload_n hx hb dI_isJust_0 rfl (lv_at hl 3 rfl) ?_
  refine lv_iload_n hx hb dI_isJust_1 rfl (lv_at hl 2 rfl) ?_
  refine lv_iconst (v := nI 1) hx hb dI_isJust_2 (by decide) ?_
  refine lv_iadd hx hb dI_isJust_3 ?_
  refine w_top (y := nI (i + 1)) (by first | exact nI_add _ _ | simp only [nI_add, Nat.add_assoc, Nat.add_zero, Nat.zero_add]) ?_
  refine lv_icmp_ne (tgt := 33) hx hb dI_isJust_4 (by decide) (fun c1 => ?_) (fun c1 => ?_)
  · have c1 : ¬ (j = (i + 1)) := fun h => c1 ((nI_eq (by omega) (by omega)).mpr h)
    refine lv_iconst (v := nI 0) hx hb dI_isJust_33 (by decide) ?_
    exact w_retz C hE (Or.inl rfl) (⟨by first | (simp [zb, *]; done) | (simp [zb, *] <;> omega), rfl⟩) dI_isJust_34
  · have c1 : j = (i + 1) := (nI_eq (by omega) (by omega)).mp c1
    refine lv_iload_n hx hb dI_isJust_7 rfl (lv_at hl 2 rfl) ?_
    refine lv_if_lt (tgt := 33) hx hb dI_isJust_8 (by decide) (fun c2 => ?_) (fun c2 => ?_)
    · have c2 := w_lt0 (by omega) c2
      exact c2.elim
    · have c2 := w_nlt0 (by omega) c2
      refine lv_iload_n hx hb dI_isJust_11 rfl (lv_at hl 2 rfl) ?_
      refine lv_aload_n hx hb dI_isJust_12 rfl (lv_at hl 0 rfl) ?_
      refine w_get C hk hE (K := R_I) (T := F_I) (N := 2) (ci := 1) in_I 2 (Nat.le_of_ble_eq_true rfl) rfl rfl 1 (by decide) tw_71 rfl rfl dI_isJust_13 ?_
      refine w_top (y := nI n9) (hln) ?_
      refine lv_icmp_ge (tgt := 33) hx hb dI_isJust_16 (by decide) (fun c3 => ?_) (fun c3 => ?_)
      · have c3 : n9 ≤ i := (nI_leI (by omega) (by omega)).mp c3
        refine lv_iconst (v := nI 0) hx hb dI_isJust_33 (by decide) ?_
        exact w_retz C hE (Or.inl rfl) (⟨by first | (simp [zb, *]; done) | (simp [zb, *] <;> omega), rfl⟩) dI_isJust_34
      · have c3 : ¬ (n9 ≤ i) := fun h => c3 ((nI_leI (by omega) (by omega)).mpr h)
        refine lv_aload_n hx hb dI_isJust_19 rfl (lv_at hl 0 rfl) ?_
        refine w_get C hk hE (K := R_I) (T := F_I) (N := 2) (ci := 1) in_I 2 (Nat.le_of_ble_eq_true rfl) rfl rfl 0 (by decide) tw_70 rfl rfl dI_isJust_20 ?_
        refine lv_iload_n hx hb dI_isJust_23 rfl (lv_at hl 2 rfl) ?_
        refine w_iald C hk hE 10 (by exact Nat.le_of_ble_eq_true rfl) (n := 8) rfl (by omega) (by first | decide | omega) dI_isJust_24 ?_
        refine lv_iload_n hx hb dI_isJust_25 rfl (lv_at hl 1 rfl) ?_
        refine lv_icmp_ne (tgt := 33) hx hb dI_isJust_26 (by decide) (fun c4 => ?_) (fun c4 => ?_)
        · refine lv_iconst (v := nI 0) hx hb dI_isJust_33 (by decide) ?_
          exact w_retz C hE (Or.inl rfl) (⟨by first | (simp [zb, *]; done) | (simp [zb, *] <;> omega), rfl⟩) dI_isJust_34
        · refine lv_iconst (v := nI 1) hx hb dI_isJust_29 (by decide) ?_
          refine lv_goto (tgt := 34) hx hb dI_isJust_30 (by decide) ?_
          exact w_retz C hE (Or.inr rfl) (⟨by first | (simp [zb, *]; done) | (simp [zb, *] <;> omega), rfl⟩) dI_isJust_34
set_option maxHeartbeats 4000000 in
set_option maxRecDepth 100000 in
theorem c_J_bitCount (l : Launch) (D : va_G) (cs : Nat → ClassId) (ad : Nat → Nat) (σ : Mem) (x : Int32)  : MetI l (wE D cs ad) cs yJ_bitCount bJ_bitCount 1 (some .int) 0 0 [.int x] σ (fun r τ => r = popc x ∧ τ = σ) := by
  refine MetI.start (by decide) (Nat.le_of_ble_eq_true rfl) ?_
  intro p e s m below meth c A ls C hk hA hE hl
  obtain ⟨hx, hb, hml, hown, hts, hr, hlocks⟩ := id C
  have hl : lv_has ls 1 [(0, .int x)] := hl
  refine lv_iload_n hx hb dJ_bitCount_0 rfl (lv_at hl 0 rfl) ?_
  refine lv_iload_n hx hb dJ_bitCount_1 rfl (lv_at hl 0 rfl) ?_
  refine lv_iconst (v := nI 1) hx hb dJ_bitCount_2 (by decide) ?_
  refine lv_iushr hx hb dJ_bitCount_3 rfl ?_
  refine lv_ldcw (v := 1431655765) hx hb hown (hts _ tw_183) dJ_bitCount_4 ?_
  refine lv_iand hx hb dJ_bitCount_7 ?_
  refine lv_isub hx hb dJ_bitCount_8 ?_
  refine lv_topi (fun x1 e1 => ?_)
  refine lv_istore_n (lv' := [(0, .int x1)]) hx hb dJ_bitCount_9 rfl hl (by decide) rfl (fun ls hl => ?_)
  refine lv_iload_n hx hb dJ_bitCount_10 rfl (lv_at hl 0 rfl) ?_
  refine lv_ldcw (v := 858993459) hx hb hown (hts _ tw_184) dJ_bitCount_11 ?_
  refine lv_iand hx hb dJ_bitCount_14 ?_
  refine lv_iload_n hx hb dJ_bitCount_15 rfl (lv_at hl 0 rfl) ?_
  refine lv_iconst (v := nI 2) hx hb dJ_bitCount_16 (by decide) ?_
  refine lv_iushr hx hb dJ_bitCount_17 rfl ?_
  refine lv_ldcw (v := 858993459) hx hb hown (hts _ tw_184) dJ_bitCount_18 ?_
  refine lv_iand hx hb dJ_bitCount_21 ?_
  refine lv_iadd hx hb dJ_bitCount_22 ?_
  refine lv_topi (fun x2 e2 => ?_)
  refine lv_istore_n (lv' := [(0, .int x2)]) hx hb dJ_bitCount_23 rfl hl (by decide) rfl (fun ls hl => ?_)
  refine lv_iload_n hx hb dJ_bitCount_24 rfl (lv_at hl 0 rfl) ?_
  refine lv_iload_n hx hb dJ_bitCount_25 rfl (lv_at hl 0 rfl) ?_
  refine lv_iconst (v := nI 4) hx hb dJ_bitCount_26 (by decide) ?_
  refine lv_iushr hx hb dJ_bitCount_27 rfl ?_
  refine lv_iadd hx hb dJ_bitCount_28 ?_
  refine lv_ldcw (v := 252645135) hx hb hown (hts _ tw_185) dJ_bitCount_29 ?_
  refine lv_iand hx hb dJ_bitCount_32 ?_
  refine lv_topi (fun x3 e3 => ?_)
  refine lv_istore_n (lv' := [(0, .int x3)]) hx hb dJ_bitCount_33 rfl hl (by decide) rfl (fun ls hl => ?_)
  refine lv_iload_n hx hb dJ_bitCount_34 rfl (lv_at hl 0 rfl) ?_
  refine lv_iload_n hx hb dJ_bitCount_35 rfl (lv_at hl 0 rfl) ?_
  refine lv_bipush (v := nI 8) hx hb dJ_bitCount_36 (by decide) ?_
  refine lv_iushr hx hb dJ_bitCount_38 rfl ?_
  refine lv_iadd hx hb dJ_bitCount_39 ?_
  refine lv_topi (fun x4 e4 => ?_)
  refine lv_istore_n (lv' := [(0, .int x4)]) hx hb dJ_bitCount_40 rfl hl (by decide) rfl (fun ls hl => ?_)
  refine lv_iload_n hx hb dJ_bitCount_41 rfl (lv_at hl 0 rfl) ?_
  refine lv_iload_n hx hb dJ_bitCount_42 rfl (lv_at hl 0 rfl) ?_
  refine lv_bipush (v := nI 16) hx hb dJ_bitCount_43 (by decide) ?_
  refine lv_iushr hx hb dJ_bitCount_45 rfl ?_
  refine lv_iadd hx hb dJ_bitCount_46 ?_
  refine lv_topi (fun x5 e5 => ?_)
  refine lv_istore_n (lv' := [(0, .int x5)]) hx hb dJ_bitCount_47 rfl hl (by decide) rfl (fun ls hl => ?_)
  refine lv_iload_n hx hb dJ_bitCount_48 rfl (lv_at hl 0 rfl) ?_
  refine lv_bipush (v := nI 63) hx hb dJ_bitCount_49 (by decide) ?_
  refine lv_iand hx hb dJ_bitCount_51 ?_
  exact w_reti C hE (⟨by rw [e5, e4, e3, e2, e1]; rfl, rfl⟩) dJ_bitCount_52
