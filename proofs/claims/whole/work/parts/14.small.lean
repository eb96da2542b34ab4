set_option maxHeartbeats 4000000 in
set_option maxRecDepth 100000 in
theorem c_G_openSlot (l : Launch) (D : va_G) (cs : Nat → ClassId) (ad : Nat → Nat) (σ : Mem) (P S : Nat) (h14 : σ 1 4 = nI P) (h15 : σ 1 5 = nI S) (hP : 1 ≤ P ∧ P ≤ 8) (hS : S < 24) : MetV l (wE D cs ad) cs yG_openSlot bG_openSlot 1 0 0 [.ref (ad 1)] σ (fun τ => τ = mset (mset (mset σ 8 S (-1)) 9 S (nI (P - 1))) 1 5 (nI (S + 1))) := by
  refine MetV.start (by decide) (Nat.le_of_ble_eq_true rfl) ?_
  intro p e s m below meth c A ls C hk hA hE hl
  obtain ⟨hx, hb, hml, hown, hts, hr, hlocks⟩ := id C
  have hl : lv_has ls 1 [(0, .ref (ad 1))] := hl
  refine lv_aload_n hx hb dG_openSlot_0 rfl (lv_at hl 0 rfl) ?_
  refine w_get C hk hE (K := R_G) (T := F_G) (N := 6) (ci := 0) in_G 1 (Nat.le_of_ble_eq_true rfl) rfl rfl 5 (by decide) tw_47 rfl rfl dG_openSlot_1 ?_
  refine w_top (y := nI S) (h15) ?_
  refine lv_bipush (v := nI 24) hx hb dG_openSlot_4 (by decide) ?_
  refine lv_icmp_ge (tgt := 44) hx hb dG_openSlot_6 (by decide) (fun c1 => ?_) (fun c1 => ?_)
  · have c1 : 24 ≤ S := (nI_leI (by omega) (by omega)).mp c1
    exact absurd c1 (by omega)
  · have c1 : ¬ (24 ≤ S) := fun h => c1 ((nI_leI (by omega) (by omega)).mpr h)
    refine lv_aload_n hx hb dG_openSlot_9 rfl (lv_at hl 0 rfl) ?_
    refine w_get C hk hE (K := R_G) (T := F_G) (N := 6) (ci := 0) in_G 1 (Nat.le_of_ble_eq_true rfl) rfl rfl 2 (by decide) tw_37 rfl rfl dG_openSlot_10 ?_
    refine lv_aload_n hx hb dG_openSlot_13 rfl (lv_at hl 0 rfl) ?_
    refine w_get C hk hE (K := R_G) (T := F_G) (N := 6) (ci := 0) in_G 1 (Nat.le_of_ble_eq_true rfl) rfl rfl 5 (by decide) tw_47 rfl rfl dG_openSlot_14 ?_
    refine w_top (y := nI S) (h15) ?_
    refine lv_iconst (v := (-1)) hx hb dG_openSlot_17 (by decide) ?_
    refine w_iast C hk hE 8 (by exact Nat.le_of_ble_eq_true rfl) (n := 24) (fun _ => rfl) (by omega) (by first | decide | omega) dG_openSlot_18 (fun H locs hE => ?_)
    refine lv_aload_n hx hb dG_openSlot_19 rfl (lv_at hl 0 rfl) ?_
    refine w_get C hk hE (K := R_G) (T := F_G) (N := 6) (ci := 0) in_G 1 (Nat.le_of_ble_eq_true rfl) rfl rfl 3 (by decide) tw_41 rfl rfl dG_openSlot_20 ?_
    refine lv_aload_n hx hb dG_openSlot_23 rfl (lv_at hl 0 rfl) ?_
    refine w_get C hk hE (K := R_G) (T := F_G) (N := 6) (ci := 0) in_G 1 (Nat.le_of_ble_eq_true rfl) rfl rfl 5 (by decide) tw_47 rfl rfl dG_openSlot_24 ?_
    refine w_top (y := σ 1 5) (by simp [mset, mrow, upd]) ?_
    refine w_top (y := nI S) (h15) ?_
    refine lv_aload_n hx hb dG_openSlot_27 rfl (lv_at hl 0 rfl) ?_
    refine w_get C hk hE (K := R_G) (T := F_G) (N := 6) (ci := 0) in_G 1 (Nat.le_of_ble_eq_true rfl) rfl rfl 4 (by decide) tw_43 rfl rfl dG_openSlot_28 ?_
    refine w_top (y := σ 1 4) (by simp [mset, mrow, upd]) ?_
    refine w_top (y := nI P) (h14) ?_
    refine lv_iconst (v := nI 1) hx hb dG_openSlot_31 (by decide) ?_
    refine lv_isub hx hb dG_openSlot_32 ?_
    refine w_top (y := nI (P - 1)) (w_sub (by omega) (by omega)) ?_
    refine w_iast C hk hE 9 (by exact Nat.le_of_ble_eq_true rfl) (n := 24) (fun _ => rfl) (by omega) (by first | decide | omega) dG_openSlot_33 (fun H locs hE => ?_)
    refine lv_aload_n hx hb dG_openSlot_34 rfl (lv_at hl 0 rfl) ?_
    refine lv_dup hx hb dG_openSlot_35 rfl ?_
    refine w_get C hk hE (K := R_G) (T := F_G) (N := 6) (ci := 0) in_G 1 (Nat.le_of_ble_eq_true rfl) rfl rfl 5 (by decide) tw_47 rfl rfl dG_openSlot_36 ?_
    refine w_top (y := σ 1 5) (by simp [mset, mrow, upd]) ?_
    refine w_top (y := nI S) (h15) ?_
    refine lv_iconst (v := nI 1) hx hb dG_openSlot_39 (by decide) ?_
    refine lv_iadd hx hb dG_openSlot_40 ?_
    refine w_top (y := nI (S + 1)) (by first | exact nI_add _ _ | simp only [nI_add, Nat.add_assoc, Nat.add_zero, Nat.zero_add]) ?_
    refine w_put C hk hE (K := R_G) (T := F_G) (N := 6) (ci := 0) in_G ft_G_ok fn_G 1 (Nat.le_of_ble_eq_true rfl) rfl rfl 5 (by decide) tw_47 rfl rfl (rfl) (rfl) (Nat.le_of_ble_eq_true rfl) rfl dG_openSlot_41 (fun H locs hE => ?_)
    exact w_retv C hE (rfl) dG_openSlot_44
set_option maxHeartbeats 4000000 in
set_option maxRecDepth 100000 in
theorem c_G_openProduction (l : Launch) (D : va_G) (cs : Nat → ClassId) (ad : Nat → Nat) (σ : Mem) (P S : Nat) (v : Int32) (h14 : σ 1 4 = nI P) (h15 : σ 1 5 = nI S) (hP : P < 8) (hS : S < 24) : MetV l (wE D cs ad) cs yG_openProduction bG_openProduction 2 1 20 [.ref (ad 1), .int v] σ (fun τ => τ = mset (mset (mset (mset (mset (mset σ 6 P v) 7 P (nI S)) 1 4 (nI (P + 1))) 8 S (-1)) 9 S (nI P)) 1 5 (nI (S + 1))) := by
  refine MetV.start (by decide) (Nat.le_of_ble_eq_true rfl) ?_
  intro p e s m below meth c A ls C hk hA hE hl
  obtain ⟨hx, hb, hml, hown, hts, hr, hlocks⟩ := id C
  have hl : lv_has ls 2 [(0, .ref (ad 1)), (1, .int v)] := hl
  refine lv_aload_n hx hb dG_openProduction_0 rfl (lv_at hl 0 rfl) ?_
  refine w_get C hk hE (K := R_G) (T := F_G) (N := 6) (ci := 0) in_G 1 (Nat.le_of_ble_eq_true rfl) rfl rfl 4 (by decide) tw_43 rfl rfl dG_openProduction_1 ?_
  refine w_top (y := nI P) (h14) ?_
  refine lv_bipush (v := nI 8) hx hb dG_openProduction_4 (by decide) ?_
  refine lv_icmp_ge (tgt := 46) hx hb dG_openProduction_6 (by decide) (fun c1 => ?_) (fun c1 => ?_)
  · have c1 : 8 ≤ P := (nI_leI (by omega) (by omega)).mp c1
    exact absurd c1 (by omega)
  · have c1 : ¬ (8 ≤ P) := fun h => c1 ((nI_leI (by omega) (by omega)).mpr h)
    refine lv_aload_n hx hb dG_openProduction_9 rfl (lv_at hl 0 rfl) ?_
    refine w_get C hk hE (K := R_G) (T := F_G) (N := 6) (ci := 0) in_G 1 (Nat.le_of_ble_eq_true rfl) rfl rfl 0 (by decide) tw_31 rfl rfl dG_openProduction_10 ?_
    refine lv_aload_n hx hb dG_openProduction_13 rfl (lv_at hl 0 rfl) ?_
    refine w_get C hk hE (K := R_G) (T := F_G) (N := 6) (ci := 0) in_G 1 (Nat.le_of_ble_eq_true rfl) rfl rfl 4 (by decide) tw_43 rfl rfl dG_openProduction_14 ?_
    refine w_top (y := nI P) (h14) ?_
    refine lv_iload_n hx hb dG_openProduction_17 rfl (lv_at hl 1 rfl) ?_
    refine w_iast C hk hE 6 (by exact Nat.le_of_ble_eq_true rfl) (n := 8) (fun _ => rfl) (by omega) (by first | decide | omega) dG_openProduction_18 (fun H locs hE => ?_)
    refine lv_aload_n hx hb dG_openProduction_19 rfl (lv_at hl 0 rfl) ?_
    refine w_get C hk hE (K := R_G) (T := F_G) (N := 6) (ci := 0) in_G 1 (Nat.le_of_ble_eq_true rfl) rfl rfl 1 (by decide) tw_34 rfl rfl dG_openProduction_20 ?_
    refine lv_aload_n hx hb dG_openProduction_23 rfl (lv_at hl 0 rfl) ?_
    refine w_get C hk hE (K := R_G) (T := F_G) (N := 6) (ci := 0) in_G 1 (Nat.le_of_ble_eq_true rfl) rfl rfl 4 (by decide) tw_43 rfl rfl dG_openProduction_24 ?_
    refine w_top (y := σ 1 4) (by simp [mset, mrow, upd]) ?_
    refine w_top (y := nI P) (h14) ?_
    refine lv_aload_n hx hb dG_openProduction_27 rfl (lv_at hl 0 rfl) ?_
    refine w_get C hk hE (K := R_G) (T := F_G) (N := 6) (ci := 0) in_G 1 (Nat.le_of_ble_eq_true rfl) rfl rfl 5 (by decide) tw_47 rfl rfl dG_openProduction_28 ?_
    refine w_top (y := σ 1 5) (by simp [mset, mrow, upd]) ?_
    refine w_top (y := nI S) (h15) ?_
    refine w_iast C hk hE 7 (by exact Nat.le_of_ble_eq_true rfl) (n := 8) (fun _ => rfl) (by omega) (by first | decide | omega) dG_openProduction_31 (fun H locs hE => ?_)
    refine lv_aload_n hx hb dG_openProduction_32 rfl (lv_at hl 0 rfl) ?_
    refine lv_dup hx hb dG_openProduction_33 rfl ?_
    refine w_get C hk hE (K := R_G) (T := F_G) (N := 6) (ci := 0) in_G 1 (Nat.le_of_ble_eq_true rfl) rfl rfl 4 (by decide) tw_43 rfl rfl dG_openProduction_34 ?_
    refine w_top (y := σ 1 4) (by simp [mset, mrow, upd]) ?_
    refine w_top (y := nI P) (h14) ?_
    refine lv_iconst (v := nI 1) hx hb dG_openProduction_37 (by decide) ?_
    refine lv_iadd hx hb dG_openProduction_38 ?_
    refine w_top (y := nI (P + 1)) (by first | exact nI_add _ _ | simp only [nI_add, Nat.add_assoc, Nat.add_zero, Nat.zero_add]) ?_
    refine w_put C hk hE (K := R_G) (T := F_G) (N := 6) (ci := 0) in_G ft_G_ok fn_G 1 (Nat.le_of_ble_eq_true rfl) rfl rfl 4 (by decide) tw_43 rfl rfl (rfl) (rfl) (Nat.le_of_ble_eq_true rfl) rfl dG_openProduction_39 (fun H locs hE => ?_)
    refine lv_aload_n hx hb dG_openProduction_42 rfl (lv_at hl 0 rfl) ?_
    refine w_cv hE hA (w_runV C hk hE hl.1 (As := []) (rest := []) (q := 1) (c_G_openSlot l D cs ad (mset (mset (mset σ 6 P v) 7 P (nI S)) 1 4 (nI (P + 1))) (P + 1) S (by simp [mset, mrow, upd]) (by simp [mset, mrow, upd, h15]) (by omega) hS _) (Nat.le_of_ble_eq_true rfl) (ci := 0) (N := 6) (T := F_G) rfl rfl tw_405 tw_407 ts_10 tw_2 tw_408 (n := 0) (by decide +kernel) rfl rfl (Nat.le_of_ble_eq_true rfl) dG_openProduction_43 ⟨Nat.le_of_ble_eq_true rfl, Nat.le_of_ble_eq_true rfl⟩ ⟨Nat.zero_le _, Nat.zero_le _⟩) (fun τ3 H locs hp hE _ _ => ?_)
    have hE := wS_eq hp hE
    exact w_retv C hE (rfl) dG_openProduction_46
set_option maxHeartbeats 4000000 in
set_option maxRecDepth 100000 in
theorem c_G_lastLength (l : Launch) (D : va_G) (cs : Nat → ClassId) (ad : Nat → Nat) (σ : Mem) (P S f9 : Nat) (h14 : σ 1 4 = nI P) (h15 : σ 1 5 = nI S) (hP : P ≤ 8) (hS : S ≤ 24) (hf : 0 < P → σ 7 (P - 1) = nI f9 ∧ f9 + 1 ≤ S) : MetI l (wE D cs ad) cs yG_lastLength bG_lastLength 1 (some .int) 0 0 [.ref (ad 1)] σ (fun r τ => r = nI (if P = 0 then 0 else S - 1 - f9) ∧ τ = σ) := by
  refine MetI.start (by decide) (Nat.le_of_ble_eq_true rfl) ?_
  intro p e s m below meth c A ls C hk hA hE hl
  obtain ⟨hx, hb, hml, hown, hts, hr, hlocks⟩ := id C
  have hl : lv_has ls 1 [(0, .ref (ad 1))] := hl
  refine lv_aload_n hx hb dG_lastLength_0 rfl (lv_at hl 0 rfl) ?_
  refine w_get C hk hE (K := R_G) (T := F_G) (N := 6) (ci := 0) in_G 1 (Nat.le_of_ble_eq_true rfl) rfl rfl 4 (by decide) tw_43 rfl rfl dG_lastLength_1 ?_
  refine w_top (y := nI P) (h14) ?_
  refine lv_if_ne (tgt := 11) hx hb dG_lastLength_4 (by decide) (fun c1 => ?_) (fun c1 => ?_)
  · have c1 := w_n0 (by omega) c1
    have hf9 := (hf (by omega)).2
    refine lv_aload_n hx hb dG_lastLength_11 rfl (lv_at hl 0 rfl) ?_
    refine w_get C hk hE (K := R_G) (T := F_G) (N := 6) (ci := 0) in_G 1 (Nat.le_of_ble_eq_true rfl) rfl rfl 5 (by decide) tw_47 rfl rfl dG_lastLength_12 ?_
    refine w_top (y := nI S) (h15) ?_
    refine lv_iconst (v := nI 1) hx hb dG_lastLength_15 (by decide) ?_
    refine lv_isub hx hb dG_lastLength_16 ?_
    refine w_top (y := nI (S - 1)) (w_sub (by omega) (by omega)) ?_
    refine lv_aload_n hx hb dG_lastLength_17 rfl (lv_at hl 0 rfl) ?_
    refine w_get C hk hE (K := R_G) (T := F_G) (N := 6) (ci := 0) in_G 1 (Nat.le_of_ble_eq_true rfl) rfl rfl 1 (by decide) tw_34 rfl rfl dG_lastLength_18 ?_
    refine lv_aload_n hx hb dG_lastLength_21 rfl (lv_at hl 0 rfl) ?_
    refine w_get C hk hE (K := R_G) (T := F_G) (N := 6) (ci := 0) in_G 1 (Nat.le_of_ble_eq_true rfl) rfl rfl 4 (by decide) tw_43 rfl rfl dG_lastLength_22 ?_
    refine w_top (y := nI P) (h14) ?_
    refine lv_iconst (v := nI 1) hx hb dG_lastLength_25 (by decide) ?_
    refine lv_isub hx hb dG_lastLength_26 ?_
    refine w_top (y := nI (P - 1)) (w_sub (by omega) (by omega)) ?_
    refine w_iald C hk hE 7 (by exact Nat.le_of_ble_eq_true rfl) (n := 8) rfl (by omega) (by first | decide | omega) dG_lastLength_27 ?_
    refine w_top (y := nI f9) ((hf (by omega)).1) ?_
    refine lv_isub hx hb dG_lastLength_28 ?_
    refine w_top (y := nI ((S - 1) - f9)) (w_sub (by omega) (by omega)) ?_
    exact w_reti C hE (⟨by simp [*], rfl⟩) dG_lastLength_29
  · have c1 := w_z0 (by omega) c1
    refine lv_iconst (v := nI 0) hx hb dG_lastLength_7 (by decide) ?_
    refine lv_goto (tgt := 29) hx hb dG_lastLength_8 (by decide) ?_
    exact w_reti C hE (⟨by simp [*], rfl⟩) dG_lastLength_29
set_option maxHeartbeats 4000000 in
set_option maxRecDepth 100000 in
theorem c_G_hasRoomForSymbol (l : Launch) (D : va_G) (cs : Nat → ClassId) (ad : Nat → Nat) (σ : Mem) (P S f9 : Nat) (h14 : σ 1 4 = nI P) (h15 : σ 1 5 = nI S) (hP : P ≤ 8 ∧ P ≤ S) (hS : S ≤ 24) (hf : 0 < P → σ 7 (P - 1) = nI f9 ∧ f9 + 1 ≤ S) : MetI l (wE D cs ad) cs yG_hasRoomForSymbol bG_hasRoomForSymbol 1 (some .boolean) 1 20 [.ref (ad 1)] σ (fun r τ => r = zb (decide (0 < P) && (decide (S - 1 - f9 < 4) && decide (S - P < 16))) ∧ τ = σ) := by
  refine MetI.start (by decide) (Nat.le_of_ble_eq_true rfl) ?_
  intro p e s m below meth c A ls C hk hA hE hl
  obtain ⟨hx, hb, hml, hown, hts, hr, hlocks⟩ := id C
  have hl : lv_has ls 1 [(0, .ref (ad 1))] := hl
  refine lv_aload_n hx hb dG_hasRoomForSymbol_0 rfl (lv_at hl 0 rfl) ?_
  refine w_get C hk hE (K := R_G) (T := F_G) (N := 6) (ci := 0) in_G 1 (Nat.le_of_ble_eq_true rfl) rfl rfl 4 (by decide) tw_43 rfl rfl dG_hasRoomForSymbol_1 ?_
  refine w_top (y := nI P) (h14) ?_
  refine lv_if_le (tgt := 33) hx hb dG_hasRoomForSymbol_4 (by decide) (fun c1 => ?_) (fun c1 => ?_)
  · have c1 := w_le0 (by omega) c1
    refine lv_iconst (v := nI 0) hx hb dG_hasRoomForSymbol_33 (by decide) ?_
    exact w_retz C hE (Or.inl rfl) (⟨by first | (simp [zb, *]; done) | (simp [zb] <;> omega), rfl⟩) dG_hasRoomForSymbol_34
  · have c1 := w_nle0 (by omega) c1
    refine lv_aload_n hx hb dG_hasRoomForSymbol_7 rfl (lv_at hl 0 rfl) ?_
    refine w_ci hE hA (w_runV C hk hE hl.1 (As := []) (rest := []) (q := 1) (c_G_lastLength l D cs ad σ P S f9 h14 h15 hP.1 hS hf _) (Nat.le_of_ble_eq_true rfl) (ci := 0) (N := 6) (T := F_G) rfl rfl tw_420 tw_421 tw_422 tw_2 tw_423 (n := 0) (by decide +kernel) rfl rfl (Nat.le_of_ble_eq_true rfl) dG_hasRoomForSymbol_8 ⟨Nat.le_of_ble_eq_true rfl, Nat.le_of_ble_eq_true rfl⟩ ⟨Nat.zero_le _, Nat.zero_le _⟩) (fun r2 τ3 H locs hp hE _ _ => ?_)
    refine w_top (hp.1.trans (by rw [if_neg (by omega)])) ?_
    have hE := wS_eq hp.2 hE
    refine lv_iconst (v := nI 4) hx hb dG_hasRoomForSymbol_11 (by decide) ?_
    refine lv_icmp_ge (tgt := 33) hx hb dG_hasRoomForSymbol_12 (by decide) (fun c4 => ?_) (fun c4 => ?_)
    · have c4 : 4 ≤ (S - 1 - f9) := (nI_leI (by omega) (by omega)).mp c4
      refine lv_iconst (v := nI 0) hx hb dG_hasRoomForSymbol_33 (by decide) ?_
      exact w_retz C hE (Or.inl rfl) (⟨by first | (simp [zb, *]; done) | (simp [zb] <;> omega), rfl⟩) dG_hasRoomForSymbol_34
    · have c4 : ¬ (4 ≤ (S - 1 - f9)) := fun h => c4 ((nI_leI (by omega) (by omega)).mpr h)
      refine lv_aload_n hx hb dG_hasRoomForSymbol_15 rfl (lv_at hl 0 rfl) ?_
      refine w_get C hk hE (K := R_G) (T := F_G) (N := 6) (ci := 0) in_G 1 (Nat.le_of_ble_eq_true rfl) rfl rfl 5 (by decide) tw_47 rfl rfl dG_hasRoomForSymbol_16 ?_
      refine w_top (y := nI S) (h15) ?_
      refine lv_aload_n hx hb dG_hasRoomForSymbol_19 rfl (lv_at hl 0 rfl) ?_
      refine w_get C hk hE (K := R_G) (T := F_G) (N := 6) (ci := 0) in_G 1 (Nat.le_of_ble_eq_true rfl) rfl rfl 4 (by decide) tw_43 rfl rfl dG_hasRoomForSymbol_20 ?_
      refine w_top (y := nI P) (h14) ?_
      refine lv_isub hx hb dG_hasRoomForSymbol_23 ?_
      refine w_top (y := nI (S - P)) (w_sub (by omega) (by omega)) ?_
      refine lv_bipush (v := nI 16) hx hb dG_hasRoomForSymbol_24 (by decide) ?_
      refine lv_icmp_ge (tgt := 33) hx hb dG_hasRoomForSymbol_26 (by decide) (fun c5 => ?_) (fun c5 => ?_)
      · have c5 : 16 ≤ (S - P) := (nI_leI (by omega) (by omega)).mp c5
        refine lv_iconst (v := nI 0) hx hb dG_hasRoomForSymbol_33 (by decide) ?_
        exact w_retz C hE (Or.inl rfl) (⟨by first | (simp [zb, *]; done) | (simp [zb] <;> omega), rfl⟩) dG_hasRoomForSymbol_34
      · have c5 : ¬ (16 ≤ (S - P)) := fun h => c5 ((nI_leI (by omega) (by omega)).mpr h)
        refine lv_iconst (v := nI 1) hx hb dG_hasRoomForSymbol_29 (by decide) ?_
        refine lv_goto (tgt := 34) hx hb dG_hasRoomForSymbol_30 (by decide) ?_
        exact w_retz C hE (Or.inr rfl) (⟨by first | (simp [zb, *]; done) | (simp [zb] <;> omega), rfl⟩) dG_hasRoomForSymbol_34
set_option maxHeartbeats 4000000 in
set_option maxRecDepth 100000 in
theorem c_G_appendSymbol (l : Launch) (D : va_G) (cs : Nat → ClassId) (ad : Nat → Nat) (σ : Mem) (P S f9 : Nat) (v : Int32) (h14 : σ 1 4 = nI P) (h15 : σ 1 5 = nI S) (hP : P ≤ 8 ∧ P ≤ S ∧ 0 < P) (hS : S < 24) (hf : 0 < P → σ 7 (P - 1) = nI f9 ∧ f9 + 1 ≤ S) (hroom : S - 1 - f9 < 4 ∧ S - P < 16) : MetV l (wE D cs ad) cs yG_appendSymbol bG_appendSymbol 2 2 40 [.ref (ad 1), .int v] σ (fun τ => τ = mset (mset (mset (mset σ 8 (S - 1) v) 8 S (-1)) 9 S (nI (P - 1))) 1 5 (nI (S + 1))) := by
  refine MetV.start (by decide) (Nat.le_of_ble_eq_true rfl) ?_
  intro p e s m below meth c A ls C hk hA hE hl
  obtain ⟨hx, hb, hml, hown, hts, hr, hlocks⟩ := id C
  have hl : lv_has ls 2 [(0, .ref (ad 1)), (1, .int v)] := hl
  refine lv_aload_n hx hb dG_appendSymbol_0 rfl (lv_at hl 0 rfl) ?_
  refine w_ci hE hA (w_runV C hk hE hl.1 (As := []) (rest := []) (q := 1) (c_G_hasRoomForSymbol l D cs ad σ P S f9 h14 h15 ⟨hP.1, hP.2.1⟩ (by omega) hf _) (Nat.le_of_ble_eq_true rfl) (ci := 0) (N := 6) (T := F_G) rfl rfl tw_434 tw_417 tw_418 tw_2 tw_419 (n := 0) (by decide +kernel) rfl rfl (Nat.le_of_ble_eq_true rfl) dG_appendSymbol_1 ⟨Nat.le_of_ble_eq_true rfl, Nat.le_of_ble_eq_true rfl⟩ ⟨Nat.zero_le _, Nat.zero_le _⟩) (fun r1 τ2 H locs hp hE _ _ => ?_)
  refine w_top (hp.1.trans (by rw [show (decide (0 < P) && (decide (S - 1 - f9 < 4) && decide (S - P < 16))) = true by simp [hP.2.2, hroom.1, hroom.2], zb_t])) ?_
  have hE := wS_eq hp.2 hE
  refine lv_if_eq (tgt := 23) hx hb dG_appendSymbol_4 (by decide) (fun c3 => ?_) (fun c3 => ?_)
  · have c3 := w_z0 (by omega) c3
    exact absurd c3 (by decide)
  · have c3 := w_n0 (by omega) c3
    refine lv_aload_n hx hb dG_appendSymbol_7 rfl (lv_at hl 0 rfl) ?_
    refine w_get C hk hE (K := R_G) (T := F_G) (N := 6) (ci := 0) in_G 1 (Nat.le_of_ble_eq_true rfl) rfl rfl 2 (by decide) tw_37 rfl rfl dG_appendSymbol_8 ?_
    refine lv_aload_n hx hb dG_appendSymbol_11 rfl (lv_at hl 0 rfl) ?_
    refine w_get C hk hE (K := R_G) (T := F_G) (N := 6) (ci := 0) in_G 1 (Nat.le_of_ble_eq_true rfl) rfl rfl 5 (by decide) tw_47 rfl rfl dG_appendSymbol_12 ?_
    refine w_top (y := nI S) (h15) ?_
    refine lv_iconst (v := nI 1) hx hb dG_appendSymbol_15 (by decide) ?_
    refine lv_isub hx hb dG_appendSymbol_16 ?_
    refine w_top (y := nI (S - 1)) (w_sub (by omega) (by omega)) ?_
    refine lv_iload_n hx hb dG_appendSymbol_17 rfl (lv_at hl 1 rfl) ?_
    refine w_iast C hk hE 8 (by exact Nat.le_of_ble_eq_true rfl) (n := 24) (fun _ => rfl) (by omega) (by first | decide | omega) dG_appendSymbol_18 (fun H locs hE => ?_)
    refine lv_aload_n hx hb dG_appendSymbol_19 rfl (lv_at hl 0 rfl) ?_
    refine w_cv hE hA (w_runV C hk hE hl.1 (As := []) (rest := []) (q := 1) (c_G_openSlot l D cs ad (mset σ 8 (S - 1) v) P S (by simp [mset, mrow, upd, h14]) (by simp [mset, mrow, upd, h15]) (by omega) hS _) (Nat.le_of_ble_eq_true rfl) (ci := 0) (N := 6) (T := F_G) rfl rfl tw_405 tw_407 ts_10 tw_2 tw_408 (n := 0) (by decide +kernel) rfl rfl (Nat.le_of_ble_eq_true rfl) dG_appendSymbol_20 ⟨Nat.le_of_ble_eq_true rfl, Nat.le_of_ble_eq_true rfl⟩ ⟨Nat.zero_le _, Nat.zero_le _⟩) (fun τ5 H locs hp hE _ _ => ?_)
    have hE := wS_eq hp hE
    exact w_retv C hE (rfl) dG_appendSymbol_23
set_option maxHeartbeats 4000000 in
set_option maxRecDepth 100000 in
theorem c_G_forget (l : Launch) (D : va_G) (cs : Nat → ClassId) (ad : Nat → Nat) (σ : Mem)  : MetV l (wE D cs ad) cs yG_forget bG_forget 1 0 0 [.ref (ad 1)] σ (fun τ => τ = mset (mset σ 1 4 (nI 0)) 1 5 (nI 0)) := by
  refine MetV.start (by decide) (Nat.le_of_ble_eq_true rfl) ?_
  intro p e s m below meth c A ls C hk hA hE hl
  obtain ⟨hx, hb, hml, hown, hts, hr, hlocks⟩ := id C
  have hl : lv_has ls 1 [(0, .ref (ad 1))] := hl
  refine lv_aload_n hx hb dG_forget_0 rfl (lv_at hl 0 rfl) ?_
  refine lv_iconst (v := nI 0) hx hb dG_forget_1 (by decide) ?_
  refine w_put C hk hE (K := R_G) (T := F_G) (N := 6) (ci := 0) in_G ft_G_ok fn_G 1 (Nat.le_of_ble_eq_true rfl) rfl rfl 4 (by decide) tw_43 rfl rfl (rfl) (rfl) (Nat.le_of_ble_eq_true rfl) rfl dG_forget_2 (fun H locs hE => ?_)
  refine lv_aload_n hx hb dG_forget_5 rfl (lv_at hl 0 rfl) ?_
  refine lv_iconst (v := nI 0) hx hb dG_forget_6 (by decide) ?_
  refine w_put C hk hE (K := R_G) (T := F_G) (N := 6) (ci := 0) in_G ft_G_ok fn_G 1 (Nat.le_of_ble_eq_true rfl) rfl rfl 5 (by decide) tw_47 rfl rfl (rfl) (rfl) (Nat.le_of_ble_eq_true rfl) rfl dG_forget_7 (fun H locs hE => ?_)
  exact w_retv C hE (rfl) dG_forget_10
set_option maxHeartbeats 4000000 in
set_option maxRecDepth 100000 in
theorem c_I_append (l : Launch) (D : va_G) (cs : Nat → ClassId) (ad : Nat → Nat) (σ : Mem) (n9 : Nat) (v : Int32) (hn : σ 2 1 = nI n9) (hn8 : n9 < 8) : MetV l (wE D cs ad) cs yI_append bI_append 2 0 0 [.ref (ad 2), .int v] σ (fun τ => τ = mset (mset σ 10 n9 v) 2 1 (nI (n9 + 1))) := by
  refine MetV.start (by decide) (Nat.le_of_ble_eq_true rfl) ?_
  intro p e s m below meth c A ls C hk hA hE hl
  obtain ⟨hx, hb, hml, hown, hts, hr, hlocks⟩ := id C
  have hl : lv_has ls 2 [(0, .ref (ad 2)), (1, .int v)] := hl
  refine lv_aload_n hx hb dI_append_0 rfl (lv_at hl 0 rfl) ?_
  refine w_get C hk hE (K := R_I) (T := F_I) (N := 2) (ci := 1) in_I 2 (Nat.le_of_ble_eq_true rfl) rfl rfl 1 (by decide) tw_71 rfl rfl dI_append_1 ?_
  refine w_top (y := nI n9) (hn) ?_
  refine lv_bipush (v := nI 8) hx hb dI_append_4 (by decide) ?_
  refine lv_icmp_ge (tgt := 29) hx hb dI_append_6 (by decide) (fun c1 => ?_) (fun c1 => ?_)
  · have c1 : 8 ≤ n9 := (nI_leI (by omega) (by omega)).mp c1
    exact absurd c1 (by omega)
  · have c1 : ¬ (8 ≤ n9) := fun h => c1 ((nI_leI (by omega) (by omega)).mpr h)
    refine lv_aload_n hx hb dI_append_9 rfl (lv_at hl 0 rfl) ?_
    refine w_get C hk hE (K := R_I) (T := F_I) (N := 2) (ci := 1) in_I 2 (Nat.le_of_ble_eq_true rfl) rfl rfl 0 (by decide) tw_70 rfl rfl dI_append_10 ?_
    refine lv_aload_n hx hb dI_append_13 rfl (lv_at hl 0 rfl) ?_
    refine w_get C hk hE (K := R_I) (T := F_I) (N := 2) (ci := 1) in_I 2 (Nat.le_of_ble_eq_true rfl) rfl rfl 1 (by decide) tw_71 rfl rfl dI_append_14 ?_
    refine w_top (y := nI n9) (hn) ?_
    refine lv_iload_n hx hb dI_append_17 rfl (lv_at hl 1 rfl) ?_
    refine w_iast C hk hE 10 (by exact Nat.le_of_ble_eq_true rfl) (n := 8) (fun _ => rfl) (by omega) (by first | decide | omega) dI_append_18 (fun H locs hE => ?_)
    refine lv_aload_n hx hb dI_append_19 rfl (lv_at hl 0 rfl) ?_
    refine lv_dup hx hb dI_append_20 rfl ?_
    refine w_get C hk hE (K := R_I) (T := F_I) (N := 2) (ci := 1) in_I 2 (Nat.le_of_ble_eq_true rfl) rfl rfl 1 (by decide) tw_71 rfl rfl dI_append_21 ?_
    refine w_top (y := σ 2 1) (by simp [mset, mrow, upd]) ?_
    refine w_top (y := nI n9) (hn) ?_
    refine lv_iconst (v := nI 1) hx hb dI_append_24 (by decide) ?_
    refine lv_iadd hx hb dI_append_25 ?_
    refine w_top (y := nI (n9 + 1)) (by first | exact nI_add _ _ | simp only [nI_add, Nat.add_assoc, Nat.add_zero, Nat.zero_add]) ?_
    refine w_put C hk hE (K := R_I) (T := F_I) (N := 2) (ci := 1) in_I ft_I_ok fn_I 2 (Nat.le_of_ble_eq_true rfl) rfl rfl 1 (by decide) tw_71 rfl rfl (rfl) (rfl) (Nat.le_of_ble_eq_true rfl) rfl dI_append_26 (fun H locs hE => ?_)
    exact w_retv C hE (rfl) dI_append_29
set_option maxHeartbeats 4000000 in
set_option maxRecDepth 100000 in
theorem c_W_forget (l : Launch) (D : va_G) (cs : Nat → ClassId) (ad : Nat → Nat) (σ : Mem)  : MetV l (wE D cs ad) cs yW_forget bW_forget 1 0 0 [.ref (ad 5)] σ (fun τ => τ = mset σ 5 3 (nI 0)) := by
  refine MetV.start (by decide) (Nat.le_of_ble_eq_true rfl) ?_
  intro p e s m below meth c A ls C hk hA hE hl
  obtain ⟨hx, hb, hml, hown, hts, hr, hlocks⟩ := id C
  have hl : lv_has ls 1 [(0, .ref (ad 5))] := hl
  refine lv_aload_n hx hb dW_forget_0 rfl (lv_at hl 0 rfl) ?_
  refine lv_iconst (v := nI 0) hx hb dW_forget_1 (by decide) ?_
  refine w_put C hk hE (K := R_W) (T := F_W) (N := 8) (ci := 4) in_W ft_W_ok fn_W 5 (Nat.le_of_ble_eq_true rfl) rfl rfl 3 (by decide) tw_126 rfl rfl (rfl) (rfl) (Nat.le_of_ble_eq_true rfl) rfl dW_forget_2 (fun H locs hE => ?_)
  exact w_retv C hE (rfl) dW_forget_5
set_option maxHeartbeats 4000000 in
set_option maxRecDepth 100000 in
theorem lp_J_fill {p : Program} {l : Launch} {e : Env} {s : State} {m : MethodId} {below : List Frame} {meth : Method} {c : Code} {D : va_G} {cs : Nat → ClassId} {ad : Nat → Nat} {A : Nat → Prop} {σ : Mem} {q n9 : Nat} {v : Int32} (C : bC p s m ([.ref (ad q), .int v] : List Value).toArray meth c bJ_fill 4 "java/util/Arrays" none) (hk : wk D cs s) (hA : ∀ q : Nat, s.heap.size ≤ q → A q) (hq : q < 58) (hf : ∀ r : Nat → Int32, cE cs ad q r = .inl (cs 0, n9, .inl r)) (hn9 : n9 < 2 ^ 31)   :
    ∀ (n : Nat) (i : Nat), (n9 - i) < n → (i ≤ n9) → ∀ (H : Heap) (locs : List Loc) (ls : Array Slot), wS (wE D cs ad) A s.heap (mrow σ q (fillR (σ q) v i)) H locs → lv_has ls 4 [(0, .ref (ad q)), (1, .int v), (2, .int (nI i)), (3, .int (nI n9))] → W p l e (rmF 0 0) s m ([.ref (ad q), .int v] : List Value).toArray below meth c H locs 0 0 (wQv (wE D cs ad) A (fun τ => τ = mrow σ q (fillR (σ q) v n9)) s below ([.ref (ad q), .int v] : List Value).toArray) (F0 m 5 ls []) := by
  obtain ⟨hx, hb, hml, hown, hts, hr, hlocks⟩ := id C
  intro n
  induction n with
  | zero => intro i h; exact absurd h (Nat.not_lt_zero _)
  | succ n ih =>
    intro i hn hi H locs ls hE hl
    refine lv_iload_n hx hb dJ_fill_5 rfl (lv_at hl 2 rfl) ?_
    refine lv_iload_n hx hb dJ_fill_6 rfl (lv_at hl 3 rfl) ?_
    refine lv_icmp_ge (tgt := 20) hx hb dJ_fill_7 (by decide) (fun c1 => ?_) (fun c1 => ?_)
    · have c1 : n9 ≤ i := (nI_leI (by omega) (by omega)).mp c1
      exact w_retv C hE (by rw [show n9 = i by omega]) dJ_fill_20
    · have c1 : ¬ (n9 ≤ i) := fun h => c1 ((nI_leI (by omega) (by omega)).mpr h)
      refine lv_aload_n hx hb dJ_fill_10 rfl (lv_at hl 0 rfl) ?_
      refine lv_iload_n hx hb dJ_fill_11 rfl (lv_at hl 2 rfl) ?_
      refine lv_iload_n hx hb dJ_fill_12 rfl (lv_at hl 1 rfl) ?_
      refine w_iast C hk hE q (by assumption) (n := n9) (fun _ => hf _) (by omega) (by first | decide | omega) dJ_fill_13 (fun H locs hE => ?_)
      rw [mset_mrow] at hE
      refine lv_iinc (v := nI (i + 1)) (lv' := [(2, .int (nI (i + 1))), (0, .ref (ad q)), (1, .int v), (3, .int (nI n9))]) hx hb dJ_fill_14 hl (k := 2) rfl (by exact nI_1 _) (by decide) rfl (fun ls hl => ?_)
      refine lv_goto (tgt := 5) hx hb dJ_fill_17 (by decide) ?_
      exact ih (i + 1) (by omega) (by omega) _ _ ls (wS_eq (show mrow σ q (upd (fillR (σ q) v i) i v) = mrow σ q (fillR (σ q) v (i + 1)) by rw [fillR_s]) hE) (lv_sub hl [1, 2, 0, 3] rfl)
set_option maxHeartbeats 4000000 in
set_option maxRecDepth 100000 in
theorem c_J_fill (l : Launch) (D : va_G) (cs : Nat → ClassId) (ad : Nat → Nat) (σ : Mem) (q n9 : Nat) (v : Int32) (hq : q < 58) (hf : ∀ r : Nat → Int32, cE cs ad q r = .inl (cs 0, n9, .inl r)) (hn9 : n9 < 2 ^ 31) : MetV l (wE D cs ad) cs yJ_fill bJ_fill 4 0 0 [.ref (ad q), .int v] σ (fun τ => τ = mrow σ q (fillR (σ q) v n9)) := by
  refine MetV.start (by decide) (Nat.le_of_ble_eq_true rfl) ?_
  intro p e s m below meth c A ls C hk hA hE hl
  obtain ⟨hx, hb, hml, hown, hts, hr, hlocks⟩ := id C
  have hl : lv_has ls 4 [(0, .ref (ad q)), (1, .int v)] := hl
  refine lv_iconst (v := nI 0) hx hb dJ_fill_0 (by decide) ?_
  refine lv_istore_n (lv' := [(2, .int (nI 0)), (0, .ref (ad q)), (1, .int v)]) hx hb dJ_fill_1 rfl hl (by decide) rfl (fun ls hl => ?_)
  refine lv_aload_n hx hb dJ_fill_2 rfl (lv_at hl 1 rfl) ?_
  refine w_alen C hk hE q (by assumption) (n := n9) (hf _) dJ_fill_3 ?_
  refine lv_istore_n (lv' := [(3, .int (nI n9)), (2, .int (nI 0)), (0, .ref (ad q)), (1, .int v)]) hx hb dJ_fill_4 rfl hl (by decide) rfl (fun ls hl => ?_)
  exact lp_J_fill C hk hA hq hf hn9 _ 0 (Nat.lt_succ_self _) (Nat.zero_le _) _ _ ls (wS_eq (show σ = mrow σ q (fillR (σ q) v 0) by rw [fillR_0, mrow_id]) hE) (lv_sub hl [2, 3, 1, 0] rfl)
