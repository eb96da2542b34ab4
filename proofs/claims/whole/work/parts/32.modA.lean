set_option maxHeartbeats 4000000 in
set_option maxRecDepth 100000 in
theorem c_M_thrown (l : Launch) (D : va_G) (cs : Nat → ClassId) (ad : Nat → Nat) (σ : Mem)  : MetI l (wM D cs ad) cs yM_thrown bM_thrown 1 (some .int) 0 0 [.ref (ad 0)] σ (fun r τ => r = σ 0 2 ∧ τ = σ) := by
  refine MetI.start (by decide) (Nat.le_of_ble_eq_true rfl) ?_
  intro p e s m below meth c A ls C hk hA hE hl
  obtain ⟨hx, hb, hml, hown, hts, hr, hlocks⟩ := id C
  have hl : lv_has ls 1 [(0, .ref (ad 0))] := hl
  refine lv_aload_n hx hb dM_thrown_0 rfl (lv_at hl 0 rfl) ?_
  refine w_get C hk hE (K := R_M) (T := F_M) (N := 17) (ci := 6) in_M 0 (Nat.le_of_ble_eq_true rfl) rfl rfl 2 (by decide) tw_584 rfl rfl dM_thrown_1 ?_
  exact w_reti C hE (⟨rfl, rfl⟩) dM_thrown_4
set_option maxHeartbeats 4000000 in
set_option maxRecDepth 100000 in
theorem c_M_isVariable (l : Launch) (D : va_G) (cs : Nat → ClassId) (ad : Nat → Nat) (σ : Mem) (V9 : Nat) (x : Int32) (hV : σ 0 0 = nI V9) (hV6 : V9 ≤ 6) : MetI l (wM D cs ad) cs yM_isVariable bM_isVariable 2 (some .boolean) 0 0 [.ref (ad 0), .int x] σ (fun r τ => r = zb (isVn V9 x) ∧ τ = σ) := by
  refine MetI.start (by decide) (Nat.le_of_ble_eq_true rfl) ?_
  intro p e s m below meth c A ls C hk hA hE hl
  obtain ⟨hx, hb, hml, hown, hts, hr, hlocks⟩ := id C
  have hl : lv_has ls 2 [(0, .ref (ad 0)), (1, .int x)] := hl
  refine lv_iload_n hx hb dM_isVariable_0 rfl (lv_at hl 1 rfl) ?_
  refine lv_if_lt (tgt := 16) hx hb dM_isVariable_1 (by decide) (fun c1 => ?_) (fun c1 => ?_)
  · refine lv_iconst (v := nI 0) hx hb dM_isVariable_16 (by decide) ?_
    exact w_retz C hE (Or.inl rfl) (⟨by simp [zb, isVn, c1], rfl⟩) dM_isVariable_17
  · refine lv_iload_n hx hb dM_isVariable_4 rfl (lv_at hl 1 rfl) ?_
    refine lv_aload_n hx hb dM_isVariable_5 rfl (lv_at hl 0 rfl) ?_
    refine w_get C hk hE (K := R_M) (T := F_M) (N := 17) (ci := 6) in_M 0 (Nat.le_of_ble_eq_true rfl) rfl rfl 0 (by decide) tw_582 rfl rfl dM_isVariable_6 ?_
    refine w_top (y := nI V9) (hV) ?_
    refine lv_icmp_ge (tgt := 16) hx hb dM_isVariable_9 (by decide) (fun c2 => ?_) (fun c2 => ?_)
    · refine lv_iconst (v := nI 0) hx hb dM_isVariable_16 (by decide) ?_
      exact w_retz C hE (Or.inl rfl) (⟨by simp [zb, isVn, c1, c2], rfl⟩) dM_isVariable_17
    · refine lv_iconst (v := nI 1) hx hb dM_isVariable_12 (by decide) ?_
      refine lv_goto (tgt := 17) hx hb dM_isVariable_13 (by decide) ?_
      exact w_retz C hE (Or.inr rfl) (⟨by simp [zb, isVn, c1, c2], rfl⟩) dM_isVariable_17
set_option maxHeartbeats 4000000 in
set_option maxRecDepth 100000 in
theorem c_M_isToken (l : Launch) (D : va_G) (cs : Nat → ClassId) (ad : Nat → Nat) (σ : Mem) (T9 : Nat) (x : Int32) (hT : σ 0 1 = nI T9) (hT6 : T9 ≤ 6) : MetI l (wM D cs ad) cs yM_isToken bM_isToken 2 (some .boolean) 0 0 [.ref (ad 0), .int x] σ (fun r τ => r = zb (isTn T9 x) ∧ τ = σ) := by
  refine MetI.start (by decide) (Nat.le_of_ble_eq_true rfl) ?_
  intro p e s m below meth c A ls C hk hA hE hl
  obtain ⟨hx, hb, hml, hown, hts, hr, hlocks⟩ := id C
  have hl : lv_has ls 2 [(0, .ref (ad 0)), (1, .int x)] := hl
  refine lv_iload_n hx hb dM_isToken_0 rfl (lv_at hl 1 rfl) ?_
  refine lv_bipush (v := nI 100) hx hb dM_isToken_1 (by decide) ?_
  refine lv_icmp_lt (tgt := 21) hx hb dM_isToken_3 (by decide) (fun c1 => ?_) (fun c1 => ?_)
  · refine lv_iconst (v := nI 0) hx hb dM_isToken_21 (by decide) ?_
    exact w_retz C hE (Or.inl rfl) (⟨by simp [zb, isTn, c1], rfl⟩) dM_isToken_22
  · refine lv_iload_n hx hb dM_isToken_6 rfl (lv_at hl 1 rfl) ?_
    refine lv_bipush (v := nI 100) hx hb dM_isToken_7 (by decide) ?_
    refine lv_aload_n hx hb dM_isToken_9 rfl (lv_at hl 0 rfl) ?_
    refine w_get C hk hE (K := R_M) (T := F_M) (N := 17) (ci := 6) in_M 0 (Nat.le_of_ble_eq_true rfl) rfl rfl 1 (by decide) tw_583 rfl rfl dM_isToken_10 ?_
    refine w_top (y := nI T9) (hT) ?_
    refine lv_iadd hx hb dM_isToken_13 ?_
    refine w_top (y := nI (100 + T9)) (by first | exact nI_add _ _ | simp only [nI_add, Nat.add_assoc, Nat.add_zero, Nat.zero_add]) ?_
    refine lv_icmp_ge (tgt := 21) hx hb dM_isToken_14 (by decide) (fun c2 => ?_) (fun c2 => ?_)
    · refine lv_iconst (v := nI 0) hx hb dM_isToken_21 (by decide) ?_
      exact w_retz C hE (Or.inl rfl) (⟨by simp [zb, isTn, c1, c2], rfl⟩) dM_isToken_22
    · refine lv_iconst (v := nI 1) hx hb dM_isToken_17 (by decide) ?_
      refine lv_goto (tgt := 22) hx hb dM_isToken_18 (by decide) ?_
      exact w_retz C hE (Or.inr rfl) (⟨by simp [zb, isTn, c1, c2], rfl⟩) dM_isToken_22
set_option maxHeartbeats 4000000 in
set_option maxRecDepth 100000 in
theorem c_M_throwsBy (l : Launch) (D : va_G) (cs : Nat → ClassId) (ad : Nat → Nat) (σ : Mem) (x : Nat) (hx9 : x < 3) : MetI l (wM D cs ad) cs yM_throwsBy bM_throwsBy 2 (some .boolean) 0 0 [.ref (ad 0), .int (nI x)] σ (fun r τ => r = zb (decide (0 < x)) ∧ τ = mset σ 0 2 (nI x)) := by
  refine MetI.start (by decide) (Nat.le_of_ble_eq_true rfl) ?_
  intro p e s m below meth c A ls C hk hA hE hl
  obtain ⟨hx, hb, hml, hown, hts, hr, hlocks⟩ := id C
  have hl : lv_has ls 2 [(0, .ref (ad 0)), (1, .int (nI x))] := hl
  refine lv_aload_n hx hb dM_throwsBy_0 rfl (lv_at hl 0 rfl) ?_
  refine lv_iload_n hx hb dM_throwsBy_1 rfl (lv_at hl 1 rfl) ?_
  refine w_put C hk hE (K := R_M) (T := F_M) (N := 17) (ci := 6) in_M ft_M_ok fn_M 0 (Nat.le_of_ble_eq_true rfl) rfl rfl 2 (by decide) tw_584 rfl rfl (rfl) (rfl) (Nat.le_of_ble_eq_true rfl) rfl dM_throwsBy_2 (fun H locs hE => ?_)
  refine lv_iload_n hx hb dM_throwsBy_5 rfl (lv_at hl 1 rfl) ?_
  refine lv_if_le (tgt := 13) hx hb dM_throwsBy_6 (by decide) (fun c1 => ?_) (fun c1 => ?_)
  · have c1 := w_le0 (by omega) c1
    refine lv_iconst (v := nI 0) hx hb dM_throwsBy_13 (by decide) ?_
    exact w_retz C hE (Or.inl rfl) (⟨by simp [zb, c1], rfl⟩) dM_throwsBy_14
  · have c1 := w_nle0 (by omega) c1
    refine lv_iconst (v := nI 1) hx hb dM_throwsBy_9 (by decide) ?_
    refine lv_goto (tgt := 14) hx hb dM_throwsBy_10 (by decide) ?_
    exact w_retz C hE (Or.inr rfl) (⟨by simp [zb, c1], rfl⟩) dM_throwsBy_14
set_option maxHeartbeats 4000000 in
set_option maxRecDepth 100000 in
theorem c_M_put (l : Launch) (D : va_G) (cs : Nat → ClassId) (ad : Nat → Nat) (σ : Mem) (k p9 d9 o9 : Nat) (hk9 : k < 9) (hp8 : p9 < 8) (hd5 : d9 < 5) (ho9 : o9 < 9) : MetV l (wM D cs ad) cs yM_put bM_put 6 0 0 [.ref (ad 0), .int (nI k), .int (nI p9), .int (nI d9), .int (nI o9)] σ (fun τ => τ = mhc σ (putH (σ 5, σ 0 10) (ix k p9 d9 o9))) := by
  refine MetV.start (by decide) (Nat.le_of_ble_eq_true rfl) ?_
  intro p e s m below meth c A ls C hk hA hE hl
  obtain ⟨hx, hb, hml, hown, hts, hr, hlocks⟩ := id C
  have hl : lv_has ls 6 [(0, .ref (ad 0)), (1, .int (nI k)), (2, .int (nI p9)), (3, .int (nI d9)), (4, .int (nI o9))] := hl
  have hix := ix_lt hk9 hp8 hd5 ho9
  refine lv_sipush (v := nI 360) hx hb dM_put_0 (by decide) ?_
  refine lv_iload_n hx hb dM_put_3 rfl (lv_at hl 1 rfl) ?_
  refine lv_imul hx hb dM_put_4 ?_
  refine w_top (y := nI (360 * k)) (by exact pk_mul _ _) ?_
  refine lv_bipush (v := nI 45) hx hb dM_put_5 (by decide) ?_
  refine lv_iload_n hx hb dM_put_7 rfl (lv_at hl 2 rfl) ?_
  refine lv_imul hx hb dM_put_8 ?_
  refine w_top (y := nI (45 * p9)) (by exact pk_mul _ _) ?_
  refine lv_iadd hx hb dM_put_9 ?_
  refine w_top (y := nI ((360 * k) + (45 * p9))) (by first | exact nI_add _ _ | simp only [nI_add, Nat.add_assoc, Nat.add_zero, Nat.zero_add]) ?_
  refine lv_bipush (v := nI 9) hx hb dM_put_10 (by decide) ?_
  refine lv_iload_n hx hb dM_put_12 rfl (lv_at hl 3 rfl) ?_
  refine lv_imul hx hb dM_put_13 ?_
  refine w_top (y := nI (9 * d9)) (by exact pk_mul _ _) ?_
  refine lv_iadd hx hb dM_put_14 ?_
  refine w_top (y := nI (((360 * k) + (45 * p9)) + (9 * d9))) (by first | exact nI_add _ _ | simp only [nI_add, Nat.add_assoc, Nat.add_zero, Nat.zero_add]) ?_
  refine lv_iload hx hb dM_put_15 (lv_at hl 4 rfl) ?_
  refine lv_iadd hx hb dM_put_17 ?_
  refine w_top (y := nI ((((360 * k) + (45 * p9)) + (9 * d9)) + o9)) (by first | exact nI_add _ _ | simp only [nI_add, Nat.add_assoc, Nat.add_zero, Nat.zero_add]) ?_
  refine w_top (y := nI (ix k p9 d9 o9)) (by unfold ix; first | rfl | (congr 1; omega)) ?_
  refine lv_istore (lv' := [(5, .int (nI (ix k p9 d9 o9))), (0, .ref (ad 0)), (1, .int (nI k)), (2, .int (nI p9)), (3, .int (nI d9)), (4, .int (nI o9))]) hx hb dM_put_18 hl (by decide) rfl (fun ls hl => ?_)
  refine lv_aload_n hx hb dM_put_20 rfl (lv_at hl 1 rfl) ?_
  refine lv_aload_n hx hb dM_put_21 rfl (lv_at hl 1 rfl) ?_
  refine w_get C hk hE (K := R_M) (T := F_M) (N := 17) (ci := 6) in_M 0 (Nat.le_of_ble_eq_true rfl) rfl rfl 10 (by decide) tw_592 rfl rfl dM_put_22 ?_
  refine lv_if_ne (tgt := 38) hx hb dM_put_25 (by decide) (fun c1 => ?_) (fun c1 => ?_)
  · refine lv_iconst (v := nI 1) hx hb dM_put_38 (by decide) ?_
    refine lv_goto (tgt := 43) hx hb dM_put_39 (by decide) ?_
    refine w_put C hk hE (K := R_M) (T := F_M) (N := 17) (ci := 6) in_M ft_M_ok fn_M 0 (Nat.le_of_ble_eq_true rfl) rfl rfl 10 (by decide) tw_592 rfl rfl (rfl) (rfl) (Nat.le_of_ble_eq_true rfl) rfl dM_put_43 (fun H locs hE => ?_)
    refine lv_aload_n hx hb dM_put_46 rfl (lv_at hl 1 rfl) ?_
    refine w_get C hk hE (K := R_M) (T := F_M) (N := 17) (ci := 6) in_M 0 (Nat.le_of_ble_eq_true rfl) rfl rfl 9 (by decide) tw_591 rfl rfl dM_put_47 ?_
    refine lv_iload hx hb dM_put_50 (lv_at hl 0 rfl) ?_
    refine lv_iconst (v := nI 1) hx hb dM_put_52 (by decide) ?_
    refine w_zast C hk hE 5 (Nat.le_of_ble_eq_true rfl) (n := 3240) (fun _ => rfl) (by omega) (by decide) (by first | exact Or.inl rfl | exact Or.inr rfl) dM_put_53 (fun H locs hE => ?_)
    exact w_retv C hE (by simp only [putH, mhc, c1, decide_true, decide_false, Bool.not_true, Bool.not_false, Bool.or_true, Bool.true_or, Bool.or_false, Bool.false_or, zb_t, zb_f]; rw [mset_def, mset_n (by decide)]) dM_put_54
  · refine lv_aload_n hx hb dM_put_28 rfl (lv_at hl 1 rfl) ?_
    refine w_get C hk hE (K := R_M) (T := F_M) (N := 17) (ci := 6) in_M 0 (Nat.le_of_ble_eq_true rfl) rfl rfl 9 (by decide) tw_591 rfl rfl dM_put_29 ?_
    refine lv_iload hx hb dM_put_32 (lv_at hl 0 rfl) ?_
    refine w_zald C hk hE 5 (by exact Nat.le_of_ble_eq_true rfl) (n := 3240) rfl (by omega) (by first | decide | omega) dM_put_34 ?_
    refine lv_if_ne (tgt := 42) hx hb dM_put_35 (by decide) (fun c2 => ?_) (fun c2 => ?_)
    · refine lv_iconst (v := nI 0) hx hb dM_put_42 (by decide) ?_
      refine w_put C hk hE (K := R_M) (T := F_M) (N := 17) (ci := 6) in_M ft_M_ok fn_M 0 (Nat.le_of_ble_eq_true rfl) rfl rfl 10 (by decide) tw_592 rfl rfl (rfl) (rfl) (Nat.le_of_ble_eq_true rfl) rfl dM_put_43 (fun H locs hE => ?_)
      refine lv_aload_n hx hb dM_put_46 rfl (lv_at hl 1 rfl) ?_
      refine w_get C hk hE (K := R_M) (T := F_M) (N := 17) (ci := 6) in_M 0 (Nat.le_of_ble_eq_true rfl) rfl rfl 9 (by decide) tw_591 rfl rfl dM_put_47 ?_
      refine lv_iload hx hb dM_put_50 (lv_at hl 0 rfl) ?_
      refine lv_iconst (v := nI 1) hx hb dM_put_52 (by decide) ?_
      refine w_zast C hk hE 5 (Nat.le_of_ble_eq_true rfl) (n := 3240) (fun _ => rfl) (by omega) (by decide) (by first | exact Or.inl rfl | exact Or.inr rfl) dM_put_53 (fun H locs hE => ?_)
      exact w_retv C hE (by simp only [putH, mhc, c1, c2, decide_true, decide_false, Bool.not_true, Bool.not_false, Bool.or_true, Bool.true_or, Bool.or_false, Bool.false_or, zb_t, zb_f]; rw [mset_def, mset_n (by decide)]) dM_put_54
    · refine lv_iconst (v := nI 1) hx hb dM_put_38 (by decide) ?_
      refine lv_goto (tgt := 43) hx hb dM_put_39 (by decide) ?_
      refine w_put C hk hE (K := R_M) (T := F_M) (N := 17) (ci := 6) in_M ft_M_ok fn_M 0 (Nat.le_of_ble_eq_true rfl) rfl rfl 10 (by decide) tw_592 rfl rfl (rfl) (rfl) (Nat.le_of_ble_eq_true rfl) rfl dM_put_43 (fun H locs hE => ?_)
      refine lv_aload_n hx hb dM_put_46 rfl (lv_at hl 1 rfl) ?_
      refine w_get C hk hE (K := R_M) (T := F_M) (N := 17) (ci := 6) in_M 0 (Nat.le_of_ble_eq_true rfl) rfl rfl 9 (by decide) tw_591 rfl rfl dM_put_47 ?_
      refine lv_iload hx hb dM_put_50 (lv_at hl 0 rfl) ?_
      refine lv_iconst (v := nI 1) hx hb dM_put_52 (by decide) ?_
      refine w_zast C hk hE 5 (Nat.le_of_ble_eq_true rfl) (n := 3240) (fun _ => rfl) (by omega) (by decide) (by first | exact Or.inl rfl | exact Or.inr rfl) dM_put_53 (fun H locs hE => ?_)
      exact w_retv C hE (by simp only [putH, mhc, c1, c2, decide_true, decide_false, Bool.not_true, Bool.not_false, Bool.or_true, Bool.true_or, Bool.or_false, Bool.false_or, zb_t, zb_f]; rw [mset_def, mset_n (by decide)]) dM_put_54
set_option maxHeartbeats 4000000 in
set_option maxRecDepth 100000 in
theorem c_M_isIn (l : Launch) (D : va_G) (cs : Nat → ClassId) (ad : Nat → Nat) (σ : Mem) (k p9 d9 o9 : Nat) (hk9 : k < 9) (hp8 : p9 < 8) (hd5 : d9 < 5) (ho9 : o9 < 9) (hb9 : σ 5 (ix k p9 d9 o9) = 0 ∨ σ 5 (ix k p9 d9 o9) = 1) : MetI l (wM D cs ad) cs yM_isIn bM_isIn 5 (some .boolean) 0 0 [.ref (ad 0), .int (nI k), .int (nI p9), .int (nI d9), .int (nI o9)] σ (fun r τ => r = σ 5 (ix k p9 d9 o9) ∧ τ = σ) := by
  refine MetI.start (by decide) (Nat.le_of_ble_eq_true rfl) ?_
  intro p e s m below meth c A ls C hk hA hE hl
  obtain ⟨hx, hb, hml, hown, hts, hr, hlocks⟩ := id C
  have hl : lv_has ls 5 [(0, .ref (ad 0)), (1, .int (nI k)), (2, .int (nI p9)), (3, .int (nI d9)), (4, .int (nI o9))] := hl
  have hix := ix_lt hk9 hp8 hd5 ho9
  refine lv_aload_n hx hb dM_isIn_0 rfl (lv_at hl 0 rfl) ?_
  refine w_get C hk hE (K := R_M) (T := F_M) (N := 17) (ci := 6) in_M 0 (Nat.le_of_ble_eq_true rfl) rfl rfl 9 (by decide) tw_591 rfl rfl dM_isIn_1 ?_
  refine lv_sipush (v := nI 360) hx hb dM_isIn_4 (by decide) ?_
  refine lv_iload_n hx hb dM_isIn_7 rfl (lv_at hl 1 rfl) ?_
  refine lv_imul hx hb dM_isIn_8 ?_
  refine w_top (y := nI (360 * k)) (by exact pk_mul _ _) ?_
  refine lv_bipush (v := nI 45) hx hb dM_isIn_9 (by decide) ?_
  refine lv_iload_n hx hb dM_isIn_11 rfl (lv_at hl 2 rfl) ?_
  refine lv_imul hx hb dM_isIn_12 ?_
  refine w_top (y := nI (45 * p9)) (by exact pk_mul _ _) ?_
  refine lv_iadd hx hb dM_isIn_13 ?_
  refine w_top (y := nI ((360 * k) + (45 * p9))) (by first | exact nI_add _ _ | simp only [nI_add, Nat.add_assoc, Nat.add_zero, Nat.zero_add]) ?_
  refine lv_bipush (v := nI 9) hx hb dM_isIn_14 (by decide) ?_
  refine lv_iload_n hx hb dM_isIn_16 rfl (lv_at hl 3 rfl) ?_
  refine lv_imul hx hb dM_isIn_17 ?_
  refine w_top (y := nI (9 * d9)) (by exact pk_mul _ _) ?_
  refine lv_iadd hx hb dM_isIn_18 ?_
  refine w_top (y := nI (((360 * k) + (45 * p9)) + (9 * d9))) (by first | exact nI_add _ _ | simp only [nI_add, Nat.add_assoc, Nat.add_zero, Nat.zero_add]) ?_
  refine lv_iload hx hb dM_isIn_19 (lv_at hl 4 rfl) ?_
  refine lv_iadd hx hb dM_isIn_21 ?_
  refine w_top (y := nI ((((360 * k) + (45 * p9)) + (9 * d9)) + o9)) (by first | exact nI_add _ _ | simp only [nI_add, Nat.add_assoc, Nat.add_zero, Nat.zero_add]) ?_
  refine w_top (y := nI (ix k p9 d9 o9)) (by unfold ix; first | rfl | (congr 1; omega)) ?_
  refine w_zald C hk hE 5 (by exact Nat.le_of_ble_eq_true rfl) (n := 3240) rfl (by omega) (by first | decide | omega) dM_isIn_22 ?_
  exact w_retz C hE hb9 (⟨rfl, rfl⟩) dM_isIn_23
set_option maxHeartbeats 4000000 in
set_option maxRecDepth 100000 in
theorem c_M_behind (l : Launch) (D : va_G) (cs : Nat → ClassId) (ad : Nat → Nat) (σ : Mem) (P p9 d9 : Nat) (hg : mG σ P) (hp : p9 < P) (hd : d9 < 2 ^ 30) : MetI l (wM D cs ad) cs yM_behind bM_behind 3 (some .int) 0 0 [.ref (ad 0), .int (nI p9), .int (nI d9)] σ (fun r τ => r = bhF σ p9 d9 ∧ τ = σ) := by
  refine MetI.start (by decide) (Nat.le_of_ble_eq_true rfl) ?_
  intro p e s m below meth c A ls C hk hA hE hl
  obtain ⟨hx, hb, hml, hown, hts, hr, hlocks⟩ := id C
  have hl : lv_has ls 3 [(0, .ref (ad 0)), (1, .int (nI p9)), (2, .int (nI d9))] := hl
  have hP8 := hg.1
  obtain ⟨h1, h1b, h2, h2b, h3⟩ := hg.2.2 p9 hp
  refine lv_iload_n hx hb dM_behind_0 rfl (lv_at hl 2 rfl) ?_
  refine lv_aload_n hx hb dM_behind_1 rfl (lv_at hl 0 rfl) ?_
  refine w_get C hk hE (K := R_M) (T := F_M) (N := 17) (ci := 6) in_M 0 (Nat.le_of_ble_eq_true rfl) rfl rfl 5 (by decide) tw_587 rfl rfl dM_behind_2 ?_
  refine lv_iload_n hx hb dM_behind_5 rfl (lv_at hl 1 rfl) ?_
  refine w_iald C hk hE 2 (by exact Nat.le_of_ble_eq_true rfl) (n := 8) rfl (by omega) (by first | decide | omega) dM_behind_6 ?_
  refine w_top (y := nI (mn σ p9)) (h2) ?_
  refine lv_icmp_ge (tgt := 23) hx hb dM_behind_7 (by decide) (fun c1 => ?_) (fun c1 => ?_)
  · have c1 : (mn σ p9) ≤ d9 := (nI_leI (by omega) (by omega)).mp c1
    refine lv_iconst (v := (-1)) hx hb dM_behind_23 (by decide) ?_
    exact w_reti C hE (⟨by rw [bhF]; first | rw [if_pos (by omega)] | rw [if_neg (by omega)], rfl⟩) dM_behind_24
  · have c1 : ¬ ((mn σ p9) ≤ d9) := fun h => c1 ((nI_leI (by omega) (by omega)).mpr h)
    refine lv_aload_n hx hb dM_behind_10 rfl (lv_at hl 0 rfl) ?_
    refine w_get C hk hE (K := R_M) (T := F_M) (N := 17) (ci := 6) in_M 0 (Nat.le_of_ble_eq_true rfl) rfl rfl 6 (by decide) tw_588 rfl rfl dM_behind_11 ?_
    refine lv_iconst (v := nI 4) hx hb dM_behind_14 (by decide) ?_
    refine lv_iload_n hx hb dM_behind_15 rfl (lv_at hl 1 rfl) ?_
    refine lv_imul hx hb dM_behind_16 ?_
    refine w_top (y := nI (4 * p9)) (by exact pk_mul _ _) ?_
    refine lv_iload_n hx hb dM_behind_17 rfl (lv_at hl 2 rfl) ?_
    refine lv_iadd hx hb dM_behind_18 ?_
    refine w_top (y := nI ((4 * p9) + d9)) (by first | exact nI_add _ _ | simp only [nI_add, Nat.add_assoc, Nat.add_zero, Nat.zero_add]) ?_
    refine w_iald C hk hE 3 (by exact Nat.le_of_ble_eq_true rfl) (n := 32) rfl (by omega) (by first | decide | omega) dM_behind_19 ?_
    refine lv_goto (tgt := 24) hx hb dM_behind_20 (by decide) ?_
    exact w_reti C hE (⟨by rw [bhF]; first | rw [if_pos (by omega)] | rw [if_neg (by omega)], rfl⟩) dM_behind_24
set_option maxHeartbeats 4000000 in
set_option maxRecDepth 100000 in
theorem lp_M_sizeOf {p : Program} {l : Launch} {e : Env} {s : State} {m : MethodId} {below : List Frame} {meth : Method} {c : Code} {D : va_G} {cs : Nat → ClassId} {ad : Nat → Nat} {A : Nat → Prop} {σ : Mem} {k : Nat} (C : bC p s m ([.ref (ad 0), .int (nI k)] : List Value).toArray meth c bM_sizeOf 4 "EarleyChartModel" (some .int)) (hk : wk D cs s) (hA : ∀ q : Nat, s.heap.size ≤ q → A q) (hk9 : k < 9)   :
    ∀ (n : Nat) (i : Nat), (360 - i) < n → (i ≤ 360) → ∀ (H : Heap) (locs : List Loc) (ls : Array Slot), wS (wM D cs ad) A s.heap σ H locs → lv_has ls 4 [(0, .ref (ad 0)), (1, .int (nI k)), (2, .int (nI (cntH (σ 5) (360 * k) i))), (3, .int (nI i))] → W p l e (rmF 0 0) s m ([.ref (ad 0), .int (nI k)] : List Value).toArray below meth c H locs 0 0 (wQi (wM D cs ad) A (fun r τ => r = nI (cntH (σ 5) (360 * k) 360) ∧ τ = σ) s below ([.ref (ad 0), .int (nI k)] : List Value).toArray) (F0 m 4 ls []) := by
  obtain ⟨hx, hb, hml, hown, hts, hr, hlocks⟩ := id C
  intro n
  induction n with
  | zero => intro i h; exact absurd h (Nat.not_lt_zero _)
  | succ n ih =>
    intro i hn hi H locs ls hE hl
    refine lv_iload_n hx hb dM_sizeOf_4 rfl (lv_at hl 3 rfl) ?_
    refine lv_sipush (v := nI 360) hx hb dM_sizeOf_5 (by decide) ?_
    refine lv_icmp_ge (tgt := 40) hx hb dM_sizeOf_8 (by decide) (fun c1 => ?_) (fun c1 => ?_)
    · have c1 : 360 ≤ i := (nI_leI (by omega) (by omega)).mp c1
      refine lv_iload_n hx hb dM_sizeOf_40 rfl (lv_at hl 2 rfl) ?_
      exact w_reti C hE (⟨by rw [show 360 = i by omega], rfl⟩) dM_sizeOf_41
    · have c1 : ¬ (360 ≤ i) := fun h => c1 ((nI_leI (by omega) (by omega)).mpr h)
      refine lv_aload_n hx hb dM_sizeOf_11 rfl (lv_at hl 0 rfl) ?_
      refine w_get C hk hE (K := R_M) (T := F_M) (N := 17) (ci := 6) in_M 0 (Nat.le_of_ble_eq_true rfl) rfl rfl 9 (by decide) tw_591 rfl rfl dM_sizeOf_12 ?_
      refine lv_sipush (v := nI 360) hx hb dM_sizeOf_15 (by decide) ?_
      refine lv_iload_n hx hb dM_sizeOf_18 rfl (lv_at hl 1 rfl) ?_
      refine lv_imul hx hb dM_sizeOf_19 ?_
      refine w_top (y := nI (360 * k)) (by exact pk_mul _ _) ?_
      refine lv_iload_n hx hb dM_sizeOf_20 rfl (lv_at hl 3 rfl) ?_
      refine lv_iadd hx hb dM_sizeOf_21 ?_
      refine w_top (y := nI ((360 * k) + i)) (by first | exact nI_add _ _ | simp only [nI_add, Nat.add_assoc, Nat.add_zero, Nat.zero_add]) ?_
      refine w_zald C hk hE 5 (by exact Nat.le_of_ble_eq_true rfl) (n := 3240) rfl (by omega) (by first | decide | omega) dM_sizeOf_22 ?_
      refine lv_if_eq (tgt := 32) hx hb dM_sizeOf_23 (by decide) (fun c2 => ?_) (fun c2 => ?_)
      · refine lv_iload_n hx hb dM_sizeOf_32 rfl (lv_at hl 2 rfl) ?_
        refine lv_istore_n (lv' := [(2, .int (nI (cntH (σ 5) (360 * k) i))), (0, .ref (ad 0)), (1, .int (nI k)), (3, .int (nI i))]) hx hb dM_sizeOf_33 rfl hl (by decide) rfl (fun ls hl => ?_)
        refine lv_iinc (v := nI (i + 1)) (lv' := [(3, .int (nI (i + 1))), (2, .int (nI (cntH (σ 5) (360 * k) i))), (0, .ref (ad 0)), (1, .int (nI k))]) hx hb dM_sizeOf_34 hl (k := 3) rfl (by exact nI_1 _) (by decide) rfl (fun ls hl => ?_)
        refine lv_goto (tgt := 4) hx hb dM_sizeOf_37 (by decide) ?_
        have ev3 : (nI (cntH (σ 5) (360 * k) i) : Int32) = nI (cntH (σ 5) (360 * k) (i + 1)) := by simp only [cntH, c2, if_true, if_false]
        rw [ev3] at hl
        exact ih (i + 1) (by omega) (by omega) _ _ ls hE (lv_sub hl [2, 3, 1, 0] rfl)
      · refine lv_iload_n hx hb dM_sizeOf_26 rfl (lv_at hl 2 rfl) ?_
        refine lv_iconst (v := nI 1) hx hb dM_sizeOf_27 (by decide) ?_
        refine lv_iadd hx hb dM_sizeOf_28 ?_
        refine w_top (y := nI ((cntH (σ 5) (360 * k) i) + 1)) (by first | exact nI_add _ _ | simp only [nI_add, Nat.add_assoc, Nat.add_zero, Nat.zero_add]) ?_
        refine lv_goto (tgt := 33) hx hb dM_sizeOf_29 (by decide) ?_
        refine lv_istore_n (lv' := [(2, .int (nI ((cntH (σ 5) (360 * k) i) + 1))), (0, .ref (ad 0)), (1, .int (nI k)), (3, .int (nI i))]) hx hb dM_sizeOf_33 rfl hl (by decide) rfl (fun ls hl => ?_)
        refine lv_iinc (v := nI (i + 1)) (lv' := [(3, .int (nI (i + 1))), (2, .int (nI ((cntH (σ 5) (360 * k) i) + 1))), (0, .ref (ad 0)), (1, .int (nI k))]) hx hb dM_sizeOf_34 hl (k := 3) rfl (by exact nI_1 _) (by decide) rfl (fun ls hl => ?_)
        refine lv_goto (tgt := 4) hx hb dM_sizeOf_37 (by decide) ?_
        have ev4 : (nI ((cntH (σ 5) (360 * k) i) + 1) : Int32) = nI (cntH (σ 5) (360 * k) (i + 1)) := by simp only [cntH, c2, if_true, if_false]
        rw [ev4] at hl
        exact ih (i + 1) (by omega) (by omega) _ _ ls hE (lv_sub hl [2, 3, 1, 0] rfl)
set_option maxHeartbeats 4000000 in
set_option maxRecDepth 100000 in
theorem c_M_sizeOf (l : Launch) (D : va_G) (cs : Nat → ClassId) (ad : Nat → Nat) (σ : Mem) (k : Nat) (hk9 : k < 9) : MetI l (wM D cs ad) cs yM_sizeOf bM_sizeOf 4 (some .int) 0 0 [.ref (ad 0), .int (nI k)] σ (fun r τ => r = nI (cntH (σ 5) (360 * k) 360) ∧ τ = σ) := by
  refine MetI.start (by decide) (Nat.le_of_ble_eq_true rfl) ?_
  intro p e s m below meth c A ls C hk hA hE hl
  obtain ⟨hx, hb, hml, hown, hts, hr, hlocks⟩ := id C
  have hl : lv_has ls 4 [(0, .ref (ad 0)), (1, .int (nI k))] := hl
  refine lv_iconst (v := nI 0) hx hb dM_sizeOf_0 (by decide) ?_
  refine lv_istore_n (lv' := [(2, .int (nI 0)), (0, .ref (ad 0)), (1, .int (nI k))]) hx hb dM_sizeOf_1 rfl hl (by decide) rfl (fun ls hl => ?_)
  refine lv_iconst (v := nI 0) hx hb dM_sizeOf_2 (by decide) ?_
  refine lv_istore_n (lv' := [(3, .int (nI 0)), (2, .int (nI 0)), (0, .ref (ad 0)), (1, .int (nI k))]) hx hb dM_sizeOf_3 rfl hl (by decide) rfl (fun ls hl => ?_)
  have ev1 : (nI 0 : Int32) = nI (cntH (σ 5) (360 * k) 0) := by rfl
  rw [ev1] at hl
  exact lp_M_sizeOf C hk hA hk9 _ 0 (Nat.lt_succ_self _) (by decide) _ _ ls hE (lv_sub hl [2, 3, 1, 0] rfl)
set_option maxHeartbeats 4000000 in
set_option maxRecDepth 100000 in
theorem lp_M_allLengths {p : Program} {l : Launch} {e : Env} {s : State} {m : MethodId} {below : List Frame} {meth : Method} {c : Code} {D : va_G} {cs : Nat → ClassId} {ad : Nat → Nat} {A : Nat → Prop} {σ : Mem} {P : Nat} (C : bC p s m ([.ref (ad 0)] : List Value).toArray meth c bM_allLengths 3 "EarleyChartModel" (some .int)) (hk : wk D cs s) (hA : ∀ q : Nat, s.heap.size ≤ q → A q) (hg : mG σ P)   :
    ∀ (n : Nat) (i : Nat), (P - i) < n → (i ≤ P) → ∀ (H : Heap) (locs : List Loc) (ls : Array Slot), wS (wM D cs ad) A s.heap σ H locs → lv_has ls 3 [(0, .ref (ad 0)), (1, .int (nI (allN (mn σ) i))), (2, .int (nI i))] → W p l e (rmF 0 0) s m ([.ref (ad 0)] : List Value).toArray below meth c H locs 0 0 (wQi (wM D cs ad) A (fun r τ => r = nI (allN (mn σ) P) ∧ τ = σ) s below ([.ref (ad 0)] : List Value).toArray) (F0 m 4 ls []) := by
  obtain ⟨hx, hb, hml, hown, hts, hr, hlocks⟩ := id C
  have hP8 := hg.1
  intro n
  induction n with
  | zero => intro i h; exact absurd h (Nat.not_lt_zero _)
  | succ n ih =>
    intro i hn hi H locs ls hE hl
    refine lv_iload_n hx hb dM_allLengths_4 rfl (lv_at hl 2 rfl) ?_
    refine lv_aload_n hx hb dM_allLengths_5 rfl (lv_at hl 0 rfl) ?_
    refine w_get C hk hE (K := R_M) (T := F_M) (N := 17) (ci := 6) in_M 0 (Nat.le_of_ble_eq_true rfl) rfl rfl 3 (by decide) tw_585 rfl rfl dM_allLengths_6 ?_
    refine w_top (y := nI P) (hg.2.1) ?_
    refine lv_icmp_ge (tgt := 27) hx hb dM_allLengths_9 (by decide) (fun c1 => ?_) (fun c1 => ?_)
    · have c1 : P ≤ i := (nI_leI (by omega) (by omega)).mp c1
      refine lv_iload_n hx hb dM_allLengths_27 rfl (lv_at hl 1 rfl) ?_
      exact w_reti C hE (⟨by rw [show P = i by omega], rfl⟩) dM_allLengths_28
    · have c1 : ¬ (P ≤ i) := fun h => c1 ((nI_leI (by omega) (by omega)).mpr h)
      refine lv_iload_n hx hb dM_allLengths_12 rfl (lv_at hl 1 rfl) ?_
      refine lv_aload_n hx hb dM_allLengths_13 rfl (lv_at hl 0 rfl) ?_
      refine w_get C hk hE (K := R_M) (T := F_M) (N := 17) (ci := 6) in_M 0 (Nat.le_of_ble_eq_true rfl) rfl rfl 5 (by decide) tw_587 rfl rfl dM_allLengths_14 ?_
      refine lv_iload_n hx hb dM_allLengths_17 rfl (lv_at hl 2 rfl) ?_
      refine w_iald C hk hE 2 (by exact Nat.le_of_ble_eq_true rfl) (n := 8) rfl (by omega) (by first | decide | omega) dM_allLengths_18 ?_
      refine w_top (y := nI (mn σ i)) ((hg.2.2 i (by omega)).2.2.1) ?_
      refine lv_iadd hx hb dM_allLengths_19 ?_
      refine w_top (y := nI ((allN (mn σ) i) + (mn σ i))) (by first | exact nI_add _ _ | simp only [nI_add, Nat.add_assoc, Nat.add_zero, Nat.zero_add]) ?_
      refine lv_istore_n (lv' := [(1, .int (nI ((allN (mn σ) i) + (mn σ i)))), (0, .ref (ad 0)), (2, .int (nI i))]) hx hb dM_allLengths_20 rfl hl (by decide) rfl (fun ls hl => ?_)
      refine lv_iinc (v := nI (i + 1)) (lv' := [(2, .int (nI (i + 1))), (1, .int (nI ((allN (mn σ) i) + (mn σ i)))), (0, .ref (ad 0))]) hx hb dM_allLengths_21 hl (k := 2) rfl (by exact nI_1 _) (by decide) rfl (fun ls hl => ?_)
      refine lv_goto (tgt := 4) hx hb dM_allLengths_24 (by decide) ?_
      have ev2 : (nI ((allN (mn σ) i) + (mn σ i)) : Int32) = nI (allN (mn σ) (i + 1)) := by rfl
      rw [ev2] at hl
      exact ih (i + 1) (by omega) (by omega) _ _ ls hE (lv_sub hl [2, 1, 0] rfl)
set_option maxHeartbeats 4000000 in
set_option maxRecDepth 100000 in
theorem c_M_allLengths (l : Launch) (D : va_G) (cs : Nat → ClassId) (ad : Nat → Nat) (σ : Mem) (P : Nat) (hg : mG σ P) : MetI l (wM D cs ad) cs yM_allLengths bM_allLengths 3 (some .int) 0 0 [.ref (ad 0)] σ (fun r τ => r = nI (allN (mn σ) P) ∧ τ = σ) := by
  refine MetI.start (by decide) (Nat.le_of_ble_eq_true rfl) ?_
  intro p e s m below meth c A ls C hk hA hE hl
  obtain ⟨hx, hb, hml, hown, hts, hr, hlocks⟩ := id C
  have hl : lv_has ls 3 [(0, .ref (ad 0))] := hl
  have hP8 := hg.1
  refine lv_iconst (v := nI 0) hx hb dM_allLengths_0 (by decide) ?_
  refine lv_istore_n (lv' := [(1, .int (nI 0)), (0, .ref (ad 0))]) hx hb dM_allLengths_1 rfl hl (by decide) rfl (fun ls hl => ?_)
  refine lv_iconst (v := nI 0) hx hb dM_allLengths_2 (by decide) ?_
  refine lv_istore_n (lv' := [(2, .int (nI 0)), (1, .int (nI 0)), (0, .ref (ad 0))]) hx hb dM_allLengths_3 rfl hl (by decide) rfl (fun ls hl => ?_)
  have ev1 : (nI 0 : Int32) = nI (allN (mn σ) 0) := by rfl
  rw [ev1] at hl
  exact lp_M_allLengths C hk hA hg _ 0 (Nat.lt_succ_self _) (Nat.zero_le _) _ _ ls hE (lv_sub hl [2, 1, 0] rfl)
set_option maxHeartbeats 4000000 in
set_option maxRecDepth 100000 in
theorem c_M_witCount (l : Launch) (D : va_G) (cs : Nat → ClassId) (ad : Nat → Nat) (σ : Mem)  : MetI l (wM D cs ad) cs yM_witCount bM_witCount 1 (some .int) 0 0 [.ref (ad 0)] σ (fun r τ => r = σ 0 14 ∧ τ = mset σ 0 2 (nI 0)) := by
  refine MetI.start (by decide) (Nat.le_of_ble_eq_true rfl) ?_
  intro p e s m below meth c A ls C hk hA hE hl
  obtain ⟨hx, hb, hml, hown, hts, hr, hlocks⟩ := id C
  have hl : lv_has ls 1 [(0, .ref (ad 0))] := hl
  refine lv_aload_n hx hb dM_witCount_0 rfl (lv_at hl 0 rfl) ?_
  refine lv_iconst (v := nI 0) hx hb dM_witCount_1 (by decide) ?_
  refine w_put C hk hE (K := R_M) (T := F_M) (N := 17) (ci := 6) in_M ft_M_ok fn_M 0 (Nat.le_of_ble_eq_true rfl) rfl rfl 2 (by decide) tw_584 rfl rfl (rfl) (rfl) (Nat.le_of_ble_eq_true rfl) rfl dM_witCount_2 (fun H locs hE => ?_)
  refine lv_aload_n hx hb dM_witCount_5 rfl (lv_at hl 0 rfl) ?_
  refine w_get C hk hE (K := R_M) (T := F_M) (N := 17) (ci := 6) in_M 0 (Nat.le_of_ble_eq_true rfl) rfl rfl 14 (by decide) tw_596 rfl rfl dM_witCount_6 ?_
  refine w_top (y := σ 0 14) (by simp [mset, mrow, upd, mhc]) ?_
  exact w_reti C hE (⟨rfl, rfl⟩) dM_witCount_9
set_option maxHeartbeats 4000000 in
set_option maxRecDepth 100000 in
theorem c_M_fed (l : Launch) (D : va_G) (cs : Nat → ClassId) (ad : Nat → Nat) (σ : Mem)  : MetI l (wM D cs ad) cs yM_fed bM_fed 1 (some .int) 0 0 [.ref (ad 0)] σ (fun r τ => r = σ 0 7 ∧ τ = mset σ 0 2 (nI 0)) := by
  refine MetI.start (by decide) (Nat.le_of_ble_eq_true rfl) ?_
  intro p e s m below meth c A ls C hk hA hE hl
  obtain ⟨hx, hb, hml, hown, hts, hr, hlocks⟩ := id C
  have hl : lv_has ls 1 [(0, .ref (ad 0))] := hl
  refine lv_aload_n hx hb dM_fed_0 rfl (lv_at hl 0 rfl) ?_
  refine lv_iconst (v := nI 0) hx hb dM_fed_1 (by decide) ?_
  refine w_put C hk hE (K := R_M) (T := F_M) (N := 17) (ci := 6) in_M ft_M_ok fn_M 0 (Nat.le_of_ble_eq_true rfl) rfl rfl 2 (by decide) tw_584 rfl rfl (rfl) (rfl) (Nat.le_of_ble_eq_true rfl) rfl dM_fed_2 (fun H locs hE => ?_)
  refine lv_aload_n hx hb dM_fed_5 rfl (lv_at hl 0 rfl) ?_
  refine w_get C hk hE (K := R_M) (T := F_M) (N := 17) (ci := 6) in_M 0 (Nat.le_of_ble_eq_true rfl) rfl rfl 7 (by decide) tw_589 rfl rfl dM_fed_6 ?_
  refine w_top (y := σ 0 7) (by simp [mset, mrow, upd, mhc]) ?_
  exact w_reti C hE (⟨rfl, rfl⟩) dM_fed_9
set_option maxHeartbeats 4000000 in
set_option maxRecDepth 100000 in
theorem c_M_clear (l : Launch) (D : va_G) (cs : Nat → ClassId) (ad : Nat → Nat) (σ : Mem)  : MetI l (wM D cs ad) cs yM_clear bM_clear 2 (some .int) 0 0 [.ref (ad 0)] σ (fun r τ => r = σ 0 7 ∧ τ = mset (mset (mset (mset σ 0 2 (nI 0)) 0 7 (nI 0)) 0 14 (nI 0)) 0 12 (nI 0)) := by
  refine MetI.start (by decide) (Nat.le_of_ble_eq_true rfl) ?_
  intro p e s m below meth c A ls C hk hA hE hl
  obtain ⟨hx, hb, hml, hown, hts, hr, hlocks⟩ := id C
  have hl : lv_has ls 2 [(0, .ref (ad 0))] := hl
  refine lv_aload_n hx hb dM_clear_0 rfl (lv_at hl 0 rfl) ?_
  refine lv_iconst (v := nI 0) hx hb dM_clear_1 (by decide) ?_
  refine w_put C hk hE (K := R_M) (T := F_M) (N := 17) (ci := 6) in_M ft_M_ok fn_M 0 (Nat.le_of_ble_eq_true rfl) rfl rfl 2 (by decide) tw_584 rfl rfl (rfl) (rfl) (Nat.le_of_ble_eq_true rfl) rfl dM_clear_2 (fun H locs hE => ?_)
  refine lv_aload_n hx hb dM_clear_5 rfl (lv_at hl 0 rfl) ?_
  refine w_get C hk hE (K := R_M) (T := F_M) (N := 17) (ci := 6) in_M 0 (Nat.le_of_ble_eq_true rfl) rfl rfl 7 (by decide) tw_589 rfl rfl dM_clear_6 ?_
  refine w_top (y := σ 0 7) (by simp [mset, mrow, upd, mhc]) ?_
  refine lv_istore_n (lv' := [(1, .int (σ 0 7)), (0, .ref (ad 0))]) hx hb dM_clear_9 rfl hl (by decide) rfl (fun ls hl => ?_)
  refine lv_aload_n hx hb dM_clear_10 rfl (lv_at hl 1 rfl) ?_
  refine lv_iconst (v := nI 0) hx hb dM_clear_11 (by decide) ?_
  refine w_put C hk hE (K := R_M) (T := F_M) (N := 17) (ci := 6) in_M ft_M_ok fn_M 0 (Nat.le_of_ble_eq_true rfl) rfl rfl 7 (by decide) tw_589 rfl rfl (rfl) (rfl) (Nat.le_of_ble_eq_true rfl) rfl dM_clear_12 (fun H locs hE => ?_)
  refine lv_aload_n hx hb dM_clear_15 rfl (lv_at hl 1 rfl) ?_
  refine lv_iconst (v := nI 0) hx hb dM_clear_16 (by decide) ?_
  refine w_put C hk hE (K := R_M) (T := F_M) (N := 17) (ci := 6) in_M ft_M_ok fn_M 0 (Nat.le_of_ble_eq_true rfl) rfl rfl 14 (by decide) tw_596 rfl rfl (rfl) (rfl) (Nat.le_of_ble_eq_true rfl) rfl dM_clear_17 (fun H locs hE => ?_)
  refine lv_aload_n hx hb dM_clear_20 rfl (lv_at hl 1 rfl) ?_
  refine lv_iconst (v := nI 0) hx hb dM_clear_21 (by decide) ?_
  refine w_put C hk hE (K := R_M) (T := F_M) (N := 17) (ci := 6) in_M ft_M_ok fn_M 0 (Nat.le_of_ble_eq_true rfl) rfl rfl 12 (by decide) tw_594 rfl rfl (rfl) (rfl) (Nat.le_of_ble_eq_true rfl) rfl dM_clear_22 (fun H locs hE => ?_)
  refine lv_iload_n hx hb dM_clear_25 rfl (lv_at hl 0 rfl) ?_
  exact w_reti C hE (⟨rfl, rfl⟩) dM_clear_26
set_option maxHeartbeats 4000000 in
set_option maxRecDepth 100000 in
theorem c_M_alive (l : Launch) (D : va_G) (cs : Nat → ClassId) (ad : Nat → Nat) (σ : Mem) (n9 : Nat) (hn : σ 0 7 = nI n9) (hn8 : n9 ≤ 8) : MetI l (wM D cs ad) cs yM_alive bM_alive 1 (some .boolean) 1 23 [.ref (ad 0)] σ (fun r τ => r = zb (decide (0 < cntH (σ 5) (360 * n9) 360)) ∧ τ = mset σ 0 2 (nI 0)) := by
  refine MetI.start (by decide) (Nat.le_of_ble_eq_true rfl) ?_
  intro p e s m below meth c A ls C hk hA hE hl
  obtain ⟨hx, hb, hml, hown, hts, hr, hlocks⟩ := id C
  have hl : lv_has ls 1 [(0, .ref (ad 0))] := hl
  refine lv_aload_n hx hb dM_alive_0 rfl (lv_at hl 0 rfl) ?_
  refine lv_iconst (v := nI 0) hx hb dM_alive_1 (by decide) ?_
  refine w_put C hk hE (K := R_M) (T := F_M) (N := 17) (ci := 6) in_M ft_M_ok fn_M 0 (Nat.le_of_ble_eq_true rfl) rfl rfl 2 (by decide) tw_584 rfl rfl (rfl) (rfl) (Nat.le_of_ble_eq_true rfl) rfl dM_alive_2 (fun H locs hE => ?_)
  refine lv_aload_n hx hb dM_alive_5 rfl (lv_at hl 0 rfl) ?_
  refine lv_aload_n hx hb dM_alive_6 rfl (lv_at hl 0 rfl) ?_
  refine w_get C hk hE (K := R_M) (T := F_M) (N := 17) (ci := 6) in_M 0 (Nat.le_of_ble_eq_true rfl) rfl rfl 7 (by decide) tw_589 rfl rfl dM_alive_7 ?_
  refine w_top (y := σ 0 7) (by simp [mset, mrow, upd, mhc]) ?_
  refine w_top (y := nI n9) (hn) ?_
  refine w_ci hE hA (w_runV C hk hE hl.1 (As := [.int (nI n9)]) (rest := []) (q := 0) (c_M_sizeOf l D cs ad (mset σ 0 2 (nI 0)) n9 (by omega) _) (Nat.le_of_ble_eq_true rfl) (ci := 6) (N := 17) (T := F_M) rfl rfl tw_691 tw_693 ts_27 tw_9 tw_694 (n := 1) (by decide +kernel) rfl rfl (Nat.le_of_ble_eq_true rfl) dM_alive_10 ⟨Nat.le_of_ble_eq_true rfl, Nat.le_of_ble_eq_true rfl⟩ ⟨Nat.zero_le _, Nat.zero_le _⟩) (fun r1 τ2 H locs hp hE _ _ => ?_)
  refine w_top (y := nI (cntH (σ 5) (360 * n9) 360)) (hp.1.trans (by rw [mset_n (by decide)])) ?_
  have hE := wS_eq hp.2 hE
  have hcn := cntH_le (f := σ 5) (b := 360 * n9) 360
  refine lv_if_le (tgt := 20) hx hb dM_alive_13 (by decide) (fun c3 => ?_) (fun c3 => ?_)
  · have c3 := w_le0 (by omega) c3
    refine lv_iconst (v := nI 0) hx hb dM_alive_20 (by decide) ?_
    exact w_retz C hE (Or.inl rfl) (⟨by simp [zb, c3], rfl⟩) dM_alive_21
  · have c3 := w_nle0 (by omega) c3
    refine lv_iconst (v := nI 1) hx hb dM_alive_16 (by decide) ?_
    refine lv_goto (tgt := 21) hx hb dM_alive_17 (by decide) ?_
    exact w_retz C hE (Or.inr rfl) (⟨by simp [zb, c3], rfl⟩) dM_alive_21
