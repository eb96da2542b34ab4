set_option maxHeartbeats 4000000 in
set_option maxRecDepth 100000 in
theorem c_M_steps (l : Launch) (D : va_G) (cs : Nat → ClassId) (ad : Nat → Nat) (σ : Mem) (s9 r9 : Nat → Nat) (P n9 V9 T9 : Nat) (x z u : Int32) (hJ : mJ σ P n9 V9 T9 s9 r9) : MetI l (wM D cs ad) cs yM_steps bM_steps 6 (some .int) 3 76 [.ref (ad 0), .int x, .int z, .int u] (msr σ s9 r9) (fun r τ => ¬ (isVn V9 x = true ∨ isTn T9 x = true) ∧ r = nI 0 ∧ τ = mset (msr σ s9 r9) 0 2 (nI 1) ∨ (isVn V9 x = true ∨ isTn T9 x = true) ∧ strC n9 z u = false ∧ r = nI 0 ∧ τ = mset (msr σ s9 r9) 0 2 (nI 2) ∨ (isVn V9 x = true ∨ isTn T9 x = true) ∧ strC n9 z u = true ∧ ∃ κ s1 r1, wrkP (mset σ 0 2 (nI 0)) P n9 s9 r9 τ ∧ τ = msr κ s1 r1 ∧ leN s1 ∧ r = stpV κ s1 x.toNatClampNeg z.toNatClampNeg u.toNatClampNeg) := by
  refine MetI.start (by decide) (Nat.le_of_ble_eq_true rfl) ?_
  intro p e s m below meth c A ls C hk hA hE hl
  obtain ⟨hx, hb, hml, hown, hts, hr, hlocks⟩ := id C
  have hl : lv_has ls 6 [(0, .ref (ad 0)), (1, .int x), (2, .int z), (3, .int u)] := hl
  obtain ⟨hI, hs9, hr9⟩ := id hJ
  obtain ⟨hgσ, hn8, hn7, hvb, -, hV0, -, hT0⟩ := mI_of_msr hI
  obtain ⟨hg, -, -, -, hV6, hV, hT6, hT⟩ := id hI
  have hP8 := hg.1
  refine lv_aload_n hx hb dM_steps_0 rfl (lv_at hl 0 rfl) ?_
  refine lv_iload_n hx hb dM_steps_1 rfl (lv_at hl 1 rfl) ?_
  refine w_ci hE hA (w_runV C hk hE hl.1 (As := [.int x]) (rest := []) (q := 0) (c_M_isVariable l D cs ad (msr σ s9 r9) V9 x hV hV6 _) (Nat.le_of_ble_eq_true rfl) (ci := 6) (N := 17) (T := F_M) rfl rfl tw_643 tw_645 ts_17 tw_9 tw_646 (n := 1) (by decide +kernel) rfl rfl (Nat.le_of_ble_eq_true rfl) dM_steps_2 ⟨Nat.le_of_ble_eq_true rfl, Nat.le_of_ble_eq_true rfl⟩ ⟨Nat.zero_le _, Nat.zero_le _⟩) (fun r1 τ2 H locs hp hE _ _ => ?_)
  refine w_top hp.1 ?_
  have hE := wS_eq hp.2 hE
  refine lv_if_ne (tgt := 16) hx hb dM_steps_5 (by decide) (fun c3 => ?_) (fun c3 => ?_)
  · have c3 := zb_ne0 c3
    obtain ⟨hv1, hv2⟩ := isVn_of hV6 c3
    refine lv_iconst (v := nI 1) hx hb dM_steps_16 (by decide) ?_
    refine lv_goto (tgt := 21) hx hb dM_steps_17 (by decide) ?_
    refine lv_istore (lv' := [(4, .int (nI 1)), (0, .ref (ad 0)), (1, .int x), (2, .int z), (3, .int u)]) hx hb dM_steps_21 hl (by decide) rfl (fun ls hl => ?_)
    refine lv_aload_n hx hb dM_steps_23 rfl (lv_at hl 1 rfl) ?_
    refine lv_iload hx hb dM_steps_24 (lv_at hl 0 rfl) ?_
    refine lv_if_ne (tgt := 33) hx hb dM_steps_26 (by decide) (fun c4 => ?_) (fun c4 => ?_)
    · have c4 := w_n0 (by omega) c4
      refine lv_iload_n hx hb dM_steps_33 rfl (lv_at hl 3 rfl) ?_
      refine lv_if_lt (tgt := 50) hx hb dM_steps_34 (by decide) (fun c5 => ?_) (fun c5 => ?_)
      · refine lv_iconst (v := nI 2) hx hb dM_steps_50 (by decide) ?_
        refine lv_goto (tgt := 55) hx hb dM_steps_51 (by decide) ?_
        refine w_ci hE hA (w_runV C hk hE hl.1 (As := [.int (nI 2)]) (rest := []) (q := 0) (c_M_throwsBy l D cs ad (msr σ s9 r9) 2 (by decide) _) (Nat.le_of_ble_eq_true rfl) (ci := 6) (N := 17) (T := F_M) rfl rfl tw_647 tw_649 ts_18 tw_9 tw_650 (n := 1) (by decide +kernel) rfl rfl (Nat.le_of_ble_eq_true rfl) dM_steps_55 ⟨Nat.le_of_ble_eq_true rfl, Nat.le_of_ble_eq_true rfl⟩ ⟨Nat.zero_le _, Nat.zero_le _⟩) (fun r6 τ7 H locs hp hE _ _ => ?_)
        refine w_top (y := nI 1) (hp.1.trans rfl) ?_
        have hE := wS_eq hp.2 hE
        refine lv_if_eq (tgt := 63) hx hb dM_steps_58 (by decide) (fun c8 => ?_) (fun c8 => ?_)
        · have c8 := w_z0 (by omega) c8
          first | exact absurd c8 (by decide) | exact c8.elim | exact absurd rfl c8
        · have c8 := w_n0 (by omega) c8
          refine lv_iconst (v := nI 0) hx hb dM_steps_61 (by decide) ?_
          exact w_reti C hE (Or.inr (Or.inl ⟨Or.inl c3, by simp [strC, c5], rfl, rfl⟩)) dM_steps_62
      · have c9a := c5
        refine lv_iload_n hx hb dM_steps_37 rfl (lv_at hl 4 rfl) ?_
        refine lv_iload_n hx hb dM_steps_38 rfl (lv_at hl 3 rfl) ?_
        refine lv_icmp_lt (tgt := 50) hx hb dM_steps_39 (by decide) (fun c9 => ?_) (fun c9 => ?_)
        · refine lv_iconst (v := nI 2) hx hb dM_steps_50 (by decide) ?_
          refine lv_goto (tgt := 55) hx hb dM_steps_51 (by decide) ?_
          refine w_ci hE hA (w_runV C hk hE hl.1 (As := [.int (nI 2)]) (rest := []) (q := 0) (c_M_throwsBy l D cs ad (msr σ s9 r9) 2 (by decide) _) (Nat.le_of_ble_eq_true rfl) (ci := 6) (N := 17) (T := F_M) rfl rfl tw_647 tw_649 ts_18 tw_9 tw_650 (n := 1) (by decide +kernel) rfl rfl (Nat.le_of_ble_eq_true rfl) dM_steps_55 ⟨Nat.le_of_ble_eq_true rfl, Nat.le_of_ble_eq_true rfl⟩ ⟨Nat.zero_le _, Nat.zero_le _⟩) (fun r10 τ11 H locs hp hE _ _ => ?_)
          refine w_top (y := nI 1) (hp.1.trans rfl) ?_
          have hE := wS_eq hp.2 hE
          refine lv_if_eq (tgt := 63) hx hb dM_steps_58 (by decide) (fun c12 => ?_) (fun c12 => ?_)
          · have c12 := w_z0 (by omega) c12
            first | exact absurd c12 (by decide) | exact c12.elim | exact absurd rfl c12
          · have c12 := w_n0 (by omega) c12
            refine lv_iconst (v := nI 0) hx hb dM_steps_61 (by decide) ?_
            exact w_reti C hE (Or.inr (Or.inl ⟨Or.inl c3, by simp [strC, c9], rfl, rfl⟩)) dM_steps_62
        · have c9b := c9
          refine lv_iload_n hx hb dM_steps_42 rfl (lv_at hl 4 rfl) ?_
          refine lv_aload_n hx hb dM_steps_43 rfl (lv_at hl 1 rfl) ?_
          refine w_get C hk hE (K := R_M) (T := F_M) (N := 17) (ci := 6) in_M 0 (Nat.le_of_ble_eq_true rfl) rfl rfl 7 (by decide) tw_589 rfl rfl dM_steps_44 ?_
          refine w_top (y := σ 0 7) (by simp [mset, mrow, upd, mhc, msr, nR]) ?_
          refine w_top (y := nI n9) (hn7) ?_
          refine lv_icmp_le (tgt := 54) hx hb dM_steps_47 (by decide) (fun c13 => ?_) (fun c13 => ?_)
          · obtain ⟨hz1, hu1, hzu, hun⟩ := isKn_of2 hn8 c9a c9b c13
            refine lv_iconst (v := nI 0) hx hb dM_steps_54 (by decide) ?_
            refine w_ci hE hA (w_runV C hk hE hl.1 (As := [.int (nI 0)]) (rest := []) (q := 0) (c_M_throwsBy l D cs ad (msr σ s9 r9) 0 (by decide) _) (Nat.le_of_ble_eq_true rfl) (ci := 6) (N := 17) (T := F_M) rfl rfl tw_647 tw_649 ts_18 tw_9 tw_650 (n := 1) (by decide +kernel) rfl rfl (Nat.le_of_ble_eq_true rfl) dM_steps_55 ⟨Nat.le_of_ble_eq_true rfl, Nat.le_of_ble_eq_true rfl⟩ ⟨Nat.zero_le _, Nat.zero_le _⟩) (fun r14 τ15 H locs hp hE _ _ => ?_)
            refine w_top (y := nI 0) (hp.1.trans rfl) ?_
            have hE := wS_eq hp.2 hE
            refine lv_if_eq (tgt := 63) hx hb dM_steps_58 (by decide) (fun c16 => ?_) (fun c16 => ?_)
            · have c16 := w_z0 (by omega) c16
              rw [mset_msr (by decide) (by decide)] at hE
              refine lv_aload_n hx hb dM_steps_63 rfl (lv_at hl 1 rfl) ?_
              refine w_cv hE hA (w_runV C hk hE hl.1 (As := []) (rest := []) (q := 0) (c_M_work l D cs ad (mset σ 0 2 (nI 0)) _ s9 r9 P n9 rfl (mG_of hgσ (mset_i (by decide)) (mset_n (by decide)) (mset_n (by decide)) (mset_n (by decide))) (by rw [mset_i (by decide)]; exact hn7) hn8 hs9 hr9 _) (Nat.le_of_ble_eq_true rfl) (ci := 6) (N := 17) (T := F_M) rfl rfl tw_711 tw_713 ts_29 tw_9 tw_714 (n := 0) (by decide +kernel) rfl rfl (Nat.le_of_ble_eq_true rfl) dM_steps_64 ⟨Nat.le_of_ble_eq_true rfl, Nat.le_of_ble_eq_true rfl⟩ ⟨Nat.zero_le _, Nat.zero_le _⟩) (fun τ18 H locs hp hE _ _ => ?_)
              obtain ⟨κ, s1, r1, eτ, hs1, hr1, hκq, hκ0⟩ := wrkP_ex hp hs9 hr9
              have hwrk := hp
              have hE := wS_eq eτ hE
              refine lv_aload_n hx hb dM_steps_67 rfl (lv_at hl 1 rfl) ?_
              refine lv_iload_n hx hb dM_steps_68 rfl (lv_at hl 2 rfl) ?_
              refine w_top (y := nI x.toNatClampNeg) hv1 ?_
              refine lv_iload_n hx hb dM_steps_69 rfl (lv_at hl 3 rfl) ?_
              refine w_top (y := nI z.toNatClampNeg) hz1 ?_
              refine lv_iload_n hx hb dM_steps_70 rfl (lv_at hl 4 rfl) ?_
              refine w_top (y := nI u.toNatClampNeg) hu1 ?_
              refine w_ci hE hA (w_runV C hk hE hl.1 (As := [.int (nI x.toNatClampNeg), .int (nI z.toNatClampNeg), .int (nI u.toNatClampNeg)]) (rest := []) (q := 0) (c_M_stepsOf l D cs ad κ s1 r1 x.toNatClampNeg z.toNatClampNeg u.toNatClampNeg (by omega) (by omega) (by omega) _) (Nat.le_of_ble_eq_true rfl) (ci := 6) (N := 17) (T := F_M) rfl rfl tw_720 tw_722 ts_31 tw_9 tw_723 (n := 3) (by decide +kernel) rfl rfl (Nat.le_of_ble_eq_true rfl) dM_steps_71 ⟨Nat.le_of_ble_eq_true rfl, Nat.le_of_ble_eq_true rfl⟩ ⟨Nat.zero_le _, Nat.zero_le _⟩) (fun r19 τ20 H locs hp hE _ _ => ?_)
              refine w_top hp.1 ?_
              have hE := wS_eq hp.2 hE
              refine lv_istore (lv' := [(5, .int (nI (stN κ s1 x.toNatClampNeg z.toNatClampNeg u.toNatClampNeg))), (4, .int (nI 1)), (0, .ref (ad 0)), (1, .int x), (2, .int z), (3, .int u)]) hx hb dM_steps_74 hl (by decide) rfl (fun ls hl => ?_)
              have hsle := stN_le (σ := κ) (y := x.toNatClampNeg) (i := z.toNatClampNeg) (j := u.toNatClampNeg) hs1
              refine lv_iload hx hb dM_steps_76 (lv_at hl 0 rfl) ?_
              refine lv_ldc (v := nI 1000000) hx hb hown (hts _ tw_715) dM_steps_78 ?_
              refine lv_icmp_lt (tgt := 87) hx hb dM_steps_80 (by decide) (fun c21 => ?_) (fun c21 => ?_)
              · have c21 : (stN κ s1 x.toNatClampNeg z.toNatClampNeg u.toNatClampNeg) < 1000000 := (nI_ltI (by omega) (by omega)).mp c21
                refine lv_iload hx hb dM_steps_87 (lv_at hl 0 rfl) ?_
                exact w_reti C hE (Or.inr (Or.inr ⟨Or.inl c3, by simp [strC, c5, c9, Int32.not_lt.mpr c13], κ, s1, r1, eτ ▸ hwrk, rfl, hs1, by rw [stpV]; rw [if_neg (by omega)]⟩)) dM_steps_89
              · have c21 : ¬ ((stN κ s1 x.toNatClampNeg z.toNatClampNeg u.toNatClampNeg) < 1000000) := fun h => c21 ((nI_ltI (by omega) (by omega)).mpr h)
                refine lv_iconst (v := (-1)) hx hb dM_steps_83 (by decide) ?_
                refine lv_goto (tgt := 89) hx hb dM_steps_84 (by decide) ?_
                exact w_reti C hE (Or.inr (Or.inr ⟨Or.inl c3, by simp [strC, c5, c9, Int32.not_lt.mpr c13], κ, s1, r1, eτ ▸ hwrk, rfl, hs1, by rw [stpV]; rw [if_pos (by omega)]⟩)) dM_steps_89
            · have c16 := w_n0 (by omega) c16
              first | exact absurd c16 (by decide) | exact c16.elim | exact absurd rfl c16
          · refine lv_iconst (v := nI 2) hx hb dM_steps_50 (by decide) ?_
            refine lv_goto (tgt := 55) hx hb dM_steps_51 (by decide) ?_
            refine w_ci hE hA (w_runV C hk hE hl.1 (As := [.int (nI 2)]) (rest := []) (q := 0) (c_M_throwsBy l D cs ad (msr σ s9 r9) 2 (by decide) _) (Nat.le_of_ble_eq_true rfl) (ci := 6) (N := 17) (T := F_M) rfl rfl tw_647 tw_649 ts_18 tw_9 tw_650 (n := 1) (by decide +kernel) rfl rfl (Nat.le_of_ble_eq_true rfl) dM_steps_55 ⟨Nat.le_of_ble_eq_true rfl, Nat.le_of_ble_eq_true rfl⟩ ⟨Nat.zero_le _, Nat.zero_le _⟩) (fun r22 τ23 H locs hp hE _ _ => ?_)
            refine w_top (y := nI 1) (hp.1.trans rfl) ?_
            have hE := wS_eq hp.2 hE
            refine lv_if_eq (tgt := 63) hx hb dM_steps_58 (by decide) (fun c24 => ?_) (fun c24 => ?_)
            · have c24 := w_z0 (by omega) c24
              first | exact absurd c24 (by decide) | exact c24.elim | exact absurd rfl c24
            · have c24 := w_n0 (by omega) c24
              refine lv_iconst (v := nI 0) hx hb dM_steps_61 (by decide) ?_
              exact w_reti C hE (Or.inr (Or.inl ⟨Or.inl c3, by simp [strC, Int32.not_le.mp c13], rfl, rfl⟩)) dM_steps_62
    · have c4 := w_z0 (by omega) c4
      first | exact absurd c4 (by decide) | exact c4.elim | exact absurd rfl c4
  · have c3 := zb_eq0 c3
    refine lv_aload_n hx hb dM_steps_8 rfl (lv_at hl 0 rfl) ?_
    refine lv_iload_n hx hb dM_steps_9 rfl (lv_at hl 1 rfl) ?_
    refine w_ci hE hA (w_runV C hk hE hl.1 (As := [.int x]) (rest := []) (q := 0) (c_M_isToken l D cs ad (msr σ s9 r9) T9 x hT hT6 _) (Nat.le_of_ble_eq_true rfl) (ci := 6) (N := 17) (T := F_M) rfl rfl tw_683 tw_685 ts_26 tw_9 tw_686 (n := 1) (by decide +kernel) rfl rfl (Nat.le_of_ble_eq_true rfl) dM_steps_10 ⟨Nat.le_of_ble_eq_true rfl, Nat.le_of_ble_eq_true rfl⟩ ⟨Nat.zero_le _, Nat.zero_le _⟩) (fun r25 τ26 H locs hp hE _ _ => ?_)
    refine w_top hp.1 ?_
    have hE := wS_eq hp.2 hE
    refine lv_if_eq (tgt := 20) hx hb dM_steps_13 (by decide) (fun c27 => ?_) (fun c27 => ?_)
    · have c27 := zb_eq0 c27
      refine lv_iconst (v := nI 0) hx hb dM_steps_20 (by decide) ?_
      refine lv_istore (lv' := [(4, .int (nI 0)), (0, .ref (ad 0)), (1, .int x), (2, .int z), (3, .int u)]) hx hb dM_steps_21 hl (by decide) rfl (fun ls hl => ?_)
      refine lv_aload_n hx hb dM_steps_23 rfl (lv_at hl 1 rfl) ?_
      refine lv_iload hx hb dM_steps_24 (lv_at hl 0 rfl) ?_
      refine lv_if_ne (tgt := 33) hx hb dM_steps_26 (by decide) (fun c28 => ?_) (fun c28 => ?_)
      · have c28 := w_n0 (by omega) c28
        first | exact absurd c28 (by decide) | exact c28.elim | exact absurd rfl c28
      · have c28 := w_z0 (by omega) c28
        refine lv_iconst (v := nI 1) hx hb dM_steps_29 (by decide) ?_
        refine lv_goto (tgt := 55) hx hb dM_steps_30 (by decide) ?_
        refine w_ci hE hA (w_runV C hk hE hl.1 (As := [.int (nI 1)]) (rest := []) (q := 0) (c_M_throwsBy l D cs ad (msr σ s9 r9) 1 (by decide) _) (Nat.le_of_ble_eq_true rfl) (ci := 6) (N := 17) (T := F_M) rfl rfl tw_647 tw_649 ts_18 tw_9 tw_650 (n := 1) (by decide +kernel) rfl rfl (Nat.le_of_ble_eq_true rfl) dM_steps_55 ⟨Nat.le_of_ble_eq_true rfl, Nat.le_of_ble_eq_true rfl⟩ ⟨Nat.zero_le _, Nat.zero_le _⟩) (fun r29 τ30 H locs hp hE _ _ => ?_)
        refine w_top (y := nI 1) (hp.1.trans rfl) ?_
        have hE := wS_eq hp.2 hE
        refine lv_if_eq (tgt := 63) hx hb dM_steps_58 (by decide) (fun c31 => ?_) (fun c31 => ?_)
        · have c31 := w_z0 (by omega) c31
          first | exact absurd c31 (by decide) | exact c31.elim | exact absurd rfl c31
        · have c31 := w_n0 (by omega) c31
          refine lv_iconst (v := nI 0) hx hb dM_steps_61 (by decide) ?_
          exact w_reti C hE (Or.inl ⟨fun h => h.elim (fun q => by rw [c3] at q; cases q) (fun q => by rw [c27] at q; cases q), rfl, rfl⟩) dM_steps_62
    · have c27 := zb_ne0 c27
      obtain ⟨hv1, hv2, hv3⟩ := isTn_of hT6 c27
      refine lv_iconst (v := nI 1) hx hb dM_steps_16 (by decide) ?_
      refine lv_goto (tgt := 21) hx hb dM_steps_17 (by decide) ?_
      refine lv_istore (lv' := [(4, .int (nI 1)), (0, .ref (ad 0)), (1, .int x), (2, .int z), (3, .int u)]) hx hb dM_steps_21 hl (by decide) rfl (fun ls hl => ?_)
      refine lv_aload_n hx hb dM_steps_23 rfl (lv_at hl 1 rfl) ?_
      refine lv_iload hx hb dM_steps_24 (lv_at hl 0 rfl) ?_
      refine lv_if_ne (tgt := 33) hx hb dM_steps_26 (by decide) (fun c32 => ?_) (fun c32 => ?_)
      · have c32 := w_n0 (by omega) c32
        refine lv_iload_n hx hb dM_steps_33 rfl (lv_at hl 3 rfl) ?_
        refine lv_if_lt (tgt := 50) hx hb dM_steps_34 (by decide) (fun c33 => ?_) (fun c33 => ?_)
        · refine lv_iconst (v := nI 2) hx hb dM_steps_50 (by decide) ?_
          refine lv_goto (tgt := 55) hx hb dM_steps_51 (by decide) ?_
          refine w_ci hE hA (w_runV C hk hE hl.1 (As := [.int (nI 2)]) (rest := []) (q := 0) (c_M_throwsBy l D cs ad (msr σ s9 r9) 2 (by decide) _) (Nat.le_of_ble_eq_true rfl) (ci := 6) (N := 17) (T := F_M) rfl rfl tw_647 tw_649 ts_18 tw_9 tw_650 (n := 1) (by decide +kernel) rfl rfl (Nat.le_of_ble_eq_true rfl) dM_steps_55 ⟨Nat.le_of_ble_eq_true rfl, Nat.le_of_ble_eq_true rfl⟩ ⟨Nat.zero_le _, Nat.zero_le _⟩) (fun r34 τ35 H locs hp hE _ _ => ?_)
          refine w_top (y := nI 1) (hp.1.trans rfl) ?_
          have hE := wS_eq hp.2 hE
          refine lv_if_eq (tgt := 63) hx hb dM_steps_58 (by decide) (fun c36 => ?_) (fun c36 => ?_)
          · have c36 := w_z0 (by omega) c36
            first | exact absurd c36 (by decide) | exact c36.elim | exact absurd rfl c36
          · have c36 := w_n0 (by omega) c36
            refine lv_iconst (v := nI 0) hx hb dM_steps_61 (by decide) ?_
            exact w_reti C hE (Or.inr (Or.inl ⟨Or.inr c27, by simp [strC, c33], rfl, rfl⟩)) dM_steps_62
        · have c9a := c33
          refine lv_iload_n hx hb dM_steps_37 rfl (lv_at hl 4 rfl) ?_
          refine lv_iload_n hx hb dM_steps_38 rfl (lv_at hl 3 rfl) ?_
          refine lv_icmp_lt (tgt := 50) hx hb dM_steps_39 (by decide) (fun c37 => ?_) (fun c37 => ?_)
          · refine lv_iconst (v := nI 2) hx hb dM_steps_50 (by decide) ?_
            refine lv_goto (tgt := 55) hx hb dM_steps_51 (by decide) ?_
            refine w_ci hE hA (w_runV C hk hE hl.1 (As := [.int (nI 2)]) (rest := []) (q := 0) (c_M_throwsBy l D cs ad (msr σ s9 r9) 2 (by decide) _) (Nat.le_of_ble_eq_true rfl) (ci := 6) (N := 17) (T := F_M) rfl rfl tw_647 tw_649 ts_18 tw_9 tw_650 (n := 1) (by decide +kernel) rfl rfl (Nat.le_of_ble_eq_true rfl) dM_steps_55 ⟨Nat.le_of_ble_eq_true rfl, Nat.le_of_ble_eq_true rfl⟩ ⟨Nat.zero_le _, Nat.zero_le _⟩) (fun r38 τ39 H locs hp hE _ _ => ?_)
            refine w_top (y := nI 1) (hp.1.trans rfl) ?_
            have hE := wS_eq hp.2 hE
            refine lv_if_eq (tgt := 63) hx hb dM_steps_58 (by decide) (fun c40 => ?_) (fun c40 => ?_)
            · have c40 := w_z0 (by omega) c40
              first | exact absurd c40 (by decide) | exact c40.elim | exact absurd rfl c40
            · have c40 := w_n0 (by omega) c40
              refine lv_iconst (v := nI 0) hx hb dM_steps_61 (by decide) ?_
              exact w_reti C hE (Or.inr (Or.inl ⟨Or.inr c27, by simp [strC, c37], rfl, rfl⟩)) dM_steps_62
          · have c9b := c37
            refine lv_iload_n hx hb dM_steps_42 rfl (lv_at hl 4 rfl) ?_
            refine lv_aload_n hx hb dM_steps_43 rfl (lv_at hl 1 rfl) ?_
            refine w_get C hk hE (K := R_M) (T := F_M) (N := 17) (ci := 6) in_M 0 (Nat.le_of_ble_eq_true rfl) rfl rfl 7 (by decide) tw_589 rfl rfl dM_steps_44 ?_
            refine w_top (y := σ 0 7) (by simp [mset, mrow, upd, mhc, msr, nR]) ?_
            refine w_top (y := nI n9) (hn7) ?_
            refine lv_icmp_le (tgt := 54) hx hb dM_steps_47 (by decide) (fun c41 => ?_) (fun c41 => ?_)
            · obtain ⟨hz1, hu1, hzu, hun⟩ := isKn_of2 hn8 c9a c9b c41
              refine lv_iconst (v := nI 0) hx hb dM_steps_54 (by decide) ?_
              refine w_ci hE hA (w_runV C hk hE hl.1 (As := [.int (nI 0)]) (rest := []) (q := 0) (c_M_throwsBy l D cs ad (msr σ s9 r9) 0 (by decide) _) (Nat.le_of_ble_eq_true rfl) (ci := 6) (N := 17) (T := F_M) rfl rfl tw_647 tw_649 ts_18 tw_9 tw_650 (n := 1) (by decide +kernel) rfl rfl (Nat.le_of_ble_eq_true rfl) dM_steps_55 ⟨Nat.le_of_ble_eq_true rfl, Nat.le_of_ble_eq_true rfl⟩ ⟨Nat.zero_le _, Nat.zero_le _⟩) (fun r42 τ43 H locs hp hE _ _ => ?_)
              refine w_top (y := nI 0) (hp.1.trans rfl) ?_
              have hE := wS_eq hp.2 hE
              refine lv_if_eq (tgt := 63) hx hb dM_steps_58 (by decide) (fun c44 => ?_) (fun c44 => ?_)
              · have c44 := w_z0 (by omega) c44
                rw [mset_msr (by decide) (by decide)] at hE
                refine lv_aload_n hx hb dM_steps_63 rfl (lv_at hl 1 rfl) ?_
                refine w_cv hE hA (w_runV C hk hE hl.1 (As := []) (rest := []) (q := 0) (c_M_work l D cs ad (mset σ 0 2 (nI 0)) _ s9 r9 P n9 rfl (mG_of hgσ (mset_i (by decide)) (mset_n (by decide)) (mset_n (by decide)) (mset_n (by decide))) (by rw [mset_i (by decide)]; exact hn7) hn8 hs9 hr9 _) (Nat.le_of_ble_eq_true rfl) (ci := 6) (N := 17) (T := F_M) rfl rfl tw_711 tw_713 ts_29 tw_9 tw_714 (n := 0) (by decide +kernel) rfl rfl (Nat.le_of_ble_eq_true rfl) dM_steps_64 ⟨Nat.le_of_ble_eq_true rfl, Nat.le_of_ble_eq_true rfl⟩ ⟨Nat.zero_le _, Nat.zero_le _⟩) (fun τ46 H locs hp hE _ _ => ?_)
                obtain ⟨κ, s1, r1, eτ, hs1, hr1, hκq, hκ0⟩ := wrkP_ex hp hs9 hr9
                have hwrk := hp
                have hE := wS_eq eτ hE
                refine lv_aload_n hx hb dM_steps_67 rfl (lv_at hl 1 rfl) ?_
                refine lv_iload_n hx hb dM_steps_68 rfl (lv_at hl 2 rfl) ?_
                refine w_top (y := nI x.toNatClampNeg) hv1 ?_
                refine lv_iload_n hx hb dM_steps_69 rfl (lv_at hl 3 rfl) ?_
                refine w_top (y := nI z.toNatClampNeg) hz1 ?_
                refine lv_iload_n hx hb dM_steps_70 rfl (lv_at hl 4 rfl) ?_
                refine w_top (y := nI u.toNatClampNeg) hu1 ?_
                refine w_ci hE hA (w_runV C hk hE hl.1 (As := [.int (nI x.toNatClampNeg), .int (nI z.toNatClampNeg), .int (nI u.toNatClampNeg)]) (rest := []) (q := 0) (c_M_stepsOf l D cs ad κ s1 r1 x.toNatClampNeg z.toNatClampNeg u.toNatClampNeg (by omega) (by omega) (by omega) _) (Nat.le_of_ble_eq_true rfl) (ci := 6) (N := 17) (T := F_M) rfl rfl tw_720 tw_722 ts_31 tw_9 tw_723 (n := 3) (by decide +kernel) rfl rfl (Nat.le_of_ble_eq_true rfl) dM_steps_71 ⟨Nat.le_of_ble_eq_true rfl, Nat.le_of_ble_eq_true rfl⟩ ⟨Nat.zero_le _, Nat.zero_le _⟩) (fun r47 τ48 H locs hp hE _ _ => ?_)
                refine w_top hp.1 ?_
                have hE := wS_eq hp.2 hE
                refine lv_istore (lv' := [(5, .int (nI (stN κ s1 x.toNatClampNeg z.toNatClampNeg u.toNatClampNeg))), (4, .int (nI 1)), (0, .ref (ad 0)), (1, .int x), (2, .int z), (3, .int u)]) hx hb dM_steps_74 hl (by decide) rfl (fun ls hl => ?_)
                have hsle := stN_le (σ := κ) (y := x.toNatClampNeg) (i := z.toNatClampNeg) (j := u.toNatClampNeg) hs1
                refine lv_iload hx hb dM_steps_76 (lv_at hl 0 rfl) ?_
                refine lv_ldc (v := nI 1000000) hx hb hown (hts _ tw_715) dM_steps_78 ?_
                refine lv_icmp_lt (tgt := 87) hx hb dM_steps_80 (by decide) (fun c49 => ?_) (fun c49 => ?_)
                · have c49 : (stN κ s1 x.toNatClampNeg z.toNatClampNeg u.toNatClampNeg) < 1000000 := (nI_ltI (by omega) (by omega)).mp c49
                  refine lv_iload hx hb dM_steps_87 (lv_at hl 0 rfl) ?_
                  exact w_reti C hE (Or.inr (Or.inr ⟨Or.inr c27, by simp [strC, c33, c37, Int32.not_lt.mpr c41], κ, s1, r1, eτ ▸ hwrk, rfl, hs1, by rw [stpV]; rw [if_neg (by omega)]⟩)) dM_steps_89
                · have c49 : ¬ ((stN κ s1 x.toNatClampNeg z.toNatClampNeg u.toNatClampNeg) < 1000000) := fun h => c49 ((nI_ltI (by omega) (by omega)).mpr h)
                  refine lv_iconst (v := (-1)) hx hb dM_steps_83 (by decide) ?_
                  refine lv_goto (tgt := 89) hx hb dM_steps_84 (by decide) ?_
                  exact w_reti C hE (Or.inr (Or.inr ⟨Or.inr c27, by simp [strC, c33, c37, Int32.not_lt.mpr c41], κ, s1, r1, eτ ▸ hwrk, rfl, hs1, by rw [stpV]; rw [if_pos (by omega)]⟩)) dM_steps_89
              · have c44 := w_n0 (by omega) c44
                first | exact absurd c44 (by decide) | exact c44.elim | exact absurd rfl c44
            · refine lv_iconst (v := nI 2) hx hb dM_steps_50 (by decide) ?_
              refine lv_goto (tgt := 55) hx hb dM_steps_51 (by decide) ?_
              refine w_ci hE hA (w_runV C hk hE hl.1 (As := [.int (nI 2)]) (rest := []) (q := 0) (c_M_throwsBy l D cs ad (msr σ s9 r9) 2 (by decide) _) (Nat.le_of_ble_eq_true rfl) (ci := 6) (N := 17) (T := F_M) rfl rfl tw_647 tw_649 ts_18 tw_9 tw_650 (n := 1) (by decide +kernel) rfl rfl (Nat.le_of_ble_eq_true rfl) dM_steps_55 ⟨Nat.le_of_ble_eq_true rfl, Nat.le_of_ble_eq_true rfl⟩ ⟨Nat.zero_le _, Nat.zero_le _⟩) (fun r50 τ51 H locs hp hE _ _ => ?_)
              refine w_top (y := nI 1) (hp.1.trans rfl) ?_
              have hE := wS_eq hp.2 hE
              refine lv_if_eq (tgt := 63) hx hb dM_steps_58 (by decide) (fun c52 => ?_) (fun c52 => ?_)
              · have c52 := w_z0 (by omega) c52
                first | exact absurd c52 (by decide) | exact c52.elim | exact absurd rfl c52
              · have c52 := w_n0 (by omega) c52
                refine lv_iconst (v := nI 0) hx hb dM_steps_61 (by decide) ?_
                exact w_reti C hE (Or.inr (Or.inl ⟨Or.inr c27, by simp [strC, Int32.not_le.mp c41], rfl, rfl⟩)) dM_steps_62
      · have c32 := w_z0 (by omega) c32
        first | exact absurd c32 (by decide) | exact c32.elim | exact absurd rfl c32
set_option maxHeartbeats 4000000 in
set_option maxRecDepth 100000 in
theorem c_M_nullable (l : Launch) (D : va_G) (cs : Nat → ClassId) (ad : Nat → Nat) (σ : Mem) (s9 r9 : Nat → Nat) (P n9 V9 T9 : Nat) (x : Int32) (hJ : mJ σ P n9 V9 T9 s9 r9) : MetI l (wM D cs ad) cs yM_nullable bM_nullable 2 (some .boolean) 3 76 [.ref (ad 0), .int x] (msr σ s9 r9) (fun r τ => isVn V9 x = false ∧ r = nI 0 ∧ τ = mset (msr σ s9 r9) 0 2 (nI 1) ∨ isVn V9 x = true ∧ ∃ κ s1 r1, wrkP (mset σ 0 2 (nI 0)) P n9 s9 r9 τ ∧ τ = msr κ s1 r1 ∧ leN s1 ∧ r = zb (decide (stN κ s1 x.toNatClampNeg 0 0 < 1000000))) := by
  refine MetI.start (by decide) (Nat.le_of_ble_eq_true rfl) ?_
  intro p e s m below meth c A ls C hk hA hE hl
  obtain ⟨hx, hb, hml, hown, hts, hr, hlocks⟩ := id C
  have hl : lv_has ls 2 [(0, .ref (ad 0)), (1, .int x)] := hl
  obtain ⟨hI, hs9, hr9⟩ := id hJ
  obtain ⟨hgσ, hn8, hn7, hvb, -, hV0, -, hT0⟩ := mI_of_msr hI
  obtain ⟨hg, -, -, -, hV6, hV, hT6, hT⟩ := id hI
  have hP8 := hg.1
  refine lv_aload_n hx hb dM_nullable_0 rfl (lv_at hl 0 rfl) ?_
  refine lv_aload_n hx hb dM_nullable_1 rfl (lv_at hl 0 rfl) ?_
  refine lv_iload_n hx hb dM_nullable_2 rfl (lv_at hl 1 rfl) ?_
  refine w_ci hE hA (w_runV C hk hE hl.1 (As := [.int x]) (rest := [.ref (ad 0)]) (q := 0) (c_M_isVariable l D cs ad (msr σ s9 r9) V9 x hV hV6 _) (Nat.le_of_ble_eq_true rfl) (ci := 6) (N := 17) (T := F_M) rfl rfl tw_643 tw_645 ts_17 tw_9 tw_646 (n := 1) (by decide +kernel) rfl rfl (Nat.le_of_ble_eq_true rfl) dM_nullable_3 ⟨Nat.le_of_ble_eq_true rfl, Nat.le_of_ble_eq_true rfl⟩ ⟨Nat.zero_le _, Nat.zero_le _⟩) (fun r1 τ2 H locs hp hE _ _ => ?_)
  refine w_top hp.1 ?_
  have hE := wS_eq hp.2 hE
  refine lv_if_eq (tgt := 13) hx hb dM_nullable_6 (by decide) (fun c3 => ?_) (fun c3 => ?_)
  · have c3 := zb_eq0 c3
    refine lv_iconst (v := nI 1) hx hb dM_nullable_13 (by decide) ?_
    refine w_ci hE hA (w_runV C hk hE hl.1 (As := [.int (nI 1)]) (rest := []) (q := 0) (c_M_throwsBy l D cs ad (msr σ s9 r9) 1 (by decide) _) (Nat.le_of_ble_eq_true rfl) (ci := 6) (N := 17) (T := F_M) rfl rfl tw_647 tw_649 ts_18 tw_9 tw_650 (n := 1) (by decide +kernel) rfl rfl (Nat.le_of_ble_eq_true rfl) dM_nullable_14 ⟨Nat.le_of_ble_eq_true rfl, Nat.le_of_ble_eq_true rfl⟩ ⟨Nat.zero_le _, Nat.zero_le _⟩) (fun r4 τ5 H locs hp hE _ _ => ?_)
    refine w_top (y := nI 1) (hp.1.trans rfl) ?_
    have hE := wS_eq hp.2 hE
    refine lv_if_eq (tgt := 22) hx hb dM_nullable_17 (by decide) (fun c6 => ?_) (fun c6 => ?_)
    · have c6 := w_z0 (by omega) c6
      first | exact absurd c6 (by decide) | exact c6.elim | exact absurd rfl c6
    · have c6 := w_n0 (by omega) c6
      refine lv_iconst (v := nI 0) hx hb dM_nullable_20 (by decide) ?_
      exact w_retz C hE (Or.inl rfl) (Or.inl ⟨c3, rfl, rfl⟩) dM_nullable_21
  · have c3 := zb_ne0 c3
    obtain ⟨hv1, hv2⟩ := isVn_of hV6 c3
    refine lv_iconst (v := nI 0) hx hb dM_nullable_9 (by decide) ?_
    refine lv_goto (tgt := 14) hx hb dM_nullable_10 (by decide) ?_
    refine w_ci hE hA (w_runV C hk hE hl.1 (As := [.int (nI 0)]) (rest := []) (q := 0) (c_M_throwsBy l D cs ad (msr σ s9 r9) 0 (by decide) _) (Nat.le_of_ble_eq_true rfl) (ci := 6) (N := 17) (T := F_M) rfl rfl tw_647 tw_649 ts_18 tw_9 tw_650 (n := 1) (by decide +kernel) rfl rfl (Nat.le_of_ble_eq_true rfl) dM_nullable_14 ⟨Nat.le_of_ble_eq_true rfl, Nat.le_of_ble_eq_true rfl⟩ ⟨Nat.zero_le _, Nat.zero_le _⟩) (fun r7 τ8 H locs hp hE _ _ => ?_)
    refine w_top (y := nI 0) (hp.1.trans rfl) ?_
    have hE := wS_eq hp.2 hE
    refine lv_if_eq (tgt := 22) hx hb dM_nullable_17 (by decide) (fun c9 => ?_) (fun c9 => ?_)
    · have c9 := w_z0 (by omega) c9
      rw [mset_msr (by decide) (by decide)] at hE
      refine lv_aload_n hx hb dM_nullable_22 rfl (lv_at hl 0 rfl) ?_
      refine w_cv hE hA (w_runV C hk hE hl.1 (As := []) (rest := []) (q := 0) (c_M_work l D cs ad (mset σ 0 2 (nI 0)) _ s9 r9 P n9 rfl (mG_of hgσ (mset_i (by decide)) (mset_n (by decide)) (mset_n (by decide)) (mset_n (by decide))) (by rw [mset_i (by decide)]; exact hn7) hn8 hs9 hr9 _) (Nat.le_of_ble_eq_true rfl) (ci := 6) (N := 17) (T := F_M) rfl rfl tw_711 tw_713 ts_29 tw_9 tw_714 (n := 0) (by decide +kernel) rfl rfl (Nat.le_of_ble_eq_true rfl) dM_nullable_23 ⟨Nat.le_of_ble_eq_true rfl, Nat.le_of_ble_eq_true rfl⟩ ⟨Nat.zero_le _, Nat.zero_le _⟩) (fun τ11 H locs hp hE _ _ => ?_)
      obtain ⟨κ, s1, r1, eτ, hs1, hr1, hκq, hκ0⟩ := wrkP_ex hp hs9 hr9
      have hwrk := hp
      have hE := wS_eq eτ hE
      refine lv_aload_n hx hb dM_nullable_26 rfl (lv_at hl 0 rfl) ?_
      refine lv_iload_n hx hb dM_nullable_27 rfl (lv_at hl 1 rfl) ?_
      refine w_top (y := nI x.toNatClampNeg) hv1 ?_
      refine lv_iconst (v := nI 0) hx hb dM_nullable_28 (by decide) ?_
      refine lv_iconst (v := nI 0) hx hb dM_nullable_29 (by decide) ?_
      refine w_ci hE hA (w_runV C hk hE hl.1 (As := [.int (nI x.toNatClampNeg), .int (nI 0), .int (nI 0)]) (rest := []) (q := 0) (c_M_stepsOf l D cs ad κ s1 r1 x.toNatClampNeg 0 0 (by omega) (by decide) (by decide) _) (Nat.le_of_ble_eq_true rfl) (ci := 6) (N := 17) (T := F_M) rfl rfl tw_720 tw_722 ts_31 tw_9 tw_723 (n := 3) (by decide +kernel) rfl rfl (Nat.le_of_ble_eq_true rfl) dM_nullable_30 ⟨Nat.le_of_ble_eq_true rfl, Nat.le_of_ble_eq_true rfl⟩ ⟨Nat.zero_le _, Nat.zero_le _⟩) (fun r12 τ13 H locs hp hE _ _ => ?_)
      refine w_top hp.1 ?_
      have hE := wS_eq hp.2 hE
      have hsle := stN_le (σ := κ) (y := x.toNatClampNeg) (i := 0) (j := 0) hs1
      refine lv_ldc (v := nI 1000000) hx hb hown (hts _ tw_715) dM_nullable_33 ?_
      refine lv_icmp_ge (tgt := 42) hx hb dM_nullable_35 (by decide) (fun c14 => ?_) (fun c14 => ?_)
      · have c14 : 1000000 ≤ (stN κ s1 x.toNatClampNeg 0 0) := (nI_leI (by omega) (by omega)).mp c14
        refine lv_iconst (v := nI 0) hx hb dM_nullable_42 (by decide) ?_
        exact w_retz C hE (Or.inl rfl) (Or.inr ⟨c3, κ, s1, r1, eτ ▸ hwrk, rfl, hs1, by simp [zb, Nat.not_lt.mpr c14]⟩) dM_nullable_43
      · have c14 : ¬ (1000000 ≤ (stN κ s1 x.toNatClampNeg 0 0)) := fun h => c14 ((nI_leI (by omega) (by omega)).mpr h)
        refine lv_iconst (v := nI 1) hx hb dM_nullable_38 (by decide) ?_
        refine lv_goto (tgt := 43) hx hb dM_nullable_39 (by decide) ?_
        exact w_retz C hE (Or.inr rfl) (Or.inr ⟨c3, κ, s1, r1, eτ ▸ hwrk, rfl, hs1, by simp [zb, Nat.not_le.mp c14]⟩) dM_nullable_43
    · have c9 := w_n0 (by omega) c9
      first | exact absurd c9 (by decide) | exact c9.elim | exact absurd rfl c9
