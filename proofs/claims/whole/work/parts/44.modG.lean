set_option maxHeartbeats 4000000 in
set_option maxRecDepth 100000 in
theorem c_M_addRhs (l : Launch) (D : va_G) (cs : Nat → ClassId) (ad : Nat → Nat) (σ : Mem) (P n9 V9 T9 : Nat) (x : Int32) (hI : mI σ P n9 V9 T9) : MetI l (wM D cs ad) cs yM_addRhs bM_addRhs 4 (some .int) 4 97 [.ref (ad 0), .int x] σ (fun r τ => rhsC σ P n9 ∧ r = nI 0 ∧ τ = mset σ 0 2 (nI 1) ∨ ¬ rhsC σ P n9 ∧ isVn V9 x = false ∧ isTn T9 x = false ∧ r = nI 0 ∧ τ = mset σ 0 2 (nI 2) ∨ ¬ rhsC σ P n9 ∧ (isVn V9 x = true ∨ isTn T9 x = true) ∧ r = nI (mn σ (P - 1) + 1) ∧ filQ (mRhs σ (P - 1) (mn σ (P - 1)) x) P 0 τ) := by
  refine MetI.start (by decide) (Nat.le_of_ble_eq_true rfl) ?_
  intro p e s m below meth c A ls C hk hA hE hl
  obtain ⟨hx, hb, hml, hown, hts, hr, hlocks⟩ := id C
  have hl : lv_has ls 4 [(0, .ref (ad 0)), (1, .int x)] := hl
  obtain ⟨hg, hn8, hn7, hvb, hV6, hV, hT6, hT⟩ := id hI
  have hP8 := hg.1
  refine lv_aload_n hx hb dM_addRhs_0 rfl (lv_at hl 0 rfl) ?_
  refine w_get C hk hE (K := R_M) (T := F_M) (N := 17) (ci := 6) in_M 0 (Nat.le_of_ble_eq_true rfl) rfl rfl 3 (by decide) tw_585 rfl rfl dM_addRhs_1 ?_
  refine w_top (y := nI P) (hg.2.1) ?_
  refine lv_iconst (v := nI 1) hx hb dM_addRhs_4 (by decide) ?_
  refine lv_isub hx hb dM_addRhs_5 ?_
  refine lv_istore_n (lv' := [(2, .int ((nI P) - (nI 1))), (0, .ref (ad 0)), (1, .int x)]) hx hb dM_addRhs_6 rfl hl (by decide) rfl (fun ls hl => ?_)
  refine lv_aload_n hx hb dM_addRhs_7 rfl (lv_at hl 1 rfl) ?_
  refine w_get C hk hE (K := R_M) (T := F_M) (N := 17) (ci := 6) in_M 0 (Nat.le_of_ble_eq_true rfl) rfl rfl 7 (by decide) tw_589 rfl rfl dM_addRhs_8 ?_
  refine w_top (y := nI n9) (hn7) ?_
  refine lv_if_gt (tgt := 37) hx hb dM_addRhs_11 (by decide) (fun c1 => ?_) (fun c1 => ?_)
  · have c1 := w_gt0 (by omega) c1
    refine lv_iconst (v := nI 1) hx hb dM_addRhs_37 (by decide) ?_
    refine lv_goto (tgt := 42) hx hb dM_addRhs_38 (by decide) ?_
    refine lv_istore_n (lv' := [(3, .int (nI 1)), (2, .int ((nI P) - (nI 1))), (0, .ref (ad 0)), (1, .int x)]) hx hb dM_addRhs_42 rfl hl (by decide) rfl (fun ls hl => ?_)
    refine lv_aload_n hx hb dM_addRhs_43 rfl (lv_at hl 2 rfl) ?_
    refine lv_iload_n hx hb dM_addRhs_44 rfl (lv_at hl 0 rfl) ?_
    refine lv_if_eq (tgt := 52) hx hb dM_addRhs_45 (by decide) (fun c2 => ?_) (fun c2 => ?_)
    · have c2 := w_z0 (by omega) c2
      first | exact absurd c2 (by decide) | exact c2.elim | exact absurd rfl c2
    · have c2 := w_n0 (by omega) c2
      refine lv_iconst (v := nI 1) hx hb dM_addRhs_48 (by decide) ?_
      refine lv_goto (tgt := 73) hx hb dM_addRhs_49 (by decide) ?_
      refine w_ci hE hA (w_runV C hk hE hl.1 (As := [.int (nI 1)]) (rest := []) (q := 0) (c_M_throwsBy l D cs ad (σ) 1 (by decide) _) (Nat.le_of_ble_eq_true rfl) (ci := 6) (N := 17) (T := F_M) rfl rfl tw_647 tw_649 ts_18 tw_9 tw_650 (n := 1) (by decide +kernel) rfl rfl (Nat.le_of_ble_eq_true rfl) dM_addRhs_73 ⟨Nat.le_of_ble_eq_true rfl, Nat.le_of_ble_eq_true rfl⟩ ⟨Nat.zero_le _, Nat.zero_le _⟩) (fun r3 τ4 H locs hp hE _ _ => ?_)
      refine w_top (y := nI 1) (hp.1.trans rfl) ?_
      have hE := wS_eq hp.2 hE
      refine lv_if_eq (tgt := 81) hx hb dM_addRhs_76 (by decide) (fun c5 => ?_) (fun c5 => ?_)
      · have c5 := w_z0 (by omega) c5
        first | exact absurd c5 (by decide) | exact c5.elim | exact absurd rfl c5
      · have c5 := w_n0 (by omega) c5
        refine lv_iconst (v := nI 0) hx hb dM_addRhs_79 (by decide) ?_
        exact w_reti C hE (Or.inl ⟨Or.inl c1, rfl, rfl⟩) dM_addRhs_80
  · have c1 := w_ngt0 (by omega) c1
    refine lv_iload_n hx hb dM_addRhs_14 rfl (lv_at hl 0 rfl) ?_
    refine lv_if_lt (tgt := 37) hx hb dM_addRhs_15 (by decide) (fun c6 => ?_) (fun c6 => ?_)
    · refine lv_iconst (v := nI 1) hx hb dM_addRhs_37 (by decide) ?_
      refine lv_goto (tgt := 42) hx hb dM_addRhs_38 (by decide) ?_
      refine lv_istore_n (lv' := [(3, .int (nI 1)), (2, .int ((nI P) - (nI 1))), (0, .ref (ad 0)), (1, .int x)]) hx hb dM_addRhs_42 rfl hl (by decide) rfl (fun ls hl => ?_)
      refine lv_aload_n hx hb dM_addRhs_43 rfl (lv_at hl 2 rfl) ?_
      refine lv_iload_n hx hb dM_addRhs_44 rfl (lv_at hl 0 rfl) ?_
      refine lv_if_eq (tgt := 52) hx hb dM_addRhs_45 (by decide) (fun c7 => ?_) (fun c7 => ?_)
      · have c7 := w_z0 (by omega) c7
        first | exact absurd c7 (by decide) | exact c7.elim | exact absurd rfl c7
      · have c7 := w_n0 (by omega) c7
        refine lv_iconst (v := nI 1) hx hb dM_addRhs_48 (by decide) ?_
        refine lv_goto (tgt := 73) hx hb dM_addRhs_49 (by decide) ?_
        refine w_ci hE hA (w_runV C hk hE hl.1 (As := [.int (nI 1)]) (rest := []) (q := 0) (c_M_throwsBy l D cs ad (σ) 1 (by decide) _) (Nat.le_of_ble_eq_true rfl) (ci := 6) (N := 17) (T := F_M) rfl rfl tw_647 tw_649 ts_18 tw_9 tw_650 (n := 1) (by decide +kernel) rfl rfl (Nat.le_of_ble_eq_true rfl) dM_addRhs_73 ⟨Nat.le_of_ble_eq_true rfl, Nat.le_of_ble_eq_true rfl⟩ ⟨Nat.zero_le _, Nat.zero_le _⟩) (fun r8 τ9 H locs hp hE _ _ => ?_)
        refine w_top (y := nI 1) (hp.1.trans rfl) ?_
        have hE := wS_eq hp.2 hE
        refine lv_if_eq (tgt := 81) hx hb dM_addRhs_76 (by decide) (fun c10 => ?_) (fun c10 => ?_)
        · have c10 := w_z0 (by omega) c10
          first | exact absurd c10 (by decide) | exact c10.elim | exact absurd rfl c10
        · have c10 := w_n0 (by omega) c10
          refine lv_iconst (v := nI 0) hx hb dM_addRhs_79 (by decide) ?_
          exact w_reti C hE (Or.inl ⟨Or.inr (Or.inl (pm1_lt hP8 c6)), rfl, rfl⟩) dM_addRhs_80
    · have hP1 := pm1_ge c6
      rw [show nI P - nI 1 = nI (P - 1) from w_sub (by omega) rfl] at hl
      obtain ⟨h1, h1b, h2, h2b, h3⟩ := hg.2.2 (P - 1) (by omega)
      refine lv_aload_n hx hb dM_addRhs_18 rfl (lv_at hl 1 rfl) ?_
      refine w_get C hk hE (K := R_M) (T := F_M) (N := 17) (ci := 6) in_M 0 (Nat.le_of_ble_eq_true rfl) rfl rfl 5 (by decide) tw_587 rfl rfl dM_addRhs_19 ?_
      refine lv_iload_n hx hb dM_addRhs_22 rfl (lv_at hl 0 rfl) ?_
      refine w_iald C hk hE 2 (by exact Nat.le_of_ble_eq_true rfl) (n := 8) rfl (by omega) (by first | decide | omega) dM_addRhs_23 ?_
      refine w_top (y := nI (mn σ (P - 1))) (h2) ?_
      refine lv_iconst (v := nI 4) hx hb dM_addRhs_24 (by decide) ?_
      refine lv_icmp_ge (tgt := 37) hx hb dM_addRhs_25 (by decide) (fun c11 => ?_) (fun c11 => ?_)
      · have c11 : 4 ≤ (mn σ (P - 1)) := (nI_leI (by omega) (by omega)).mp c11
        refine lv_iconst (v := nI 1) hx hb dM_addRhs_37 (by decide) ?_
        refine lv_goto (tgt := 42) hx hb dM_addRhs_38 (by decide) ?_
        refine lv_istore_n (lv' := [(3, .int (nI 1)), (2, .int (nI (P - 1))), (0, .ref (ad 0)), (1, .int x)]) hx hb dM_addRhs_42 rfl hl (by decide) rfl (fun ls hl => ?_)
        refine lv_aload_n hx hb dM_addRhs_43 rfl (lv_at hl 2 rfl) ?_
        refine lv_iload_n hx hb dM_addRhs_44 rfl (lv_at hl 0 rfl) ?_
        refine lv_if_eq (tgt := 52) hx hb dM_addRhs_45 (by decide) (fun c12 => ?_) (fun c12 => ?_)
        · have c12 := w_z0 (by omega) c12
          first | exact absurd c12 (by decide) | exact c12.elim | exact absurd rfl c12
        · have c12 := w_n0 (by omega) c12
          refine lv_iconst (v := nI 1) hx hb dM_addRhs_48 (by decide) ?_
          refine lv_goto (tgt := 73) hx hb dM_addRhs_49 (by decide) ?_
          refine w_ci hE hA (w_runV C hk hE hl.1 (As := [.int (nI 1)]) (rest := []) (q := 0) (c_M_throwsBy l D cs ad (σ) 1 (by decide) _) (Nat.le_of_ble_eq_true rfl) (ci := 6) (N := 17) (T := F_M) rfl rfl tw_647 tw_649 ts_18 tw_9 tw_650 (n := 1) (by decide +kernel) rfl rfl (Nat.le_of_ble_eq_true rfl) dM_addRhs_73 ⟨Nat.le_of_ble_eq_true rfl, Nat.le_of_ble_eq_true rfl⟩ ⟨Nat.zero_le _, Nat.zero_le _⟩) (fun r13 τ14 H locs hp hE _ _ => ?_)
          refine w_top (y := nI 1) (hp.1.trans rfl) ?_
          have hE := wS_eq hp.2 hE
          refine lv_if_eq (tgt := 81) hx hb dM_addRhs_76 (by decide) (fun c15 => ?_) (fun c15 => ?_)
          · have c15 := w_z0 (by omega) c15
            first | exact absurd c15 (by decide) | exact c15.elim | exact absurd rfl c15
          · have c15 := w_n0 (by omega) c15
            refine lv_iconst (v := nI 0) hx hb dM_addRhs_79 (by decide) ?_
            exact w_reti C hE (Or.inl ⟨Or.inr (Or.inr (Or.inl c11)), rfl, rfl⟩) dM_addRhs_80
      · have c11 : ¬ (4 ≤ (mn σ (P - 1))) := fun h => c11 ((nI_leI (by omega) (by omega)).mpr h)
        refine lv_aload_n hx hb dM_addRhs_28 rfl (lv_at hl 1 rfl) ?_
        refine w_ci hE hA (w_runV C hk hE hl.1 (As := []) (rest := []) (q := 0) (c_M_allLengths l D cs ad σ P hg _) (Nat.le_of_ble_eq_true rfl) (ci := 6) (N := 17) (T := F_M) rfl rfl tw_679 tw_681 ts_25 tw_9 tw_682 (n := 0) (by decide +kernel) rfl rfl (Nat.le_of_ble_eq_true rfl) dM_addRhs_29 ⟨Nat.le_of_ble_eq_true rfl, Nat.le_of_ble_eq_true rfl⟩ ⟨Nat.zero_le _, Nat.zero_le _⟩) (fun r16 τ17 H locs hp hE _ _ => ?_)
        refine w_top hp.1 ?_
        have hE := wS_eq hp.2 hE
        have hal := allN_le (f := mn σ) P (fun p hp => mG_m hg hp)
        refine lv_bipush (v := nI 16) hx hb dM_addRhs_32 (by decide) ?_
        refine lv_icmp_lt (tgt := 41) hx hb dM_addRhs_34 (by decide) (fun c18 => ?_) (fun c18 => ?_)
        · have c18 : (allN (mn σ) P) < 16 := (nI_ltI (by omega) (by omega)).mp c18
          refine lv_iconst (v := nI 0) hx hb dM_addRhs_41 (by decide) ?_
          refine lv_istore_n (lv' := [(3, .int (nI 0)), (2, .int (nI (P - 1))), (0, .ref (ad 0)), (1, .int x)]) hx hb dM_addRhs_42 rfl hl (by decide) rfl (fun ls hl => ?_)
          refine lv_aload_n hx hb dM_addRhs_43 rfl (lv_at hl 2 rfl) ?_
          refine lv_iload_n hx hb dM_addRhs_44 rfl (lv_at hl 0 rfl) ?_
          refine lv_if_eq (tgt := 52) hx hb dM_addRhs_45 (by decide) (fun c19 => ?_) (fun c19 => ?_)
          · have c19 := w_z0 (by omega) c19
            refine lv_aload_n hx hb dM_addRhs_52 rfl (lv_at hl 2 rfl) ?_
            refine lv_iload_n hx hb dM_addRhs_53 rfl (lv_at hl 3 rfl) ?_
            refine w_ci hE hA (w_runV C hk hE hl.1 (As := [.int x]) (rest := [.ref (ad 0)]) (q := 0) (c_M_isVariable l D cs ad σ V9 x hV hV6 _) (Nat.le_of_ble_eq_true rfl) (ci := 6) (N := 17) (T := F_M) rfl rfl tw_643 tw_645 ts_17 tw_9 tw_646 (n := 1) (by decide +kernel) rfl rfl (Nat.le_of_ble_eq_true rfl) dM_addRhs_54 ⟨Nat.le_of_ble_eq_true rfl, Nat.le_of_ble_eq_true rfl⟩ ⟨Nat.zero_le _, Nat.zero_le _⟩) (fun r20 τ21 H locs hp hE _ _ => ?_)
            refine w_top hp.1 ?_
            have hE := wS_eq hp.2 hE
            refine lv_if_ne (tgt := 72) hx hb dM_addRhs_57 (by decide) (fun c22 => ?_) (fun c22 => ?_)
            · have c22 := zb_ne0 c22
              obtain ⟨hv1, hv2⟩ := isVn_of hV6 c22
              refine lv_iconst (v := nI 0) hx hb dM_addRhs_72 (by decide) ?_
              refine w_ci hE hA (w_runV C hk hE hl.1 (As := [.int (nI 0)]) (rest := []) (q := 0) (c_M_throwsBy l D cs ad (σ) 0 (by decide) _) (Nat.le_of_ble_eq_true rfl) (ci := 6) (N := 17) (T := F_M) rfl rfl tw_647 tw_649 ts_18 tw_9 tw_650 (n := 1) (by decide +kernel) rfl rfl (Nat.le_of_ble_eq_true rfl) dM_addRhs_73 ⟨Nat.le_of_ble_eq_true rfl, Nat.le_of_ble_eq_true rfl⟩ ⟨Nat.zero_le _, Nat.zero_le _⟩) (fun r23 τ24 H locs hp hE _ _ => ?_)
              refine w_top (y := nI 0) (hp.1.trans rfl) ?_
              have hE := wS_eq hp.2 hE
              refine lv_if_eq (tgt := 81) hx hb dM_addRhs_76 (by decide) (fun c25 => ?_) (fun c25 => ?_)
              · have c25 := w_z0 (by omega) c25
                refine lv_aload_n hx hb dM_addRhs_81 rfl (lv_at hl 2 rfl) ?_
                refine w_get C hk hE (K := R_M) (T := F_M) (N := 17) (ci := 6) in_M 0 (Nat.le_of_ble_eq_true rfl) rfl rfl 6 (by decide) tw_588 rfl rfl dM_addRhs_82 ?_
                refine lv_iconst (v := nI 4) hx hb dM_addRhs_85 (by decide) ?_
                refine lv_iload_n hx hb dM_addRhs_86 rfl (lv_at hl 1 rfl) ?_
                refine lv_imul hx hb dM_addRhs_87 ?_
                refine w_top (y := nI (4 * (P - 1))) (by exact pk_mul _ _) ?_
                refine lv_aload_n hx hb dM_addRhs_88 rfl (lv_at hl 2 rfl) ?_
                refine w_get C hk hE (K := R_M) (T := F_M) (N := 17) (ci := 6) in_M 0 (Nat.le_of_ble_eq_true rfl) rfl rfl 5 (by decide) tw_587 rfl rfl dM_addRhs_89 ?_
                refine lv_iload_n hx hb dM_addRhs_92 rfl (lv_at hl 1 rfl) ?_
                refine w_iald C hk hE 2 (by exact Nat.le_of_ble_eq_true rfl) (n := 8) rfl (by omega) (by first | decide | omega) dM_addRhs_93 ?_
                refine w_top (y := σ 2 (P - 1)) (by simp [mset, mrow, upd, mhc]) ?_
                refine w_top (y := nI (mn σ (P - 1))) (h2) ?_
                refine lv_iadd hx hb dM_addRhs_94 ?_
                refine w_top (y := nI ((4 * (P - 1)) + (mn σ (P - 1)))) (by first | exact nI_add _ _ | simp only [nI_add, Nat.add_assoc, Nat.add_zero, Nat.zero_add]) ?_
                refine lv_iload_n hx hb dM_addRhs_95 rfl (lv_at hl 3 rfl) ?_
                refine w_iast C hk hE 3 (by exact Nat.le_of_ble_eq_true rfl) (n := 32) (fun _ => rfl) (by omega) (by first | decide | omega) dM_addRhs_96 (fun H locs hE => ?_)
                refine lv_aload_n hx hb dM_addRhs_97 rfl (lv_at hl 2 rfl) ?_
                refine w_get C hk hE (K := R_M) (T := F_M) (N := 17) (ci := 6) in_M 0 (Nat.le_of_ble_eq_true rfl) rfl rfl 5 (by decide) tw_587 rfl rfl dM_addRhs_98 ?_
                refine lv_iload_n hx hb dM_addRhs_101 rfl (lv_at hl 1 rfl) ?_
                refine lv_aload_n hx hb dM_addRhs_102 rfl (lv_at hl 2 rfl) ?_
                refine w_get C hk hE (K := R_M) (T := F_M) (N := 17) (ci := 6) in_M 0 (Nat.le_of_ble_eq_true rfl) rfl rfl 5 (by decide) tw_587 rfl rfl dM_addRhs_103 ?_
                refine lv_iload_n hx hb dM_addRhs_106 rfl (lv_at hl 1 rfl) ?_
                refine w_iald C hk hE 2 (by exact Nat.le_of_ble_eq_true rfl) (n := 8) rfl (by omega) (by first | decide | omega) dM_addRhs_107 ?_
                refine w_top (y := σ 2 (P - 1)) (by simp [mset, mrow, upd, mhc]) ?_
                refine w_top (y := nI (mn σ (P - 1))) (h2) ?_
                refine lv_iconst (v := nI 1) hx hb dM_addRhs_108 (by decide) ?_
                refine lv_iadd hx hb dM_addRhs_109 ?_
                refine w_top (y := nI ((mn σ (P - 1)) + 1)) (by first | exact nI_add _ _ | simp only [nI_add, Nat.add_assoc, Nat.add_zero, Nat.zero_add]) ?_
                refine w_iast C hk hE 2 (by exact Nat.le_of_ble_eq_true rfl) (n := 8) (fun _ => rfl) (by omega) (by first | decide | omega) dM_addRhs_110 (fun H locs hE => ?_)
                have hE : wS (wM D cs ad) A s.heap (mRhs σ (P - 1) (mn σ (P - 1)) x) H locs := hE
                refine lv_aload_n hx hb dM_addRhs_111 rfl (lv_at hl 2 rfl) ?_
                refine w_cv hE hA (w_runV C hk hE hl.1 (As := []) (rest := []) (q := 0) (c_M_grammarChanged l D cs ad (mRhs σ (P - 1) (mn σ (P - 1)) x) P (by rw [hv1]; exact mG_rhs hg (by omega) (by omega) (by omega)) (bH_rhs hvb) _) (Nat.le_of_ble_eq_true rfl) (ci := 6) (N := 17) (T := F_M) rfl rfl tw_651 tw_653 ts_19 tw_9 tw_654 (n := 0) (by decide +kernel) rfl rfl (Nat.le_of_ble_eq_true rfl) dM_addRhs_112 ⟨Nat.le_of_ble_eq_true rfl, Nat.le_of_ble_eq_true rfl⟩ ⟨Nat.zero_le _, Nat.zero_le _⟩) (fun τ27 H locs hp hE _ _ => ?_)
                have hfil := hp
                refine lv_aload_n hx hb dM_addRhs_115 rfl (lv_at hl 2 rfl) ?_
                refine w_get C hk hE (K := R_M) (T := F_M) (N := 17) (ci := 6) in_M 0 (Nat.le_of_ble_eq_true rfl) rfl rfl 5 (by decide) tw_587 rfl rfl dM_addRhs_116 ?_
                refine lv_iload_n hx hb dM_addRhs_119 rfl (lv_at hl 1 rfl) ?_
                refine w_iald C hk hE 2 (by exact Nat.le_of_ble_eq_true rfl) (n := 8) rfl (by omega) (by first | decide | omega) dM_addRhs_120 ?_
                exact w_reti C hE (Or.inr (Or.inr ⟨by unfold rhsC; omega, Or.inl c22, by rw [filQ_n hfil (by decide) (by decide)]; exact mset_s, hfil⟩)) dM_addRhs_121
              · have c25 := w_n0 (by omega) c25
                first | exact absurd c25 (by decide) | exact c25.elim | exact absurd rfl c25
            · have c22 := zb_eq0 c22
              refine lv_aload_n hx hb dM_addRhs_60 rfl (lv_at hl 2 rfl) ?_
              refine lv_iload_n hx hb dM_addRhs_61 rfl (lv_at hl 3 rfl) ?_
              refine w_ci hE hA (w_runV C hk hE hl.1 (As := [.int x]) (rest := [.ref (ad 0)]) (q := 0) (c_M_isToken l D cs ad σ T9 x hT hT6 _) (Nat.le_of_ble_eq_true rfl) (ci := 6) (N := 17) (T := F_M) rfl rfl tw_683 tw_685 ts_26 tw_9 tw_686 (n := 1) (by decide +kernel) rfl rfl (Nat.le_of_ble_eq_true rfl) dM_addRhs_62 ⟨Nat.le_of_ble_eq_true rfl, Nat.le_of_ble_eq_true rfl⟩ ⟨Nat.zero_le _, Nat.zero_le _⟩) (fun r28 τ29 H locs hp hE _ _ => ?_)
              refine w_top hp.1 ?_
              have hE := wS_eq hp.2 hE
              refine lv_if_ne (tgt := 72) hx hb dM_addRhs_65 (by decide) (fun c30 => ?_) (fun c30 => ?_)
              · have c30 := zb_ne0 c30
                obtain ⟨hv1, hv2, hv3⟩ := isTn_of hT6 c30
                refine lv_iconst (v := nI 0) hx hb dM_addRhs_72 (by decide) ?_
                refine w_ci hE hA (w_runV C hk hE hl.1 (As := [.int (nI 0)]) (rest := []) (q := 0) (c_M_throwsBy l D cs ad (σ) 0 (by decide) _) (Nat.le_of_ble_eq_true rfl) (ci := 6) (N := 17) (T := F_M) rfl rfl tw_647 tw_649 ts_18 tw_9 tw_650 (n := 1) (by decide +kernel) rfl rfl (Nat.le_of_ble_eq_true rfl) dM_addRhs_73 ⟨Nat.le_of_ble_eq_true rfl, Nat.le_of_ble_eq_true rfl⟩ ⟨Nat.zero_le _, Nat.zero_le _⟩) (fun r31 τ32 H locs hp hE _ _ => ?_)
                refine w_top (y := nI 0) (hp.1.trans rfl) ?_
                have hE := wS_eq hp.2 hE
                refine lv_if_eq (tgt := 81) hx hb dM_addRhs_76 (by decide) (fun c33 => ?_) (fun c33 => ?_)
                · have c33 := w_z0 (by omega) c33
                  refine lv_aload_n hx hb dM_addRhs_81 rfl (lv_at hl 2 rfl) ?_
                  refine w_get C hk hE (K := R_M) (T := F_M) (N := 17) (ci := 6) in_M 0 (Nat.le_of_ble_eq_true rfl) rfl rfl 6 (by decide) tw_588 rfl rfl dM_addRhs_82 ?_
                  refine lv_iconst (v := nI 4) hx hb dM_addRhs_85 (by decide) ?_
                  refine lv_iload_n hx hb dM_addRhs_86 rfl (lv_at hl 1 rfl) ?_
                  refine lv_imul hx hb dM_addRhs_87 ?_
                  refine w_top (y := nI (4 * (P - 1))) (by exact pk_mul _ _) ?_
                  refine lv_aload_n hx hb dM_addRhs_88 rfl (lv_at hl 2 rfl) ?_
                  refine w_get C hk hE (K := R_M) (T := F_M) (N := 17) (ci := 6) in_M 0 (Nat.le_of_ble_eq_true rfl) rfl rfl 5 (by decide) tw_587 rfl rfl dM_addRhs_89 ?_
                  refine lv_iload_n hx hb dM_addRhs_92 rfl (lv_at hl 1 rfl) ?_
                  refine w_iald C hk hE 2 (by exact Nat.le_of_ble_eq_true rfl) (n := 8) rfl (by omega) (by first | decide | omega) dM_addRhs_93 ?_
                  refine w_top (y := σ 2 (P - 1)) (by simp [mset, mrow, upd, mhc]) ?_
                  refine w_top (y := nI (mn σ (P - 1))) (h2) ?_
                  refine lv_iadd hx hb dM_addRhs_94 ?_
                  refine w_top (y := nI ((4 * (P - 1)) + (mn σ (P - 1)))) (by first | exact nI_add _ _ | simp only [nI_add, Nat.add_assoc, Nat.add_zero, Nat.zero_add]) ?_
                  refine lv_iload_n hx hb dM_addRhs_95 rfl (lv_at hl 3 rfl) ?_
                  refine w_iast C hk hE 3 (by exact Nat.le_of_ble_eq_true rfl) (n := 32) (fun _ => rfl) (by omega) (by first | decide | omega) dM_addRhs_96 (fun H locs hE => ?_)
                  refine lv_aload_n hx hb dM_addRhs_97 rfl (lv_at hl 2 rfl) ?_
                  refine w_get C hk hE (K := R_M) (T := F_M) (N := 17) (ci := 6) in_M 0 (Nat.le_of_ble_eq_true rfl) rfl rfl 5 (by decide) tw_587 rfl rfl dM_addRhs_98 ?_
                  refine lv_iload_n hx hb dM_addRhs_101 rfl (lv_at hl 1 rfl) ?_
                  refine lv_aload_n hx hb dM_addRhs_102 rfl (lv_at hl 2 rfl) ?_
                  refine w_get C hk hE (K := R_M) (T := F_M) (N := 17) (ci := 6) in_M 0 (Nat.le_of_ble_eq_true rfl) rfl rfl 5 (by decide) tw_587 rfl rfl dM_addRhs_103 ?_
                  refine lv_iload_n hx hb dM_addRhs_106 rfl (lv_at hl 1 rfl) ?_
                  refine w_iald C hk hE 2 (by exact Nat.le_of_ble_eq_true rfl) (n := 8) rfl (by omega) (by first | decide | omega) dM_addRhs_107 ?_
                  refine w_top (y := σ 2 (P - 1)) (by simp [mset, mrow, upd, mhc]) ?_
                  refine w_top (y := nI (mn σ (P - 1))) (h2) ?_
                  refine lv_iconst (v := nI 1) hx hb dM_addRhs_108 (by decide) ?_
                  refine lv_iadd hx hb dM_addRhs_109 ?_
                  refine w_top (y := nI ((mn σ (P - 1)) + 1)) (by first | exact nI_add _ _ | simp only [nI_add, Nat.add_assoc, Nat.add_zero, Nat.zero_add]) ?_
                  refine w_iast C hk hE 2 (by exact Nat.le_of_ble_eq_true rfl) (n := 8) (fun _ => rfl) (by omega) (by first | decide | omega) dM_addRhs_110 (fun H locs hE => ?_)
                  have hE : wS (wM D cs ad) A s.heap (mRhs σ (P - 1) (mn σ (P - 1)) x) H locs := hE
                  refine lv_aload_n hx hb dM_addRhs_111 rfl (lv_at hl 2 rfl) ?_
                  refine w_cv hE hA (w_runV C hk hE hl.1 (As := []) (rest := []) (q := 0) (c_M_grammarChanged l D cs ad (mRhs σ (P - 1) (mn σ (P - 1)) x) P (by rw [hv1]; exact mG_rhs hg (by omega) (by omega) (by omega)) (bH_rhs hvb) _) (Nat.le_of_ble_eq_true rfl) (ci := 6) (N := 17) (T := F_M) rfl rfl tw_651 tw_653 ts_19 tw_9 tw_654 (n := 0) (by decide +kernel) rfl rfl (Nat.le_of_ble_eq_true rfl) dM_addRhs_112 ⟨Nat.le_of_ble_eq_true rfl, Nat.le_of_ble_eq_true rfl⟩ ⟨Nat.zero_le _, Nat.zero_le _⟩) (fun τ35 H locs hp hE _ _ => ?_)
                  have hfil := hp
                  refine lv_aload_n hx hb dM_addRhs_115 rfl (lv_at hl 2 rfl) ?_
                  refine w_get C hk hE (K := R_M) (T := F_M) (N := 17) (ci := 6) in_M 0 (Nat.le_of_ble_eq_true rfl) rfl rfl 5 (by decide) tw_587 rfl rfl dM_addRhs_116 ?_
                  refine lv_iload_n hx hb dM_addRhs_119 rfl (lv_at hl 1 rfl) ?_
                  refine w_iald C hk hE 2 (by exact Nat.le_of_ble_eq_true rfl) (n := 8) rfl (by omega) (by first | decide | omega) dM_addRhs_120 ?_
                  exact w_reti C hE (Or.inr (Or.inr ⟨by unfold rhsC; omega, Or.inr c30, by rw [filQ_n hfil (by decide) (by decide)]; exact mset_s, hfil⟩)) dM_addRhs_121
                · have c33 := w_n0 (by omega) c33
                  first | exact absurd c33 (by decide) | exact c33.elim | exact absurd rfl c33
              · have c30 := zb_eq0 c30
                refine lv_iconst (v := nI 2) hx hb dM_addRhs_68 (by decide) ?_
                refine lv_goto (tgt := 73) hx hb dM_addRhs_69 (by decide) ?_
                refine w_ci hE hA (w_runV C hk hE hl.1 (As := [.int (nI 2)]) (rest := []) (q := 0) (c_M_throwsBy l D cs ad (σ) 2 (by decide) _) (Nat.le_of_ble_eq_true rfl) (ci := 6) (N := 17) (T := F_M) rfl rfl tw_647 tw_649 ts_18 tw_9 tw_650 (n := 1) (by decide +kernel) rfl rfl (Nat.le_of_ble_eq_true rfl) dM_addRhs_73 ⟨Nat.le_of_ble_eq_true rfl, Nat.le_of_ble_eq_true rfl⟩ ⟨Nat.zero_le _, Nat.zero_le _⟩) (fun r36 τ37 H locs hp hE _ _ => ?_)
                refine w_top (y := nI 1) (hp.1.trans rfl) ?_
                have hE := wS_eq hp.2 hE
                refine lv_if_eq (tgt := 81) hx hb dM_addRhs_76 (by decide) (fun c38 => ?_) (fun c38 => ?_)
                · have c38 := w_z0 (by omega) c38
                  first | exact absurd c38 (by decide) | exact c38.elim | exact absurd rfl c38
                · have c38 := w_n0 (by omega) c38
                  refine lv_iconst (v := nI 0) hx hb dM_addRhs_79 (by decide) ?_
                  exact w_reti C hE (Or.inr (Or.inl ⟨by unfold rhsC; omega, c22, c30, rfl, rfl⟩)) dM_addRhs_80
          · have c19 := w_n0 (by omega) c19
            first | exact absurd c19 (by decide) | exact c19.elim | exact absurd rfl c19
        · have c18 : ¬ ((allN (mn σ) P) < 16) := fun h => c18 ((nI_ltI (by omega) (by omega)).mpr h)
          refine lv_iconst (v := nI 1) hx hb dM_addRhs_37 (by decide) ?_
          refine lv_goto (tgt := 42) hx hb dM_addRhs_38 (by decide) ?_
          refine lv_istore_n (lv' := [(3, .int (nI 1)), (2, .int (nI (P - 1))), (0, .ref (ad 0)), (1, .int x)]) hx hb dM_addRhs_42 rfl hl (by decide) rfl (fun ls hl => ?_)
          refine lv_aload_n hx hb dM_addRhs_43 rfl (lv_at hl 2 rfl) ?_
          refine lv_iload_n hx hb dM_addRhs_44 rfl (lv_at hl 0 rfl) ?_
          refine lv_if_eq (tgt := 52) hx hb dM_addRhs_45 (by decide) (fun c39 => ?_) (fun c39 => ?_)
          · have c39 := w_z0 (by omega) c39
            first | exact absurd c39 (by decide) | exact c39.elim | exact absurd rfl c39
          · have c39 := w_n0 (by omega) c39
            refine lv_iconst (v := nI 1) hx hb dM_addRhs_48 (by decide) ?_
            refine lv_goto (tgt := 73) hx hb dM_addRhs_49 (by decide) ?_
            refine w_ci hE hA (w_runV C hk hE hl.1 (As := [.int (nI 1)]) (rest := []) (q := 0) (c_M_throwsBy l D cs ad (σ) 1 (by decide) _) (Nat.le_of_ble_eq_true rfl) (ci := 6) (N := 17) (T := F_M) rfl rfl tw_647 tw_649 ts_18 tw_9 tw_650 (n := 1) (by decide +kernel) rfl rfl (Nat.le_of_ble_eq_true rfl) dM_addRhs_73 ⟨Nat.le_of_ble_eq_true rfl, Nat.le_of_ble_eq_true rfl⟩ ⟨Nat.zero_le _, Nat.zero_le _⟩) (fun r40 τ41 H locs hp hE _ _ => ?_)
            refine w_top (y := nI 1) (hp.1.trans rfl) ?_
            have hE := wS_eq hp.2 hE
            refine lv_if_eq (tgt := 81) hx hb dM_addRhs_76 (by decide) (fun c42 => ?_) (fun c42 => ?_)
            · have c42 := w_z0 (by omega) c42
              first | exact absurd c42 (by decide) | exact c42.elim | exact absurd rfl c42
            · have c42 := w_n0 (by omega) c42
              refine lv_iconst (v := nI 0) hx hb dM_addRhs_79 (by decide) ?_
              exact w_reti C hE (Or.inl ⟨Or.inr (Or.inr (Or.inr (by omega))), rfl, rfl⟩) dM_addRhs_80
set_option maxHeartbeats 4000000 in
set_option maxRecDepth 100000 in
theorem lp_M_item {p : Program} {l : Launch} {e : Env} {s : State} {m : MethodId} {below : List Frame} {meth : Method} {c : Code} {D : va_G} {cs : Nat → ClassId} {ad : Nat → Nat} {A : Nat → Prop} {σ : Mem} {P n9 V9 T9 : Nat} {x z : Int32} (C : bC p s m ([.ref (ad 0), .int x, .int z] : List Value).toArray meth c bM_item 6 "EarleyChartModel" (some .int)) (hk : wk D cs s) (hA : ∀ q : Nat, s.heap.size ≤ q → A q) (hI : mI σ P n9 V9 T9)   :
    ∀ (n : Nat) (a : Nat), (360 - a) < n → (a ≤ 360) → (a = 0 ∨ cntH (σ 5) (360 * x.toNatClampNeg) (a - 1) ≤ z.toNatClampNeg) → (¬ x < 0 ∧ ¬ nI n9 < x ∧ ¬ z < 0 ∧ ¬ nI (cntH (σ 5) (360 * x.toNatClampNeg) 360) ≤ z) → ∀ (H : Heap) (locs : List Loc) (ls : Array Slot), wS (wM D cs ad) A s.heap (mset σ 0 2 (nI 0)) H locs → lv_has ls 6 [(0, .ref (ad 0)), (1, .int x), (2, .int z), (4, .int (dn (cntH (σ 5) (360 * x.toNatClampNeg) a))), (5, .int (dn a))] → W p l e (rmF 1 23) s m ([.ref (ad 0), .int x, .int z] : List Value).toArray below meth c H locs 0 0 (wQi (wM D cs ad) A (fun r τ => ¬ (¬ x < 0 ∧ ¬ nI n9 < x ∧ ¬ z < 0 ∧ ¬ nI (cntH (σ 5) (360 * x.toNatClampNeg) 360) ≤ z) ∧ r = nI 0 ∧ τ = mset σ 0 2 (nI 1) ∨ (¬ x < 0 ∧ ¬ nI n9 < x ∧ ¬ z < 0 ∧ ¬ nI (cntH (σ 5) (360 * x.toNatClampNeg) 360) ≤ z) ∧ ∃ a, itP (σ 5) (360 * x.toNatClampNeg) z.toNatClampNeg a ∧ r = nI (1000 * (a / 45) + 100 * (a / 9 % 5) + a % 9) ∧ τ = mset σ 0 2 (nI 0)) s below ([.ref (ad 0), .int x, .int z] : List Value).toArray) (F0 m 55 ls []) := by
  obtain ⟨hx, hb, hml, hown, hts, hr, hlocks⟩ := id C
  obtain ⟨hg, hn8, hn7, hvb, hV6, hV, hT6, hT⟩ := id hI
  have hP8 := hg.1
  intro n
  induction n with
  | zero => intro a h; exact absurd h (Nat.not_lt_zero _)
  | succ n ih =>
    intro a hn ha360 hA9 hcond H locs ls hE hl
    obtain ⟨hx1, hx2⟩ := isKn_of hn8 hcond.1 (Int32.not_lt.mp hcond.2.1)
    have hc3 := cntH_le (f := σ 5) (b := 360 * x.toNatClampNeg) 360
    have hca := cntH_le (f := σ 5) (b := 360 * x.toNatClampNeg) a
    obtain ⟨hz1, hz2⟩ := isVn_of2 (by omega) hcond.2.2.1 (Int32.not_le.mp hcond.2.2.2)
    refine lv_iload hx hb dM_item_55 (lv_at hl 3 rfl) ?_
    refine lv_iload_n hx hb dM_item_57 rfl (lv_at hl 2 rfl) ?_
    refine w_top (y := nI z.toNatClampNeg) hz1 ?_
    refine lv_icmp_ge (tgt := 97) hx hb dM_item_58 (by decide) (fun c1 => ?_) (fun c1 => ?_)
    · obtain ⟨ha1, hit⟩ := it_done (fun h => absurd c1 (Int32.not_le.mpr ((dn_ltI (by omega) (by omega)).mpr h))) hA9 ha360
      have haa : a - 1 < 360 := hit.1
      rw [show dn a = nI (a - 1) by rw [show a = (a - 1) + 1 by omega]; rfl] at hl
      refine lv_sipush (v := nI 1000) hx hb dM_item_97 (by decide) ?_
      refine lv_iload hx hb dM_item_100 (lv_at hl 4 rfl) ?_
      refine lv_bipush (v := nI 45) hx hb dM_item_102 (by decide) ?_
      refine lv_idiv hx hb dM_item_104 (by decide) ?_
      refine w_top (y := nI ((a - 1) / 45)) (by exact pk_div (by omega) (by decide) (by decide)) ?_
      refine lv_imul hx hb dM_item_105 ?_
      refine w_top (y := nI (1000 * ((a - 1) / 45))) (by exact pk_mul _ _) ?_
      refine lv_bipush (v := nI 100) hx hb dM_item_106 (by decide) ?_
      refine lv_iload hx hb dM_item_108 (lv_at hl 4 rfl) ?_
      refine lv_bipush (v := nI 9) hx hb dM_item_110 (by decide) ?_
      refine lv_idiv hx hb dM_item_112 (by decide) ?_
      refine w_top (y := nI ((a - 1) / 9)) (by exact pk_div (by omega) (by decide) (by decide)) ?_
      refine lv_iconst (v := nI 5) hx hb dM_item_113 (by decide) ?_
      refine lv_irem hx hb dM_item_114 (by decide) ?_
      refine w_top (y := nI (((a - 1) / 9) % 5)) (by exact pk_rem (by omega) (by decide) (by decide)) ?_
      refine lv_imul hx hb dM_item_115 ?_
      refine w_top (y := nI (100 * (((a - 1) / 9) % 5))) (by exact pk_mul _ _) ?_
      refine lv_iadd hx hb dM_item_116 ?_
      refine w_top (y := nI ((1000 * ((a - 1) / 45)) + (100 * (((a - 1) / 9) % 5)))) (by first | exact nI_add _ _ | simp only [nI_add, Nat.add_assoc, Nat.add_zero, Nat.zero_add]) ?_
      refine lv_iload hx hb dM_item_117 (lv_at hl 4 rfl) ?_
      refine lv_bipush (v := nI 9) hx hb dM_item_119 (by decide) ?_
      refine lv_irem hx hb dM_item_121 (by decide) ?_
      refine w_top (y := nI ((a - 1) % 9)) (by exact pk_rem (by omega) (by decide) (by decide)) ?_
      refine lv_iadd hx hb dM_item_122 ?_
      refine w_top (y := nI (((1000 * ((a - 1) / 45)) + (100 * (((a - 1) / 9) % 5))) + ((a - 1) % 9))) (by first | exact nI_add _ _ | simp only [nI_add, Nat.add_assoc, Nat.add_zero, Nat.zero_add]) ?_
      exact w_reti C hE (Or.inr ⟨hcond, a - 1, hit, rfl, rfl⟩) dM_item_123
    · have hle := (dn_ltI (by omega) (by omega)).mp (Int32.not_le.mp c1)
      have ha9 := it_lt hle hz2 ha360
      refine lv_iload hx hb dM_item_61 (lv_at hl 4 rfl) ?_
      refine lv_iconst (v := nI 1) hx hb dM_item_63 (by decide) ?_
      refine lv_iadd hx hb dM_item_64 ?_
      refine w_top (y := nI a) (dn_succ a) ?_
      refine lv_istore (lv' := [(5, .int (nI a)), (0, .ref (ad 0)), (1, .int x), (2, .int z), (4, .int (dn (cntH (σ 5) (360 * x.toNatClampNeg) a)))]) hx hb dM_item_65 hl (by decide) rfl (fun ls hl => ?_)
      refine lv_aload_n hx hb dM_item_67 rfl (lv_at hl 1 rfl) ?_
      refine w_get C hk hE (K := R_M) (T := F_M) (N := 17) (ci := 6) in_M 0 (Nat.le_of_ble_eq_true rfl) rfl rfl 9 (by decide) tw_591 rfl rfl dM_item_68 ?_
      refine lv_sipush (v := nI 360) hx hb dM_item_71 (by decide) ?_
      refine lv_iload_n hx hb dM_item_74 rfl (lv_at hl 2 rfl) ?_
      refine w_top (y := nI x.toNatClampNeg) hx1 ?_
      refine lv_imul hx hb dM_item_75 ?_
      refine w_top (y := nI (360 * x.toNatClampNeg)) (by exact pk_mul _ _) ?_
      refine lv_iload hx hb dM_item_76 (lv_at hl 0 rfl) ?_
      refine lv_iadd hx hb dM_item_78 ?_
      refine w_top (y := nI ((360 * x.toNatClampNeg) + a)) (by first | exact nI_add _ _ | simp only [nI_add, Nat.add_assoc, Nat.add_zero, Nat.zero_add]) ?_
      refine w_zald C hk hE 5 (by exact Nat.le_of_ble_eq_true rfl) (n := 3240) rfl (by omega) (by first | decide | omega) dM_item_79 ?_
      refine w_top (y := σ 5 ((360 * x.toNatClampNeg) + a)) (by simp [mset, mrow, upd, mhc]) ?_
      refine lv_if_eq (tgt := 90) hx hb dM_item_80 (by decide) (fun c2 => ?_) (fun c2 => ?_)
      · refine lv_iload hx hb dM_item_90 (lv_at hl 4 rfl) ?_
        refine lv_istore (lv' := [(4, .int (dn (cntH (σ 5) (360 * x.toNatClampNeg) a))), (5, .int (nI a)), (0, .ref (ad 0)), (1, .int x), (2, .int z)]) hx hb dM_item_92 hl (by decide) rfl (fun ls hl => ?_)
        refine lv_goto (tgt := 55) hx hb dM_item_94 (by decide) ?_
        have ev3 : (dn (cntH (σ 5) (360 * x.toNatClampNeg) a) : Int32) = dn (cntH (σ 5) (360 * x.toNatClampNeg) (a + 1)) := by rw [cntH, if_pos c2]
        have hl : lv_has ls 6 [(4, .int (dn (cntH (σ 5) (360 * x.toNatClampNeg) (a + 1)))), (5, .int (nI a)), (0, .ref (ad 0)), (1, .int x), (2, .int z)] := lv_chg 0 ev3 rfl hl
        have ev4 : (nI a : Int32) = dn (a + 1) := by rfl
        have hl : lv_has ls 6 [(4, .int (dn (cntH (σ 5) (360 * x.toNatClampNeg) (a + 1)))), (5, .int (dn (a + 1))), (0, .ref (ad 0)), (1, .int x), (2, .int z)] := lv_chg 1 ev4 rfl hl
        exact ih (a + 1) (by omega) (by omega) (Or.inr hle) (hcond) _ _ ls hE (lv_sub hl [2, 3, 4, 0, 1] rfl)
      · refine lv_iload hx hb dM_item_83 (lv_at hl 4 rfl) ?_
        refine lv_iconst (v := nI 1) hx hb dM_item_85 (by decide) ?_
        refine lv_iadd hx hb dM_item_86 ?_
        refine w_top (y := nI (cntH (σ 5) (360 * x.toNatClampNeg) a)) (dn_succ _) ?_
        refine lv_goto (tgt := 92) hx hb dM_item_87 (by decide) ?_
        refine lv_istore (lv' := [(4, .int (nI (cntH (σ 5) (360 * x.toNatClampNeg) a))), (5, .int (nI a)), (0, .ref (ad 0)), (1, .int x), (2, .int z)]) hx hb dM_item_92 hl (by decide) rfl (fun ls hl => ?_)
        refine lv_goto (tgt := 55) hx hb dM_item_94 (by decide) ?_
        have ev5 : (nI (cntH (σ 5) (360 * x.toNatClampNeg) a) : Int32) = dn (cntH (σ 5) (360 * x.toNatClampNeg) (a + 1)) := by rw [cntH, if_neg c2]; rfl
        have hl : lv_has ls 6 [(4, .int (dn (cntH (σ 5) (360 * x.toNatClampNeg) (a + 1)))), (5, .int (nI a)), (0, .ref (ad 0)), (1, .int x), (2, .int z)] := lv_chg 0 ev5 rfl hl
        have ev6 : (nI a : Int32) = dn (a + 1) := by rfl
        have hl : lv_has ls 6 [(4, .int (dn (cntH (σ 5) (360 * x.toNatClampNeg) (a + 1)))), (5, .int (dn (a + 1))), (0, .ref (ad 0)), (1, .int x), (2, .int z)] := lv_chg 1 ev6 rfl hl
        exact ih (a + 1) (by omega) (by omega) (Or.inr hle) (hcond) _ _ ls hE (lv_sub hl [2, 3, 4, 0, 1] rfl)
set_option maxHeartbeats 4000000 in
set_option maxRecDepth 100000 in
theorem c_M_item (l : Launch) (D : va_G) (cs : Nat → ClassId) (ad : Nat → Nat) (σ : Mem) (P n9 V9 T9 : Nat) (x z : Int32) (hI : mI σ P n9 V9 T9) : MetI l (wM D cs ad) cs yM_item bM_item 6 (some .int) 1 23 [.ref (ad 0), .int x, .int z] σ (fun r τ => ¬ (¬ x < 0 ∧ ¬ nI n9 < x ∧ ¬ z < 0 ∧ ¬ nI (cntH (σ 5) (360 * x.toNatClampNeg) 360) ≤ z) ∧ r = nI 0 ∧ τ = mset σ 0 2 (nI 1) ∨ (¬ x < 0 ∧ ¬ nI n9 < x ∧ ¬ z < 0 ∧ ¬ nI (cntH (σ 5) (360 * x.toNatClampNeg) 360) ≤ z) ∧ ∃ a, itP (σ 5) (360 * x.toNatClampNeg) z.toNatClampNeg a ∧ r = nI (1000 * (a / 45) + 100 * (a / 9 % 5) + a % 9) ∧ τ = mset σ 0 2 (nI 0)) := by
  refine MetI.start (by decide) (Nat.le_of_ble_eq_true rfl) ?_
  intro p e s m below meth c A ls C hk hA hE hl
  obtain ⟨hx, hb, hml, hown, hts, hr, hlocks⟩ := id C
  have hl : lv_has ls 6 [(0, .ref (ad 0)), (1, .int x), (2, .int z)] := hl
  obtain ⟨hg, hn8, hn7, hvb, hV6, hV, hT6, hT⟩ := id hI
  have hP8 := hg.1
  refine lv_iload_n hx hb dM_item_0 rfl (lv_at hl 1 rfl) ?_
  refine lv_if_lt (tgt := 29) hx hb dM_item_1 (by decide) (fun c1 => ?_) (fun c1 => ?_)
  · refine lv_iconst (v := nI 0) hx hb dM_item_29 (by decide) ?_
    refine lv_istore_n (lv' := [(3, .int (nI 0)), (0, .ref (ad 0)), (1, .int x), (2, .int z)]) hx hb dM_item_30 rfl hl (by decide) rfl (fun ls hl => ?_)
    refine lv_aload_n hx hb dM_item_31 rfl (lv_at hl 1 rfl) ?_
    refine lv_iload_n hx hb dM_item_32 rfl (lv_at hl 0 rfl) ?_
    refine lv_if_eq (tgt := 40) hx hb dM_item_33 (by decide) (fun c2 => ?_) (fun c2 => ?_)
    · have c2 := w_z0 (by omega) c2
      refine lv_iconst (v := nI 1) hx hb dM_item_40 (by decide) ?_
      refine w_ci hE hA (w_runV C hk hE hl.1 (As := [.int (nI 1)]) (rest := []) (q := 0) (c_M_throwsBy l D cs ad (σ) 1 (by decide) _) (Nat.le_of_ble_eq_true rfl) (ci := 6) (N := 17) (T := F_M) rfl rfl tw_647 tw_649 ts_18 tw_9 tw_650 (n := 1) (by decide +kernel) rfl rfl (Nat.le_of_ble_eq_true rfl) dM_item_41 ⟨Nat.le_of_ble_eq_true rfl, Nat.le_of_ble_eq_true rfl⟩ ⟨Nat.zero_le _, Nat.zero_le _⟩) (fun r3 τ4 H locs hp hE _ _ => ?_)
      refine w_top (y := nI 1) (hp.1.trans rfl) ?_
      have hE := wS_eq hp.2 hE
      refine lv_if_eq (tgt := 49) hx hb dM_item_44 (by decide) (fun c5 => ?_) (fun c5 => ?_)
      · have c5 := w_z0 (by omega) c5
        first | exact absurd c5 (by decide) | exact c5.elim | exact absurd rfl c5
      · have c5 := w_n0 (by omega) c5
        refine lv_iconst (v := nI 0) hx hb dM_item_47 (by decide) ?_
        exact w_reti C hE (Or.inl ⟨fun h => absurd c1 h.1, rfl, rfl⟩) dM_item_48
    · have c2 := w_n0 (by omega) c2
      first | exact absurd c2 (by decide) | exact c2.elim | exact absurd rfl c2
  · have c9a := c1
    refine lv_iload_n hx hb dM_item_4 rfl (lv_at hl 1 rfl) ?_
    refine lv_aload_n hx hb dM_item_5 rfl (lv_at hl 0 rfl) ?_
    refine w_get C hk hE (K := R_M) (T := F_M) (N := 17) (ci := 6) in_M 0 (Nat.le_of_ble_eq_true rfl) rfl rfl 7 (by decide) tw_589 rfl rfl dM_item_6 ?_
    refine w_top (y := nI n9) (hn7) ?_
    refine lv_icmp_gt (tgt := 29) hx hb dM_item_9 (by decide) (fun c6 => ?_) (fun c6 => ?_)
    · refine lv_iconst (v := nI 0) hx hb dM_item_29 (by decide) ?_
      refine lv_istore_n (lv' := [(3, .int (nI 0)), (0, .ref (ad 0)), (1, .int x), (2, .int z)]) hx hb dM_item_30 rfl hl (by decide) rfl (fun ls hl => ?_)
      refine lv_aload_n hx hb dM_item_31 rfl (lv_at hl 1 rfl) ?_
      refine lv_iload_n hx hb dM_item_32 rfl (lv_at hl 0 rfl) ?_
      refine lv_if_eq (tgt := 40) hx hb dM_item_33 (by decide) (fun c7 => ?_) (fun c7 => ?_)
      · have c7 := w_z0 (by omega) c7
        refine lv_iconst (v := nI 1) hx hb dM_item_40 (by decide) ?_
        refine w_ci hE hA (w_runV C hk hE hl.1 (As := [.int (nI 1)]) (rest := []) (q := 0) (c_M_throwsBy l D cs ad (σ) 1 (by decide) _) (Nat.le_of_ble_eq_true rfl) (ci := 6) (N := 17) (T := F_M) rfl rfl tw_647 tw_649 ts_18 tw_9 tw_650 (n := 1) (by decide +kernel) rfl rfl (Nat.le_of_ble_eq_true rfl) dM_item_41 ⟨Nat.le_of_ble_eq_true rfl, Nat.le_of_ble_eq_true rfl⟩ ⟨Nat.zero_le _, Nat.zero_le _⟩) (fun r8 τ9 H locs hp hE _ _ => ?_)
        refine w_top (y := nI 1) (hp.1.trans rfl) ?_
        have hE := wS_eq hp.2 hE
        refine lv_if_eq (tgt := 49) hx hb dM_item_44 (by decide) (fun c10 => ?_) (fun c10 => ?_)
        · have c10 := w_z0 (by omega) c10
          first | exact absurd c10 (by decide) | exact c10.elim | exact absurd rfl c10
        · have c10 := w_n0 (by omega) c10
          refine lv_iconst (v := nI 0) hx hb dM_item_47 (by decide) ?_
          exact w_reti C hE (Or.inl ⟨fun h => absurd c6 h.2.1, rfl, rfl⟩) dM_item_48
      · have c7 := w_n0 (by omega) c7
        first | exact absurd c7 (by decide) | exact c7.elim | exact absurd rfl c7
    · obtain ⟨hx1, hx2⟩ := isKn_of hn8 c9a (Int32.not_lt.mp c6)
      refine lv_iload_n hx hb dM_item_12 rfl (lv_at hl 2 rfl) ?_
      refine lv_if_lt (tgt := 29) hx hb dM_item_13 (by decide) (fun c11 => ?_) (fun c11 => ?_)
      · refine lv_iconst (v := nI 0) hx hb dM_item_29 (by decide) ?_
        refine lv_istore_n (lv' := [(3, .int (nI 0)), (0, .ref (ad 0)), (1, .int x), (2, .int z)]) hx hb dM_item_30 rfl hl (by decide) rfl (fun ls hl => ?_)
        refine lv_aload_n hx hb dM_item_31 rfl (lv_at hl 1 rfl) ?_
        refine lv_iload_n hx hb dM_item_32 rfl (lv_at hl 0 rfl) ?_
        refine lv_if_eq (tgt := 40) hx hb dM_item_33 (by decide) (fun c12 => ?_) (fun c12 => ?_)
        · have c12 := w_z0 (by omega) c12
          refine lv_iconst (v := nI 1) hx hb dM_item_40 (by decide) ?_
          refine w_ci hE hA (w_runV C hk hE hl.1 (As := [.int (nI 1)]) (rest := []) (q := 0) (c_M_throwsBy l D cs ad (σ) 1 (by decide) _) (Nat.le_of_ble_eq_true rfl) (ci := 6) (N := 17) (T := F_M) rfl rfl tw_647 tw_649 ts_18 tw_9 tw_650 (n := 1) (by decide +kernel) rfl rfl (Nat.le_of_ble_eq_true rfl) dM_item_41 ⟨Nat.le_of_ble_eq_true rfl, Nat.le_of_ble_eq_true rfl⟩ ⟨Nat.zero_le _, Nat.zero_le _⟩) (fun r13 τ14 H locs hp hE _ _ => ?_)
          refine w_top (y := nI 1) (hp.1.trans rfl) ?_
          have hE := wS_eq hp.2 hE
          refine lv_if_eq (tgt := 49) hx hb dM_item_44 (by decide) (fun c15 => ?_) (fun c15 => ?_)
          · have c15 := w_z0 (by omega) c15
            first | exact absurd c15 (by decide) | exact c15.elim | exact absurd rfl c15
          · have c15 := w_n0 (by omega) c15
            refine lv_iconst (v := nI 0) hx hb dM_item_47 (by decide) ?_
            exact w_reti C hE (Or.inl ⟨fun h => absurd c11 h.2.2.1, rfl, rfl⟩) dM_item_48
        · have c12 := w_n0 (by omega) c12
          first | exact absurd c12 (by decide) | exact c12.elim | exact absurd rfl c12
      · refine lv_iload_n hx hb dM_item_16 rfl (lv_at hl 2 rfl) ?_
        refine lv_aload_n hx hb dM_item_17 rfl (lv_at hl 0 rfl) ?_
        refine lv_iload_n hx hb dM_item_18 rfl (lv_at hl 1 rfl) ?_
        refine w_top (y := nI x.toNatClampNeg) hx1 ?_
        refine w_ci hE hA (w_runV C hk hE hl.1 (As := [.int (nI x.toNatClampNeg)]) (rest := [.int z]) (q := 0) (c_M_sizeOf l D cs ad σ x.toNatClampNeg (by omega) _) (Nat.le_of_ble_eq_true rfl) (ci := 6) (N := 17) (T := F_M) rfl rfl tw_691 tw_693 ts_27 tw_9 tw_694 (n := 1) (by decide +kernel) rfl rfl (Nat.le_of_ble_eq_true rfl) dM_item_19 ⟨Nat.le_of_ble_eq_true rfl, Nat.le_of_ble_eq_true rfl⟩ ⟨Nat.zero_le _, Nat.zero_le _⟩) (fun r16 τ17 H locs hp hE _ _ => ?_)
        refine w_top hp.1 ?_
        have hE := wS_eq hp.2 hE
        refine lv_icmp_ge (tgt := 29) hx hb dM_item_22 (by decide) (fun c18 => ?_) (fun c18 => ?_)
        · refine lv_iconst (v := nI 0) hx hb dM_item_29 (by decide) ?_
          refine lv_istore_n (lv' := [(3, .int (nI 0)), (0, .ref (ad 0)), (1, .int x), (2, .int z)]) hx hb dM_item_30 rfl hl (by decide) rfl (fun ls hl => ?_)
          refine lv_aload_n hx hb dM_item_31 rfl (lv_at hl 1 rfl) ?_
          refine lv_iload_n hx hb dM_item_32 rfl (lv_at hl 0 rfl) ?_
          refine lv_if_eq (tgt := 40) hx hb dM_item_33 (by decide) (fun c19 => ?_) (fun c19 => ?_)
          · have c19 := w_z0 (by omega) c19
            refine lv_iconst (v := nI 1) hx hb dM_item_40 (by decide) ?_
            refine w_ci hE hA (w_runV C hk hE hl.1 (As := [.int (nI 1)]) (rest := []) (q := 0) (c_M_throwsBy l D cs ad (σ) 1 (by decide) _) (Nat.le_of_ble_eq_true rfl) (ci := 6) (N := 17) (T := F_M) rfl rfl tw_647 tw_649 ts_18 tw_9 tw_650 (n := 1) (by decide +kernel) rfl rfl (Nat.le_of_ble_eq_true rfl) dM_item_41 ⟨Nat.le_of_ble_eq_true rfl, Nat.le_of_ble_eq_true rfl⟩ ⟨Nat.zero_le _, Nat.zero_le _⟩) (fun r20 τ21 H locs hp hE _ _ => ?_)
            refine w_top (y := nI 1) (hp.1.trans rfl) ?_
            have hE := wS_eq hp.2 hE
            refine lv_if_eq (tgt := 49) hx hb dM_item_44 (by decide) (fun c22 => ?_) (fun c22 => ?_)
            · have c22 := w_z0 (by omega) c22
              first | exact absurd c22 (by decide) | exact c22.elim | exact absurd rfl c22
            · have c22 := w_n0 (by omega) c22
              refine lv_iconst (v := nI 0) hx hb dM_item_47 (by decide) ?_
              exact w_reti C hE (Or.inl ⟨fun h => h.2.2.2 c18, rfl, rfl⟩) dM_item_48
          · have c19 := w_n0 (by omega) c19
            first | exact absurd c19 (by decide) | exact c19.elim | exact absurd rfl c19
        · have hcond : ¬ x < 0 ∧ ¬ nI n9 < x ∧ ¬ z < 0 ∧ ¬ nI (cntH (σ 5) (360 * x.toNatClampNeg) 360) ≤ z := ⟨c9a, by assumption, by assumption, c18⟩
          refine lv_iconst (v := nI 1) hx hb dM_item_25 (by decide) ?_
          refine lv_goto (tgt := 30) hx hb dM_item_26 (by decide) ?_
          refine lv_istore_n (lv' := [(3, .int (nI 1)), (0, .ref (ad 0)), (1, .int x), (2, .int z)]) hx hb dM_item_30 rfl hl (by decide) rfl (fun ls hl => ?_)
          refine lv_aload_n hx hb dM_item_31 rfl (lv_at hl 1 rfl) ?_
          refine lv_iload_n hx hb dM_item_32 rfl (lv_at hl 0 rfl) ?_
          refine lv_if_eq (tgt := 40) hx hb dM_item_33 (by decide) (fun c23 => ?_) (fun c23 => ?_)
          · have c23 := w_z0 (by omega) c23
            first | exact absurd c23 (by decide) | exact c23.elim | exact absurd rfl c23
          · have c23 := w_n0 (by omega) c23
            refine lv_iconst (v := nI 0) hx hb dM_item_36 (by decide) ?_
            refine lv_goto (tgt := 41) hx hb dM_item_37 (by decide) ?_
            refine w_ci hE hA (w_runV C hk hE hl.1 (As := [.int (nI 0)]) (rest := []) (q := 0) (c_M_throwsBy l D cs ad (σ) 0 (by decide) _) (Nat.le_of_ble_eq_true rfl) (ci := 6) (N := 17) (T := F_M) rfl rfl tw_647 tw_649 ts_18 tw_9 tw_650 (n := 1) (by decide +kernel) rfl rfl (Nat.le_of_ble_eq_true rfl) dM_item_41 ⟨Nat.le_of_ble_eq_true rfl, Nat.le_of_ble_eq_true rfl⟩ ⟨Nat.zero_le _, Nat.zero_le _⟩) (fun r24 τ25 H locs hp hE _ _ => ?_)
            refine w_top (y := nI 0) (hp.1.trans rfl) ?_
            have hE := wS_eq hp.2 hE
            refine lv_if_eq (tgt := 49) hx hb dM_item_44 (by decide) (fun c26 => ?_) (fun c26 => ?_)
            · have c26 := w_z0 (by omega) c26
              refine lv_iconst (v := (-1)) hx hb dM_item_49 (by decide) ?_
              refine lv_istore (lv' := [(4, .int (-1)), (3, .int (nI 1)), (0, .ref (ad 0)), (1, .int x), (2, .int z)]) hx hb dM_item_50 hl (by decide) rfl (fun ls hl => ?_)
              refine lv_iconst (v := (-1)) hx hb dM_item_52 (by decide) ?_
              refine lv_istore (lv' := [(5, .int (-1)), (4, .int (-1)), (3, .int (nI 1)), (0, .ref (ad 0)), (1, .int x), (2, .int z)]) hx hb dM_item_53 hl (by decide) rfl (fun ls hl => ?_)
              have ev27 : ((-1) : Int32) = dn (cntH (σ 5) (360 * x.toNatClampNeg) 0) := by rfl
              have hl : lv_has ls 6 [(5, .int (-1)), (4, .int (dn (cntH (σ 5) (360 * x.toNatClampNeg) 0))), (3, .int (nI 1)), (0, .ref (ad 0)), (1, .int x), (2, .int z)] := lv_chg 1 ev27 rfl hl
              have ev28 : ((-1) : Int32) = dn 0 := by rfl
              have hl : lv_has ls 6 [(5, .int (dn 0)), (4, .int (dn (cntH (σ 5) (360 * x.toNatClampNeg) 0))), (3, .int (nI 1)), (0, .ref (ad 0)), (1, .int x), (2, .int z)] := lv_chg 0 ev28 rfl hl
              exact lp_M_item C hk hA hI _ 0 (Nat.lt_succ_self _) (by decide) (Or.inl rfl) (hcond) _ _ ls (wS_eq (show mset (σ) 0 2 (nI 0) = mset σ 0 2 (nI 0) by rfl) hE) (lv_sub hl [3, 4, 5, 1, 0] rfl)
            · have c26 := w_n0 (by omega) c26
              first | exact absurd c26 (by decide) | exact c26.elim | exact absurd rfl c26
