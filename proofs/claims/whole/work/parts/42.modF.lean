set_option maxHeartbeats 4000000 in
set_option maxRecDepth 100000 in
theorem c_M_grammarChanged (l : Launch) (D : va_G) (cs : Nat → ClassId) (ad : Nat → Nat) (σ : Mem) (P : Nat) (hg : mG σ P) (hvb : bH (σ 5, σ 0 10)) : MetV l (wM D cs ad) cs yM_grammarChanged bM_grammarChanged 1 3 77 [.ref (ad 0)] σ (filQ σ P 0) := by
  refine MetV.start (by decide) (Nat.le_of_ble_eq_true rfl) ?_
  intro p e s m below meth c A ls C hk hA hE hl
  obtain ⟨hx, hb, hml, hown, hts, hr, hlocks⟩ := id C
  have hl : lv_has ls 1 [(0, .ref (ad 0))] := hl
  refine lv_aload_n hx hb dM_grammarChanged_0 rfl (lv_at hl 0 rfl) ?_
  refine lv_iconst (v := nI 0) hx hb dM_grammarChanged_1 (by decide) ?_
  refine w_put C hk hE (K := R_M) (T := F_M) (N := 17) (ci := 6) in_M ft_M_ok fn_M 0 (Nat.le_of_ble_eq_true rfl) rfl rfl 14 (by decide) tw_596 rfl rfl (rfl) (rfl) (Nat.le_of_ble_eq_true rfl) rfl dM_grammarChanged_2 (fun H locs hE => ?_)
  refine lv_aload_n hx hb dM_grammarChanged_5 rfl (lv_at hl 0 rfl) ?_
  refine lv_iconst (v := nI 0) hx hb dM_grammarChanged_6 (by decide) ?_
  refine w_put C hk hE (K := R_M) (T := F_M) (N := 17) (ci := 6) in_M ft_M_ok fn_M 0 (Nat.le_of_ble_eq_true rfl) rfl rfl 12 (by decide) tw_594 rfl rfl (rfl) (rfl) (Nat.le_of_ble_eq_true rfl) rfl dM_grammarChanged_7 (fun H locs hE => ?_)
  refine lv_aload_n hx hb dM_grammarChanged_10 rfl (lv_at hl 0 rfl) ?_
  refine lv_iconst (v := nI 0) hx hb dM_grammarChanged_11 (by decide) ?_
  refine w_cv hE hA (w_runV C hk hE hl.1 (As := [.int (nI 0)]) (rest := []) (q := 0) (c_M_fill l D cs ad (mCh σ) P 0 (mG_ch hg) (by decide) (bH_ch hvb) _) (Nat.le_of_ble_eq_true rfl) (ci := 6) (N := 17) (T := F_M) rfl rfl tw_655 tw_657 ts_20 tw_9 tw_658 (n := 1) (by decide +kernel) rfl rfl (Nat.le_of_ble_eq_true rfl) dM_grammarChanged_12 ⟨Nat.le_of_ble_eq_true rfl, Nat.le_of_ble_eq_true rfl⟩ ⟨Nat.zero_le _, Nat.zero_le _⟩) (fun τ2 H locs hp hE _ _ => ?_)
  exact w_retv C hE (hp) dM_grammarChanged_15
set_option maxHeartbeats 4000000 in
set_option maxRecDepth 100000 in
theorem lp_M_isAccepted {p : Program} {l : Launch} {e : Env} {s : State} {m : MethodId} {below : List Frame} {meth : Method} {c : Code} {D : va_G} {cs : Nat → ClassId} {ad : Nat → Nat} {A : Nat → Prop} {σ : Mem} {P n9 V9 T9 : Nat} (C : bC p s m ([.ref (ad 0)] : List Value).toArray meth c bM_isAccepted 3 "EarleyChartModel" (some .boolean)) (hk : wk D cs s) (hA : ∀ q : Nat, s.heap.size ≤ q → A q) (hI : mI σ P n9 V9 T9)   :
    ∀ (n : Nat) (p9 : Nat), (P - p9) < n → (p9 ≤ P) → ∀ (H : Heap) (locs : List Loc) (ls : Array Slot), wS (wM D cs ad) A s.heap σ H locs → lv_has ls 3 [(0, .ref (ad 0)), (1, .int (zb (accF σ n9 p9))), (2, .int (nI p9))] → W p l e (rmF 1 24) s m ([.ref (ad 0)] : List Value).toArray below meth c H locs 0 0 (wQi (wM D cs ad) A (fun r τ => r = zb (accF σ n9 P) ∧ τ = σ) s below ([.ref (ad 0)] : List Value).toArray) (F0 m 4 ls []) := by
  obtain ⟨hx, hb, hml, hown, hts, hr, hlocks⟩ := id C
  obtain ⟨hg, hn8, hn7, hvb, hV6, hV, hT6, hT⟩ := id hI
  have hP8 := hg.1
  intro n
  induction n with
  | zero => intro p9 h; exact absurd h (Nat.not_lt_zero _)
  | succ n ih =>
    intro p9 hn hp9 H locs ls hE hl
    refine lv_iload_n hx hb dM_isAccepted_4 rfl (lv_at hl 2 rfl) ?_
    refine lv_aload_n hx hb dM_isAccepted_5 rfl (lv_at hl 0 rfl) ?_
    refine w_get C hk hE (K := R_M) (T := F_M) (N := 17) (ci := 6) in_M 0 (Nat.le_of_ble_eq_true rfl) rfl rfl 3 (by decide) tw_585 rfl rfl dM_isAccepted_6 ?_
    refine w_top (y := nI P) (hg.2.1) ?_
    refine lv_icmp_ge (tgt := 62) hx hb dM_isAccepted_9 (by decide) (fun c1 => ?_) (fun c1 => ?_)
    · have c1 : P ≤ p9 := (nI_leI (by omega) (by omega)).mp c1
      refine lv_iload_n hx hb dM_isAccepted_62 rfl (lv_at hl 1 rfl) ?_
      exact w_retz C hE (zb_01 _) (⟨by rw [show P = p9 by omega], rfl⟩) dM_isAccepted_63
    · have c1 : ¬ (P ≤ p9) := fun h => c1 ((nI_leI (by omega) (by omega)).mpr h)
      have hml := (hg.2.2 p9 (by omega)).2.1
      have hml0 := (hg.2.2 0 (by omega)).2.1
      have hmn := mG_m hg (by omega : p9 < P)
      refine lv_iload_n hx hb dM_isAccepted_12 rfl (lv_at hl 1 rfl) ?_
      refine lv_if_ne (tgt := 50) hx hb dM_isAccepted_13 (by decide) (fun c2 => ?_) (fun c2 => ?_)
      · have c2 := zb_ne0 c2
        refine lv_iconst (v := nI 1) hx hb dM_isAccepted_50 (by decide) ?_
        refine lv_goto (tgt := 55) hx hb dM_isAccepted_51 (by decide) ?_
        refine lv_istore_n (lv' := [(1, .int (nI 1)), (0, .ref (ad 0)), (2, .int (nI p9))]) hx hb dM_isAccepted_55 rfl hl (by decide) rfl (fun ls hl => ?_)
        refine lv_iinc (v := nI (p9 + 1)) (lv' := [(2, .int (nI (p9 + 1))), (1, .int (nI 1)), (0, .ref (ad 0))]) hx hb dM_isAccepted_56 hl (k := 2) rfl (by exact nI_1 _) (by decide) rfl (fun ls hl => ?_)
        refine lv_goto (tgt := 4) hx hb dM_isAccepted_59 (by decide) ?_
        have ev3 : (nI 1 : Int32) = zb (accF σ n9 (p9 + 1)) := by rw [accF]; simp [zb, c2]
        rw [ev3] at hl
        exact ih (p9 + 1) (by omega) (by omega) _ _ ls hE (lv_sub hl [2, 1, 0] rfl)
      · have c2 := zb_eq0 c2
        refine lv_aload_n hx hb dM_isAccepted_16 rfl (lv_at hl 0 rfl) ?_
        refine w_get C hk hE (K := R_M) (T := F_M) (N := 17) (ci := 6) in_M 0 (Nat.le_of_ble_eq_true rfl) rfl rfl 4 (by decide) tw_586 rfl rfl dM_isAccepted_17 ?_
        refine lv_iload_n hx hb dM_isAccepted_20 rfl (lv_at hl 2 rfl) ?_
        refine w_iald C hk hE 1 (by exact Nat.le_of_ble_eq_true rfl) (n := 8) rfl (by omega) (by first | decide | omega) dM_isAccepted_21 ?_
        refine w_top (y := nI (ml σ p9)) ((hg.2.2 p9 (by omega)).1) ?_
        refine lv_aload_n hx hb dM_isAccepted_22 rfl (lv_at hl 0 rfl) ?_
        refine w_get C hk hE (K := R_M) (T := F_M) (N := 17) (ci := 6) in_M 0 (Nat.le_of_ble_eq_true rfl) rfl rfl 4 (by decide) tw_586 rfl rfl dM_isAccepted_23 ?_
        refine lv_iconst (v := nI 0) hx hb dM_isAccepted_26 (by decide) ?_
        refine w_iald C hk hE 1 (by exact Nat.le_of_ble_eq_true rfl) (n := 8) rfl (by omega) (by first | decide | omega) dM_isAccepted_27 ?_
        refine w_top (y := nI (ml σ 0)) ((hg.2.2 0 (by omega)).1) ?_
        refine lv_icmp_ne (tgt := 54) hx hb dM_isAccepted_28 (by decide) (fun c4 => ?_) (fun c4 => ?_)
        · have c4 : ¬ ((ml σ p9) = (ml σ 0)) := fun h => c4 ((nI_eq (by omega) (by omega)).mpr h)
          refine lv_iconst (v := nI 0) hx hb dM_isAccepted_54 (by decide) ?_
          refine lv_istore_n (lv' := [(1, .int (nI 0)), (0, .ref (ad 0)), (2, .int (nI p9))]) hx hb dM_isAccepted_55 rfl hl (by decide) rfl (fun ls hl => ?_)
          refine lv_iinc (v := nI (p9 + 1)) (lv' := [(2, .int (nI (p9 + 1))), (1, .int (nI 0)), (0, .ref (ad 0))]) hx hb dM_isAccepted_56 hl (k := 2) rfl (by exact nI_1 _) (by decide) rfl (fun ls hl => ?_)
          refine lv_goto (tgt := 4) hx hb dM_isAccepted_59 (by decide) ?_
          have ev5 : (nI 0 : Int32) = zb (accF σ n9 (p9 + 1)) := by rw [accF]; simp [zb, c2, c4]
          rw [ev5] at hl
          exact ih (p9 + 1) (by omega) (by omega) _ _ ls hE (lv_sub hl [2, 1, 0] rfl)
        · have c4 : (ml σ p9) = (ml σ 0) := (nI_eq (by omega) (by omega)).mp c4
          refine lv_aload_n hx hb dM_isAccepted_31 rfl (lv_at hl 0 rfl) ?_
          refine lv_aload_n hx hb dM_isAccepted_32 rfl (lv_at hl 0 rfl) ?_
          refine w_get C hk hE (K := R_M) (T := F_M) (N := 17) (ci := 6) in_M 0 (Nat.le_of_ble_eq_true rfl) rfl rfl 7 (by decide) tw_589 rfl rfl dM_isAccepted_33 ?_
          refine w_top (y := nI n9) (hn7) ?_
          refine lv_iload_n hx hb dM_isAccepted_36 rfl (lv_at hl 2 rfl) ?_
          refine lv_aload_n hx hb dM_isAccepted_37 rfl (lv_at hl 0 rfl) ?_
          refine w_get C hk hE (K := R_M) (T := F_M) (N := 17) (ci := 6) in_M 0 (Nat.le_of_ble_eq_true rfl) rfl rfl 5 (by decide) tw_587 rfl rfl dM_isAccepted_38 ?_
          refine lv_iload_n hx hb dM_isAccepted_41 rfl (lv_at hl 2 rfl) ?_
          refine w_iald C hk hE 2 (by exact Nat.le_of_ble_eq_true rfl) (n := 8) rfl (by omega) (by first | decide | omega) dM_isAccepted_42 ?_
          refine w_top (y := nI (mn σ p9)) ((hg.2.2 p9 (by omega)).2.2.1) ?_
          refine lv_iconst (v := nI 0) hx hb dM_isAccepted_43 (by decide) ?_
          refine w_ci hE hA (w_runV C hk hE hl.1 (As := [.int (nI n9), .int (nI p9), .int (nI (mn σ p9)), .int (nI 0)]) (rest := []) (q := 0) (c_M_isIn l D cs ad σ n9 p9 (mn σ p9) 0 (by omega) (by omega) (by have := mG_m hg (by omega : p9 < P); omega) (by decide) (hvb.1 _) _) (Nat.le_of_ble_eq_true rfl) (ci := 6) (N := 17) (T := F_M) rfl rfl tw_667 tw_669 ts_23 tw_9 tw_670 (n := 4) (by decide +kernel) rfl rfl (Nat.le_of_ble_eq_true rfl) dM_isAccepted_44 ⟨Nat.le_of_ble_eq_true rfl, Nat.le_of_ble_eq_true rfl⟩ ⟨Nat.zero_le _, Nat.zero_le _⟩) (fun r6 τ7 H locs hp hE _ _ => ?_)
          refine w_top hp.1 ?_
          have hE := wS_eq hp.2 hE
          refine lv_if_eq (tgt := 54) hx hb dM_isAccepted_47 (by decide) (fun c8 => ?_) (fun c8 => ?_)
          · refine lv_iconst (v := nI 0) hx hb dM_isAccepted_54 (by decide) ?_
            refine lv_istore_n (lv' := [(1, .int (nI 0)), (0, .ref (ad 0)), (2, .int (nI p9))]) hx hb dM_isAccepted_55 rfl hl (by decide) rfl (fun ls hl => ?_)
            refine lv_iinc (v := nI (p9 + 1)) (lv' := [(2, .int (nI (p9 + 1))), (1, .int (nI 0)), (0, .ref (ad 0))]) hx hb dM_isAccepted_56 hl (k := 2) rfl (by exact nI_1 _) (by decide) rfl (fun ls hl => ?_)
            refine lv_goto (tgt := 4) hx hb dM_isAccepted_59 (by decide) ?_
            have ev9 : (nI 0 : Int32) = zb (accF σ n9 (p9 + 1)) := by rw [accF]; simp [zb, c2, c4, c8]
            rw [ev9] at hl
            exact ih (p9 + 1) (by omega) (by omega) _ _ ls hE (lv_sub hl [2, 1, 0] rfl)
          · refine lv_iconst (v := nI 1) hx hb dM_isAccepted_50 (by decide) ?_
            refine lv_goto (tgt := 55) hx hb dM_isAccepted_51 (by decide) ?_
            refine lv_istore_n (lv' := [(1, .int (nI 1)), (0, .ref (ad 0)), (2, .int (nI p9))]) hx hb dM_isAccepted_55 rfl hl (by decide) rfl (fun ls hl => ?_)
            refine lv_iinc (v := nI (p9 + 1)) (lv' := [(2, .int (nI (p9 + 1))), (1, .int (nI 1)), (0, .ref (ad 0))]) hx hb dM_isAccepted_56 hl (k := 2) rfl (by exact nI_1 _) (by decide) rfl (fun ls hl => ?_)
            refine lv_goto (tgt := 4) hx hb dM_isAccepted_59 (by decide) ?_
            have ev10 : (nI 1 : Int32) = zb (accF σ n9 (p9 + 1)) := by rw [accF]; simp [zb, c2, c4, c8]
            rw [ev10] at hl
            exact ih (p9 + 1) (by omega) (by omega) _ _ ls hE (lv_sub hl [2, 1, 0] rfl)
set_option maxHeartbeats 4000000 in
set_option maxRecDepth 100000 in
theorem c_M_isAccepted (l : Launch) (D : va_G) (cs : Nat → ClassId) (ad : Nat → Nat) (σ : Mem) (P n9 V9 T9 : Nat) (hI : mI σ P n9 V9 T9) : MetI l (wM D cs ad) cs yM_isAccepted bM_isAccepted 3 (some .boolean) 1 24 [.ref (ad 0)] σ (fun r τ => r = zb (accF σ n9 P) ∧ τ = σ) := by
  refine MetI.start (by decide) (Nat.le_of_ble_eq_true rfl) ?_
  intro p e s m below meth c A ls C hk hA hE hl
  obtain ⟨hx, hb, hml, hown, hts, hr, hlocks⟩ := id C
  have hl : lv_has ls 3 [(0, .ref (ad 0))] := hl
  obtain ⟨hg, hn8, hn7, hvb, hV6, hV, hT6, hT⟩ := id hI
  have hP8 := hg.1
  refine lv_iconst (v := nI 0) hx hb dM_isAccepted_0 (by decide) ?_
  refine lv_istore_n (lv' := [(1, .int (nI 0)), (0, .ref (ad 0))]) hx hb dM_isAccepted_1 rfl hl (by decide) rfl (fun ls hl => ?_)
  refine lv_iconst (v := nI 0) hx hb dM_isAccepted_2 (by decide) ?_
  refine lv_istore_n (lv' := [(2, .int (nI 0)), (1, .int (nI 0)), (0, .ref (ad 0))]) hx hb dM_isAccepted_3 rfl hl (by decide) rfl (fun ls hl => ?_)
  have ev1 : (nI 0 : Int32) = zb (accF σ n9 0) := by rfl
  rw [ev1] at hl
  exact lp_M_isAccepted C hk hA hI _ 0 (Nat.lt_succ_self _) (Nat.zero_le _) _ _ ls hE (lv_sub hl [2, 1, 0] rfl)
set_option maxHeartbeats 4000000 in
set_option maxRecDepth 100000 in
theorem c_M_accepts (l : Launch) (D : va_G) (cs : Nat → ClassId) (ad : Nat → Nat) (σ : Mem) (P n9 V9 T9 : Nat) (hI : mI σ P n9 V9 T9) : MetI l (wM D cs ad) cs yM_accepts bM_accepts 1 (some .boolean) 2 46 [.ref (ad 0)] σ (fun r τ => r = zb (accF σ n9 P) ∧ τ = mset σ 0 2 (nI 0)) := by
  refine MetI.start (by decide) (Nat.le_of_ble_eq_true rfl) ?_
  intro p e s m below meth c A ls C hk hA hE hl
  obtain ⟨hx, hb, hml, hown, hts, hr, hlocks⟩ := id C
  have hl : lv_has ls 1 [(0, .ref (ad 0))] := hl
  refine lv_aload_n hx hb dM_accepts_0 rfl (lv_at hl 0 rfl) ?_
  refine lv_iconst (v := nI 0) hx hb dM_accepts_1 (by decide) ?_
  refine w_put C hk hE (K := R_M) (T := F_M) (N := 17) (ci := 6) in_M ft_M_ok fn_M 0 (Nat.le_of_ble_eq_true rfl) rfl rfl 2 (by decide) tw_584 rfl rfl (rfl) (rfl) (Nat.le_of_ble_eq_true rfl) rfl dM_accepts_2 (fun H locs hE => ?_)
  refine lv_aload_n hx hb dM_accepts_5 rfl (lv_at hl 0 rfl) ?_
  refine w_ci hE hA (w_runV C hk hE hl.1 (As := []) (rest := []) (q := 0) (c_M_isAccepted l D cs ad (mset σ 0 2 (nI 0)) P n9 V9 T9 (mI_thr hI) _) (Nat.le_of_ble_eq_true rfl) (ci := 6) (N := 17) (T := F_M) rfl rfl tw_703 tw_705 ts_28 tw_9 tw_706 (n := 0) (by decide +kernel) rfl rfl (Nat.le_of_ble_eq_true rfl) dM_accepts_6 ⟨Nat.le_of_ble_eq_true rfl, Nat.le_of_ble_eq_true rfl⟩ ⟨Nat.zero_le _, Nat.zero_le _⟩) (fun r1 τ2 H locs hp hE _ _ => ?_)
  refine w_top (y := zb (accF σ n9 P)) (hp.1.trans (by rw [accF_thr])) ?_
  have hE := wS_eq hp.2 hE
  exact w_retz C hE (zb_01 _) (⟨rfl, rfl⟩) dM_accepts_9
set_option maxHeartbeats 4000000 in
set_option maxRecDepth 100000 in
theorem c_M_addProd (l : Launch) (D : va_G) (cs : Nat → ClassId) (ad : Nat → Nat) (σ : Mem) (P n9 V9 T9 : Nat) (x : Int32) (hI : mI σ P n9 V9 T9) : MetI l (wM D cs ad) cs yM_addProd bM_addProd 2 (some .int) 4 97 [.ref (ad 0), .int x] σ (fun r τ => (0 < n9 ∨ 8 ≤ P) ∧ r = nI 0 ∧ τ = mset σ 0 2 (nI 1) ∨ ¬ (0 < n9 ∨ 8 ≤ P) ∧ isVn V9 x = false ∧ r = nI 0 ∧ τ = mset σ 0 2 (nI 2) ∨ ¬ (0 < n9 ∨ 8 ≤ P) ∧ isVn V9 x = true ∧ r = nI P ∧ filQ (mAdd σ P x) (P + 1) 0 τ) := by
  refine MetI.start (by decide) (Nat.le_of_ble_eq_true rfl) ?_
  intro p e s m below meth c A ls C hk hA hE hl
  obtain ⟨hx, hb, hml, hown, hts, hr, hlocks⟩ := id C
  have hl : lv_has ls 2 [(0, .ref (ad 0)), (1, .int x)] := hl
  obtain ⟨hg, hn8, hn7, hvb, hV6, hV, hT6, hT⟩ := id hI
  have hP8 := hg.1
  refine lv_aload_n hx hb dM_addProd_0 rfl (lv_at hl 0 rfl) ?_
  refine lv_aload_n hx hb dM_addProd_1 rfl (lv_at hl 0 rfl) ?_
  refine w_get C hk hE (K := R_M) (T := F_M) (N := 17) (ci := 6) in_M 0 (Nat.le_of_ble_eq_true rfl) rfl rfl 7 (by decide) tw_589 rfl rfl dM_addProd_2 ?_
  refine w_top (y := nI n9) (hn7) ?_
  refine lv_if_gt (tgt := 17) hx hb dM_addProd_5 (by decide) (fun c1 => ?_) (fun c1 => ?_)
  · have c1 := w_gt0 (by omega) c1
    refine lv_iconst (v := nI 1) hx hb dM_addProd_17 (by decide) ?_
    refine lv_goto (tgt := 34) hx hb dM_addProd_18 (by decide) ?_
    refine w_ci hE hA (w_runV C hk hE hl.1 (As := [.int (nI 1)]) (rest := []) (q := 0) (c_M_throwsBy l D cs ad (σ) 1 (by decide) _) (Nat.le_of_ble_eq_true rfl) (ci := 6) (N := 17) (T := F_M) rfl rfl tw_647 tw_649 ts_18 tw_9 tw_650 (n := 1) (by decide +kernel) rfl rfl (Nat.le_of_ble_eq_true rfl) dM_addProd_34 ⟨Nat.le_of_ble_eq_true rfl, Nat.le_of_ble_eq_true rfl⟩ ⟨Nat.zero_le _, Nat.zero_le _⟩) (fun r2 τ3 H locs hp hE _ _ => ?_)
    refine w_top (y := nI 1) (hp.1.trans rfl) ?_
    have hE := wS_eq hp.2 hE
    refine lv_if_eq (tgt := 42) hx hb dM_addProd_37 (by decide) (fun c4 => ?_) (fun c4 => ?_)
    · have c4 := w_z0 (by omega) c4
      first | exact absurd c4 (by decide) | exact c4.elim | exact absurd rfl c4
    · have c4 := w_n0 (by omega) c4
      refine lv_iconst (v := nI 0) hx hb dM_addProd_40 (by decide) ?_
      exact w_reti C hE (by first | exact Or.inl ⟨by omega, rfl, rfl⟩ | exact Or.inr (Or.inl ⟨by omega, by assumption, rfl, rfl⟩) | exact Or.inr (Or.inr ⟨by omega, by assumption, rfl, hfil⟩)) dM_addProd_41
  · have c1 := w_ngt0 (by omega) c1
    refine lv_aload_n hx hb dM_addProd_8 rfl (lv_at hl 0 rfl) ?_
    refine w_get C hk hE (K := R_M) (T := F_M) (N := 17) (ci := 6) in_M 0 (Nat.le_of_ble_eq_true rfl) rfl rfl 3 (by decide) tw_585 rfl rfl dM_addProd_9 ?_
    refine w_top (y := nI P) (hg.2.1) ?_
    refine lv_bipush (v := nI 8) hx hb dM_addProd_12 (by decide) ?_
    refine lv_icmp_lt (tgt := 21) hx hb dM_addProd_14 (by decide) (fun c5 => ?_) (fun c5 => ?_)
    · have c5 : P < 8 := (nI_ltI (by omega) (by omega)).mp c5
      refine lv_aload_n hx hb dM_addProd_21 rfl (lv_at hl 0 rfl) ?_
      refine lv_iload_n hx hb dM_addProd_22 rfl (lv_at hl 1 rfl) ?_
      refine w_ci hE hA (w_runV C hk hE hl.1 (As := [.int x]) (rest := [.ref (ad 0)]) (q := 0) (c_M_isVariable l D cs ad σ V9 x hV hV6 _) (Nat.le_of_ble_eq_true rfl) (ci := 6) (N := 17) (T := F_M) rfl rfl tw_643 tw_645 ts_17 tw_9 tw_646 (n := 1) (by decide +kernel) rfl rfl (Nat.le_of_ble_eq_true rfl) dM_addProd_23 ⟨Nat.le_of_ble_eq_true rfl, Nat.le_of_ble_eq_true rfl⟩ ⟨Nat.zero_le _, Nat.zero_le _⟩) (fun r6 τ7 H locs hp hE _ _ => ?_)
      refine w_top hp.1 ?_
      have hE := wS_eq hp.2 hE
      refine lv_if_ne (tgt := 33) hx hb dM_addProd_26 (by decide) (fun c8 => ?_) (fun c8 => ?_)
      · have c8 := zb_ne0 c8
        obtain ⟨hv1, hv2⟩ := isVn_of hV6 c8
        refine lv_iconst (v := nI 0) hx hb dM_addProd_33 (by decide) ?_
        refine w_ci hE hA (w_runV C hk hE hl.1 (As := [.int (nI 0)]) (rest := []) (q := 0) (c_M_throwsBy l D cs ad (σ) 0 (by decide) _) (Nat.le_of_ble_eq_true rfl) (ci := 6) (N := 17) (T := F_M) rfl rfl tw_647 tw_649 ts_18 tw_9 tw_650 (n := 1) (by decide +kernel) rfl rfl (Nat.le_of_ble_eq_true rfl) dM_addProd_34 ⟨Nat.le_of_ble_eq_true rfl, Nat.le_of_ble_eq_true rfl⟩ ⟨Nat.zero_le _, Nat.zero_le _⟩) (fun r9 τ10 H locs hp hE _ _ => ?_)
        refine w_top (y := nI 0) (hp.1.trans rfl) ?_
        have hE := wS_eq hp.2 hE
        refine lv_if_eq (tgt := 42) hx hb dM_addProd_37 (by decide) (fun c11 => ?_) (fun c11 => ?_)
        · have c11 := w_z0 (by omega) c11
          refine lv_aload_n hx hb dM_addProd_42 rfl (lv_at hl 0 rfl) ?_
          refine w_get C hk hE (K := R_M) (T := F_M) (N := 17) (ci := 6) in_M 0 (Nat.le_of_ble_eq_true rfl) rfl rfl 4 (by decide) tw_586 rfl rfl dM_addProd_43 ?_
          refine lv_aload_n hx hb dM_addProd_46 rfl (lv_at hl 0 rfl) ?_
          refine w_get C hk hE (K := R_M) (T := F_M) (N := 17) (ci := 6) in_M 0 (Nat.le_of_ble_eq_true rfl) rfl rfl 3 (by decide) tw_585 rfl rfl dM_addProd_47 ?_
          refine w_top (y := σ 0 3) (by simp [mset, mrow, upd, mhc]) ?_
          refine w_top (y := nI P) (hg.2.1) ?_
          refine lv_iload_n hx hb dM_addProd_50 rfl (lv_at hl 1 rfl) ?_
          refine w_iast C hk hE 1 (by exact Nat.le_of_ble_eq_true rfl) (n := 8) (fun _ => rfl) (by omega) (by first | decide | omega) dM_addProd_51 (fun H locs hE => ?_)
          refine lv_aload_n hx hb dM_addProd_52 rfl (lv_at hl 0 rfl) ?_
          refine w_get C hk hE (K := R_M) (T := F_M) (N := 17) (ci := 6) in_M 0 (Nat.le_of_ble_eq_true rfl) rfl rfl 5 (by decide) tw_587 rfl rfl dM_addProd_53 ?_
          refine lv_aload_n hx hb dM_addProd_56 rfl (lv_at hl 0 rfl) ?_
          refine w_get C hk hE (K := R_M) (T := F_M) (N := 17) (ci := 6) in_M 0 (Nat.le_of_ble_eq_true rfl) rfl rfl 3 (by decide) tw_585 rfl rfl dM_addProd_57 ?_
          refine w_top (y := σ 0 3) (by simp [mset, mrow, upd, mhc]) ?_
          refine w_top (y := nI P) (hg.2.1) ?_
          refine lv_iconst (v := nI 0) hx hb dM_addProd_60 (by decide) ?_
          refine w_iast C hk hE 2 (by exact Nat.le_of_ble_eq_true rfl) (n := 8) (fun _ => rfl) (by omega) (by first | decide | omega) dM_addProd_61 (fun H locs hE => ?_)
          refine lv_aload_n hx hb dM_addProd_62 rfl (lv_at hl 0 rfl) ?_
          refine lv_aload_n hx hb dM_addProd_63 rfl (lv_at hl 0 rfl) ?_
          refine w_get C hk hE (K := R_M) (T := F_M) (N := 17) (ci := 6) in_M 0 (Nat.le_of_ble_eq_true rfl) rfl rfl 3 (by decide) tw_585 rfl rfl dM_addProd_64 ?_
          refine w_top (y := σ 0 3) (by simp [mset, mrow, upd, mhc]) ?_
          refine w_top (y := nI P) (hg.2.1) ?_
          refine lv_iconst (v := nI 1) hx hb dM_addProd_67 (by decide) ?_
          refine lv_iadd hx hb dM_addProd_68 ?_
          refine w_top (y := nI (P + 1)) (by first | exact nI_add _ _ | simp only [nI_add, Nat.add_assoc, Nat.add_zero, Nat.zero_add]) ?_
          refine w_put C hk hE (K := R_M) (T := F_M) (N := 17) (ci := 6) in_M ft_M_ok fn_M 0 (Nat.le_of_ble_eq_true rfl) rfl rfl 3 (by decide) tw_585 rfl rfl (rfl) (rfl) (Nat.le_of_ble_eq_true rfl) rfl dM_addProd_69 (fun H locs hE => ?_)
          have hE : wS (wM D cs ad) A s.heap (mAdd σ P x) H locs := hE
          refine lv_aload_n hx hb dM_addProd_72 rfl (lv_at hl 0 rfl) ?_
          refine w_cv hE hA (w_runV C hk hE hl.1 (As := []) (rest := []) (q := 0) (c_M_grammarChanged l D cs ad (mAdd σ P x) (P + 1) (by rw [hv1]; exact mG_add hg (by omega) (by omega)) (bH_add hvb) _) (Nat.le_of_ble_eq_true rfl) (ci := 6) (N := 17) (T := F_M) rfl rfl tw_651 tw_653 ts_19 tw_9 tw_654 (n := 0) (by decide +kernel) rfl rfl (Nat.le_of_ble_eq_true rfl) dM_addProd_73 ⟨Nat.le_of_ble_eq_true rfl, Nat.le_of_ble_eq_true rfl⟩ ⟨Nat.zero_le _, Nat.zero_le _⟩) (fun τ13 H locs hp hE _ _ => ?_)
          have hfil := hp
          refine lv_aload_n hx hb dM_addProd_76 rfl (lv_at hl 0 rfl) ?_
          refine w_get C hk hE (K := R_M) (T := F_M) (N := 17) (ci := 6) in_M 0 (Nat.le_of_ble_eq_true rfl) rfl rfl 3 (by decide) tw_585 rfl rfl dM_addProd_77 ?_
          refine w_top (y := nI (P + 1)) (filQ_03 hfil (by unfold mAdd; exact mset_s)) ?_
          refine lv_iconst (v := nI 1) hx hb dM_addProd_80 (by decide) ?_
          refine lv_isub hx hb dM_addProd_81 ?_
          refine w_top (y := nI P) (w_sub (by omega) (by omega)) ?_
          exact w_reti C hE (by first | exact Or.inl ⟨by omega, rfl, rfl⟩ | exact Or.inr (Or.inl ⟨by omega, by assumption, rfl, rfl⟩) | exact Or.inr (Or.inr ⟨by omega, by assumption, rfl, hfil⟩)) dM_addProd_82
        · have c11 := w_n0 (by omega) c11
          first | exact absurd c11 (by decide) | exact c11.elim | exact absurd rfl c11
      · have c8 := zb_eq0 c8
        refine lv_iconst (v := nI 2) hx hb dM_addProd_29 (by decide) ?_
        refine lv_goto (tgt := 34) hx hb dM_addProd_30 (by decide) ?_
        refine w_ci hE hA (w_runV C hk hE hl.1 (As := [.int (nI 2)]) (rest := []) (q := 0) (c_M_throwsBy l D cs ad (σ) 2 (by decide) _) (Nat.le_of_ble_eq_true rfl) (ci := 6) (N := 17) (T := F_M) rfl rfl tw_647 tw_649 ts_18 tw_9 tw_650 (n := 1) (by decide +kernel) rfl rfl (Nat.le_of_ble_eq_true rfl) dM_addProd_34 ⟨Nat.le_of_ble_eq_true rfl, Nat.le_of_ble_eq_true rfl⟩ ⟨Nat.zero_le _, Nat.zero_le _⟩) (fun r14 τ15 H locs hp hE _ _ => ?_)
        refine w_top (y := nI 1) (hp.1.trans rfl) ?_
        have hE := wS_eq hp.2 hE
        refine lv_if_eq (tgt := 42) hx hb dM_addProd_37 (by decide) (fun c16 => ?_) (fun c16 => ?_)
        · have c16 := w_z0 (by omega) c16
          first | exact absurd c16 (by decide) | exact c16.elim | exact absurd rfl c16
        · have c16 := w_n0 (by omega) c16
          refine lv_iconst (v := nI 0) hx hb dM_addProd_40 (by decide) ?_
          exact w_reti C hE (by first | exact Or.inl ⟨by omega, rfl, rfl⟩ | exact Or.inr (Or.inl ⟨by omega, by assumption, rfl, rfl⟩) | exact Or.inr (Or.inr ⟨by omega, by assumption, rfl, hfil⟩)) dM_addProd_41
    · have c5 : ¬ (P < 8) := fun h => c5 ((nI_ltI (by omega) (by omega)).mpr h)
      refine lv_iconst (v := nI 1) hx hb dM_addProd_17 (by decide) ?_
      refine lv_goto (tgt := 34) hx hb dM_addProd_18 (by decide) ?_
      refine w_ci hE hA (w_runV C hk hE hl.1 (As := [.int (nI 1)]) (rest := []) (q := 0) (c_M_throwsBy l D cs ad (σ) 1 (by decide) _) (Nat.le_of_ble_eq_true rfl) (ci := 6) (N := 17) (T := F_M) rfl rfl tw_647 tw_649 ts_18 tw_9 tw_650 (n := 1) (by decide +kernel) rfl rfl (Nat.le_of_ble_eq_true rfl) dM_addProd_34 ⟨Nat.le_of_ble_eq_true rfl, Nat.le_of_ble_eq_true rfl⟩ ⟨Nat.zero_le _, Nat.zero_le _⟩) (fun r17 τ18 H locs hp hE _ _ => ?_)
      refine w_top (y := nI 1) (hp.1.trans rfl) ?_
      have hE := wS_eq hp.2 hE
      refine lv_if_eq (tgt := 42) hx hb dM_addProd_37 (by decide) (fun c19 => ?_) (fun c19 => ?_)
      · have c19 := w_z0 (by omega) c19
        first | exact absurd c19 (by decide) | exact c19.elim | exact absurd rfl c19
      · have c19 := w_n0 (by omega) c19
        refine lv_iconst (v := nI 0) hx hb dM_addProd_40 (by decide) ?_
        exact w_reti C hE (by first | exact Or.inl ⟨by omega, rfl, rfl⟩ | exact Or.inr (Or.inl ⟨by omega, by assumption, rfl, rfl⟩) | exact Or.inr (Or.inr ⟨by omega, by assumption, rfl, hfil⟩)) dM_addProd_41
set_option maxHeartbeats 4000000 in
set_option maxRecDepth 100000 in
theorem c_M_feed (l : Launch) (D : va_G) (cs : Nat → ClassId) (ad : Nat → Nat) (σ : Mem) (P n9 V9 T9 : Nat) (x : Int32) (hI : mI σ P n9 V9 T9) : MetI l (wM D cs ad) cs yM_feed bM_feed 2 (some .int) 3 77 [.ref (ad 0), .int x] σ (fun r τ => (P = 0 ∨ 8 ≤ n9) ∧ r = nI 0 ∧ τ = mset σ 0 2 (nI 1) ∨ ¬ (P = 0 ∨ 8 ≤ n9) ∧ isTn T9 x = false ∧ r = nI 0 ∧ τ = mset σ 0 2 (nI 2) ∨ ¬ (P = 0 ∨ 8 ≤ n9) ∧ isTn T9 x = true ∧ r = nI (cntH (τ 5) (360 * (n9 + 1)) 360) ∧ filQ (mFed σ n9 x) P (n9 + 1) τ) := by
  refine MetI.start (by decide) (Nat.le_of_ble_eq_true rfl) ?_
  intro p e s m below meth c A ls C hk hA hE hl
  obtain ⟨hx, hb, hml, hown, hts, hr, hlocks⟩ := id C
  have hl : lv_has ls 2 [(0, .ref (ad 0)), (1, .int x)] := hl
  obtain ⟨hg, hn8, hn7, hvb, hV6, hV, hT6, hT⟩ := id hI
  have hP8 := hg.1
  refine lv_aload_n hx hb dM_feed_0 rfl (lv_at hl 0 rfl) ?_
  refine lv_aload_n hx hb dM_feed_1 rfl (lv_at hl 0 rfl) ?_
  refine w_get C hk hE (K := R_M) (T := F_M) (N := 17) (ci := 6) in_M 0 (Nat.le_of_ble_eq_true rfl) rfl rfl 3 (by decide) tw_585 rfl rfl dM_feed_2 ?_
  refine w_top (y := nI P) (hg.2.1) ?_
  refine lv_if_eq (tgt := 17) hx hb dM_feed_5 (by decide) (fun c1 => ?_) (fun c1 => ?_)
  · have c1 := w_z0 (by omega) c1
    refine lv_iconst (v := nI 1) hx hb dM_feed_17 (by decide) ?_
    refine lv_goto (tgt := 34) hx hb dM_feed_18 (by decide) ?_
    refine w_ci hE hA (w_runV C hk hE hl.1 (As := [.int (nI 1)]) (rest := []) (q := 0) (c_M_throwsBy l D cs ad (σ) 1 (by decide) _) (Nat.le_of_ble_eq_true rfl) (ci := 6) (N := 17) (T := F_M) rfl rfl tw_647 tw_649 ts_18 tw_9 tw_650 (n := 1) (by decide +kernel) rfl rfl (Nat.le_of_ble_eq_true rfl) dM_feed_34 ⟨Nat.le_of_ble_eq_true rfl, Nat.le_of_ble_eq_true rfl⟩ ⟨Nat.zero_le _, Nat.zero_le _⟩) (fun r2 τ3 H locs hp hE _ _ => ?_)
    refine w_top (y := nI 1) (hp.1.trans rfl) ?_
    have hE := wS_eq hp.2 hE
    refine lv_if_eq (tgt := 42) hx hb dM_feed_37 (by decide) (fun c4 => ?_) (fun c4 => ?_)
    · have c4 := w_z0 (by omega) c4
      first | exact absurd c4 (by decide) | exact c4.elim | exact absurd rfl c4
    · have c4 := w_n0 (by omega) c4
      refine lv_iconst (v := nI 0) hx hb dM_feed_40 (by decide) ?_
      exact w_reti C hE (by first | exact Or.inl ⟨by omega, rfl, rfl⟩ | exact Or.inr (Or.inl ⟨by omega, by assumption, rfl, rfl⟩) | exact Or.inr (Or.inr ⟨by omega, by assumption, rfl, hfil⟩)) dM_feed_41
  · have c1 := w_n0 (by omega) c1
    refine lv_aload_n hx hb dM_feed_8 rfl (lv_at hl 0 rfl) ?_
    refine w_get C hk hE (K := R_M) (T := F_M) (N := 17) (ci := 6) in_M 0 (Nat.le_of_ble_eq_true rfl) rfl rfl 7 (by decide) tw_589 rfl rfl dM_feed_9 ?_
    refine w_top (y := nI n9) (hn7) ?_
    refine lv_bipush (v := nI 8) hx hb dM_feed_12 (by decide) ?_
    refine lv_icmp_lt (tgt := 21) hx hb dM_feed_14 (by decide) (fun c5 => ?_) (fun c5 => ?_)
    · have c5 : n9 < 8 := (nI_ltI (by omega) (by omega)).mp c5
      refine lv_aload_n hx hb dM_feed_21 rfl (lv_at hl 0 rfl) ?_
      refine lv_iload_n hx hb dM_feed_22 rfl (lv_at hl 1 rfl) ?_
      refine w_ci hE hA (w_runV C hk hE hl.1 (As := [.int x]) (rest := [.ref (ad 0)]) (q := 0) (c_M_isToken l D cs ad σ T9 x hT hT6 _) (Nat.le_of_ble_eq_true rfl) (ci := 6) (N := 17) (T := F_M) rfl rfl tw_683 tw_685 ts_26 tw_9 tw_686 (n := 1) (by decide +kernel) rfl rfl (Nat.le_of_ble_eq_true rfl) dM_feed_23 ⟨Nat.le_of_ble_eq_true rfl, Nat.le_of_ble_eq_true rfl⟩ ⟨Nat.zero_le _, Nat.zero_le _⟩) (fun r6 τ7 H locs hp hE _ _ => ?_)
      refine w_top hp.1 ?_
      have hE := wS_eq hp.2 hE
      refine lv_if_ne (tgt := 33) hx hb dM_feed_26 (by decide) (fun c8 => ?_) (fun c8 => ?_)
      · have c8 := zb_ne0 c8
        refine lv_iconst (v := nI 0) hx hb dM_feed_33 (by decide) ?_
        refine w_ci hE hA (w_runV C hk hE hl.1 (As := [.int (nI 0)]) (rest := []) (q := 0) (c_M_throwsBy l D cs ad (σ) 0 (by decide) _) (Nat.le_of_ble_eq_true rfl) (ci := 6) (N := 17) (T := F_M) rfl rfl tw_647 tw_649 ts_18 tw_9 tw_650 (n := 1) (by decide +kernel) rfl rfl (Nat.le_of_ble_eq_true rfl) dM_feed_34 ⟨Nat.le_of_ble_eq_true rfl, Nat.le_of_ble_eq_true rfl⟩ ⟨Nat.zero_le _, Nat.zero_le _⟩) (fun r9 τ10 H locs hp hE _ _ => ?_)
        refine w_top (y := nI 0) (hp.1.trans rfl) ?_
        have hE := wS_eq hp.2 hE
        refine lv_if_eq (tgt := 42) hx hb dM_feed_37 (by decide) (fun c11 => ?_) (fun c11 => ?_)
        · have c11 := w_z0 (by omega) c11
          refine lv_aload_n hx hb dM_feed_42 rfl (lv_at hl 0 rfl) ?_
          refine lv_aload_n hx hb dM_feed_43 rfl (lv_at hl 0 rfl) ?_
          refine w_get C hk hE (K := R_M) (T := F_M) (N := 17) (ci := 6) in_M 0 (Nat.le_of_ble_eq_true rfl) rfl rfl 7 (by decide) tw_589 rfl rfl dM_feed_44 ?_
          refine w_top (y := σ 0 7) (by simp [mset, mrow, upd, mhc]) ?_
          refine w_top (y := nI n9) (hn7) ?_
          refine lv_iconst (v := nI 1) hx hb dM_feed_47 (by decide) ?_
          refine lv_iadd hx hb dM_feed_48 ?_
          refine w_top (y := nI (n9 + 1)) (by first | exact nI_add _ _ | simp only [nI_add, Nat.add_assoc, Nat.add_zero, Nat.zero_add]) ?_
          refine w_put C hk hE (K := R_M) (T := F_M) (N := 17) (ci := 6) in_M ft_M_ok fn_M 0 (Nat.le_of_ble_eq_true rfl) rfl rfl 7 (by decide) tw_589 rfl rfl (rfl) (rfl) (Nat.le_of_ble_eq_true rfl) rfl dM_feed_49 (fun H locs hE => ?_)
          refine lv_aload_n hx hb dM_feed_52 rfl (lv_at hl 0 rfl) ?_
          refine w_get C hk hE (K := R_M) (T := F_M) (N := 17) (ci := 6) in_M 0 (Nat.le_of_ble_eq_true rfl) rfl rfl 8 (by decide) tw_590 rfl rfl dM_feed_53 ?_
          refine lv_aload_n hx hb dM_feed_56 rfl (lv_at hl 0 rfl) ?_
          refine w_get C hk hE (K := R_M) (T := F_M) (N := 17) (ci := 6) in_M 0 (Nat.le_of_ble_eq_true rfl) rfl rfl 7 (by decide) tw_589 rfl rfl dM_feed_57 ?_
          refine w_top (y := nI (n9 + 1)) (by simp [mset, mrow, upd, mhc]) ?_
          refine lv_iload_n hx hb dM_feed_60 rfl (lv_at hl 1 rfl) ?_
          refine w_iast C hk hE 4 (by exact Nat.le_of_ble_eq_true rfl) (n := 9) (fun _ => rfl) (by omega) (by first | decide | omega) dM_feed_61 (fun H locs hE => ?_)
          refine lv_aload_n hx hb dM_feed_62 rfl (lv_at hl 0 rfl) ?_
          refine lv_iconst (v := nI 0) hx hb dM_feed_63 (by decide) ?_
          refine w_put C hk hE (K := R_M) (T := F_M) (N := 17) (ci := 6) in_M ft_M_ok fn_M 0 (Nat.le_of_ble_eq_true rfl) rfl rfl 14 (by decide) tw_596 rfl rfl (rfl) (rfl) (Nat.le_of_ble_eq_true rfl) rfl dM_feed_64 (fun H locs hE => ?_)
          refine lv_aload_n hx hb dM_feed_67 rfl (lv_at hl 0 rfl) ?_
          refine lv_iconst (v := nI 0) hx hb dM_feed_68 (by decide) ?_
          refine w_put C hk hE (K := R_M) (T := F_M) (N := 17) (ci := 6) in_M ft_M_ok fn_M 0 (Nat.le_of_ble_eq_true rfl) rfl rfl 12 (by decide) tw_594 rfl rfl (rfl) (rfl) (Nat.le_of_ble_eq_true rfl) rfl dM_feed_69 (fun H locs hE => ?_)
          have hE : wS (wM D cs ad) A s.heap (mCh (mFed σ n9 x)) H locs := hE
          refine lv_aload_n hx hb dM_feed_72 rfl (lv_at hl 0 rfl) ?_
          refine lv_aload_n hx hb dM_feed_73 rfl (lv_at hl 0 rfl) ?_
          refine w_get C hk hE (K := R_M) (T := F_M) (N := 17) (ci := 6) in_M 0 (Nat.le_of_ble_eq_true rfl) rfl rfl 7 (by decide) tw_589 rfl rfl dM_feed_74 ?_
          refine w_top (y := nI (n9 + 1)) mChFed_07 ?_
          refine w_cv hE hA (w_runV C hk hE hl.1 (As := [.int (nI (n9 + 1))]) (rest := []) (q := 0) (c_M_fill l D cs ad (mCh (mFed σ n9 x)) P (n9 + 1) (mG_ch (mG_fed hg)) (by omega) (bH_ch (bH_fed hvb)) _) (Nat.le_of_ble_eq_true rfl) (ci := 6) (N := 17) (T := F_M) rfl rfl tw_655 tw_657 ts_20 tw_9 tw_658 (n := 1) (by decide +kernel) rfl rfl (Nat.le_of_ble_eq_true rfl) dM_feed_77 ⟨Nat.le_of_ble_eq_true rfl, Nat.le_of_ble_eq_true rfl⟩ ⟨Nat.zero_le _, Nat.zero_le _⟩) (fun τ13 H locs hp hE _ _ => ?_)
          have hfil := hp
          refine lv_aload_n hx hb dM_feed_80 rfl (lv_at hl 0 rfl) ?_
          refine lv_aload_n hx hb dM_feed_81 rfl (lv_at hl 0 rfl) ?_
          refine w_get C hk hE (K := R_M) (T := F_M) (N := 17) (ci := 6) in_M 0 (Nat.le_of_ble_eq_true rfl) rfl rfl 7 (by decide) tw_589 rfl rfl dM_feed_82 ?_
          refine w_top (y := nI (n9 + 1)) (filP_07 hfil mChFed_07) ?_
          refine w_ci hE hA (w_runV C hk hE hl.1 (As := [.int (nI (n9 + 1))]) (rest := []) (q := 0) (c_M_sizeOf l D cs ad τ13 (n9 + 1) (by omega) _) (Nat.le_of_ble_eq_true rfl) (ci := 6) (N := 17) (T := F_M) rfl rfl tw_691 tw_693 ts_27 tw_9 tw_694 (n := 1) (by decide +kernel) rfl rfl (Nat.le_of_ble_eq_true rfl) dM_feed_85 ⟨Nat.le_of_ble_eq_true rfl, Nat.le_of_ble_eq_true rfl⟩ ⟨Nat.zero_le _, Nat.zero_le _⟩) (fun r14 τ15 H locs hp hE _ _ => ?_)
          refine w_top hp.1 ?_
          have hE := wS_eq hp.2 hE
          exact w_reti C hE (by first | exact Or.inl ⟨by omega, rfl, rfl⟩ | exact Or.inr (Or.inl ⟨by omega, by assumption, rfl, rfl⟩) | exact Or.inr (Or.inr ⟨by omega, by assumption, rfl, hfil⟩)) dM_feed_88
        · have c11 := w_n0 (by omega) c11
          first | exact absurd c11 (by decide) | exact c11.elim | exact absurd rfl c11
      · have c8 := zb_eq0 c8
        refine lv_iconst (v := nI 2) hx hb dM_feed_29 (by decide) ?_
        refine lv_goto (tgt := 34) hx hb dM_feed_30 (by decide) ?_
        refine w_ci hE hA (w_runV C hk hE hl.1 (As := [.int (nI 2)]) (rest := []) (q := 0) (c_M_throwsBy l D cs ad (σ) 2 (by decide) _) (Nat.le_of_ble_eq_true rfl) (ci := 6) (N := 17) (T := F_M) rfl rfl tw_647 tw_649 ts_18 tw_9 tw_650 (n := 1) (by decide +kernel) rfl rfl (Nat.le_of_ble_eq_true rfl) dM_feed_34 ⟨Nat.le_of_ble_eq_true rfl, Nat.le_of_ble_eq_true rfl⟩ ⟨Nat.zero_le _, Nat.zero_le _⟩) (fun r16 τ17 H locs hp hE _ _ => ?_)
        refine w_top (y := nI 1) (hp.1.trans rfl) ?_
        have hE := wS_eq hp.2 hE
        refine lv_if_eq (tgt := 42) hx hb dM_feed_37 (by decide) (fun c18 => ?_) (fun c18 => ?_)
        · have c18 := w_z0 (by omega) c18
          first | exact absurd c18 (by decide) | exact c18.elim | exact absurd rfl c18
        · have c18 := w_n0 (by omega) c18
          refine lv_iconst (v := nI 0) hx hb dM_feed_40 (by decide) ?_
          exact w_reti C hE (by first | exact Or.inl ⟨by omega, rfl, rfl⟩ | exact Or.inr (Or.inl ⟨by omega, by assumption, rfl, rfl⟩) | exact Or.inr (Or.inr ⟨by omega, by assumption, rfl, hfil⟩)) dM_feed_41
    · have c5 : ¬ (n9 < 8) := fun h => c5 ((nI_ltI (by omega) (by omega)).mpr h)
      refine lv_iconst (v := nI 1) hx hb dM_feed_17 (by decide) ?_
      refine lv_goto (tgt := 34) hx hb dM_feed_18 (by decide) ?_
      refine w_ci hE hA (w_runV C hk hE hl.1 (As := [.int (nI 1)]) (rest := []) (q := 0) (c_M_throwsBy l D cs ad (σ) 1 (by decide) _) (Nat.le_of_ble_eq_true rfl) (ci := 6) (N := 17) (T := F_M) rfl rfl tw_647 tw_649 ts_18 tw_9 tw_650 (n := 1) (by decide +kernel) rfl rfl (Nat.le_of_ble_eq_true rfl) dM_feed_34 ⟨Nat.le_of_ble_eq_true rfl, Nat.le_of_ble_eq_true rfl⟩ ⟨Nat.zero_le _, Nat.zero_le _⟩) (fun r19 τ20 H locs hp hE _ _ => ?_)
      refine w_top (y := nI 1) (hp.1.trans rfl) ?_
      have hE := wS_eq hp.2 hE
      refine lv_if_eq (tgt := 42) hx hb dM_feed_37 (by decide) (fun c21 => ?_) (fun c21 => ?_)
      · have c21 := w_z0 (by omega) c21
        first | exact absurd c21 (by decide) | exact c21.elim | exact absurd rfl c21
      · have c21 := w_n0 (by omega) c21
        refine lv_iconst (v := nI 0) hx hb dM_feed_40 (by decide) ?_
        exact w_reti C hE (by first | exact Or.inl ⟨by omega, rfl, rfl⟩ | exact Or.inr (Or.inl ⟨by omega, by assumption, rfl, rfl⟩) | exact Or.inr (Or.inr ⟨by omega, by assumption, rfl, hfil⟩)) dM_feed_41
set_option maxHeartbeats 4000000 in
set_option maxRecDepth 100000 in
theorem c_M_items (l : Launch) (D : va_G) (cs : Nat → ClassId) (ad : Nat → Nat) (σ : Mem) (P n9 V9 T9 : Nat) (x : Int32) (hI : mI σ P n9 V9 T9) : MetI l (wM D cs ad) cs yM_items bM_items 2 (some .int) 1 23 [.ref (ad 0), .int x] σ (fun r τ => isKn n9 x = false ∧ r = nI 0 ∧ τ = mset σ 0 2 (nI 1) ∨ isKn n9 x = true ∧ r = nI (cntH (σ 5) (360 * x.toNatClampNeg) 360) ∧ τ = mset σ 0 2 (nI 0)) := by
  refine MetI.start (by decide) (Nat.le_of_ble_eq_true rfl) ?_
  intro p e s m below meth c A ls C hk hA hE hl
  obtain ⟨hx, hb, hml, hown, hts, hr, hlocks⟩ := id C
  have hl : lv_has ls 2 [(0, .ref (ad 0)), (1, .int x)] := hl
  obtain ⟨hg, hn8, hn7, hvb, hV6, hV, hT6, hT⟩ := id hI
  have hP8 := hg.1
  refine lv_aload_n hx hb dM_items_0 rfl (lv_at hl 0 rfl) ?_
  refine lv_iload_n hx hb dM_items_1 rfl (lv_at hl 1 rfl) ?_
  refine lv_if_lt (tgt := 13) hx hb dM_items_2 (by decide) (fun c1 => ?_) (fun c1 => ?_)
  · refine lv_iconst (v := nI 1) hx hb dM_items_13 (by decide) ?_
    refine lv_goto (tgt := 18) hx hb dM_items_14 (by decide) ?_
    refine w_ci hE hA (w_runV C hk hE hl.1 (As := [.int (nI 1)]) (rest := []) (q := 0) (c_M_throwsBy l D cs ad (σ) 1 (by decide) _) (Nat.le_of_ble_eq_true rfl) (ci := 6) (N := 17) (T := F_M) rfl rfl tw_647 tw_649 ts_18 tw_9 tw_650 (n := 1) (by decide +kernel) rfl rfl (Nat.le_of_ble_eq_true rfl) dM_items_18 ⟨Nat.le_of_ble_eq_true rfl, Nat.le_of_ble_eq_true rfl⟩ ⟨Nat.zero_le _, Nat.zero_le _⟩) (fun r2 τ3 H locs hp hE _ _ => ?_)
    refine w_top (y := nI 1) (hp.1.trans rfl) ?_
    have hE := wS_eq hp.2 hE
    refine lv_if_eq (tgt := 28) hx hb dM_items_21 (by decide) (fun c4 => ?_) (fun c4 => ?_)
    · have c4 := w_z0 (by omega) c4
      first | exact absurd c4 (by decide) | exact c4.elim | exact absurd rfl c4
    · have c4 := w_n0 (by omega) c4
      refine lv_iconst (v := nI 0) hx hb dM_items_24 (by decide) ?_
      refine lv_goto (tgt := 33) hx hb dM_items_25 (by decide) ?_
      exact w_reti C hE (Or.inl ⟨by simp [isKn, c1], rfl, rfl⟩) dM_items_33
  · have c9a := c1
    refine lv_iload_n hx hb dM_items_5 rfl (lv_at hl 1 rfl) ?_
    refine lv_aload_n hx hb dM_items_6 rfl (lv_at hl 0 rfl) ?_
    refine w_get C hk hE (K := R_M) (T := F_M) (N := 17) (ci := 6) in_M 0 (Nat.le_of_ble_eq_true rfl) rfl rfl 7 (by decide) tw_589 rfl rfl dM_items_7 ?_
    refine w_top (y := nI n9) (hn7) ?_
    refine lv_icmp_le (tgt := 17) hx hb dM_items_10 (by decide) (fun c5 => ?_) (fun c5 => ?_)
    · obtain ⟨hx1, hx2⟩ := isKn_of hn8 c9a c5
      refine lv_iconst (v := nI 0) hx hb dM_items_17 (by decide) ?_
      refine w_ci hE hA (w_runV C hk hE hl.1 (As := [.int (nI 0)]) (rest := []) (q := 0) (c_M_throwsBy l D cs ad (σ) 0 (by decide) _) (Nat.le_of_ble_eq_true rfl) (ci := 6) (N := 17) (T := F_M) rfl rfl tw_647 tw_649 ts_18 tw_9 tw_650 (n := 1) (by decide +kernel) rfl rfl (Nat.le_of_ble_eq_true rfl) dM_items_18 ⟨Nat.le_of_ble_eq_true rfl, Nat.le_of_ble_eq_true rfl⟩ ⟨Nat.zero_le _, Nat.zero_le _⟩) (fun r6 τ7 H locs hp hE _ _ => ?_)
      refine w_top (y := nI 0) (hp.1.trans rfl) ?_
      have hE := wS_eq hp.2 hE
      refine lv_if_eq (tgt := 28) hx hb dM_items_21 (by decide) (fun c8 => ?_) (fun c8 => ?_)
      · have c8 := w_z0 (by omega) c8
        refine lv_aload_n hx hb dM_items_28 rfl (lv_at hl 0 rfl) ?_
        refine lv_iload_n hx hb dM_items_29 rfl (lv_at hl 1 rfl) ?_
        refine w_top (y := nI x.toNatClampNeg) hx1 ?_
        refine w_ci hE hA (w_runV C hk hE hl.1 (As := [.int (nI x.toNatClampNeg)]) (rest := []) (q := 0) (c_M_sizeOf l D cs ad (mset (σ) 0 2 (nI 0)) x.toNatClampNeg (by omega) _) (Nat.le_of_ble_eq_true rfl) (ci := 6) (N := 17) (T := F_M) rfl rfl tw_691 tw_693 ts_27 tw_9 tw_694 (n := 1) (by decide +kernel) rfl rfl (Nat.le_of_ble_eq_true rfl) dM_items_30 ⟨Nat.le_of_ble_eq_true rfl, Nat.le_of_ble_eq_true rfl⟩ ⟨Nat.zero_le _, Nat.zero_le _⟩) (fun r9 τ10 H locs hp hE _ _ => ?_)
        refine w_top (y := nI (cntH (σ 5) (360 * x.toNatClampNeg) 360)) (hp.1.trans (by rw [mset_n (by decide)])) ?_
        have hE := wS_eq hp.2 hE
        exact w_reti C hE (Or.inr ⟨by simp [isKn, c9a, Int32.not_lt.mpr c5], rfl, rfl⟩) dM_items_33
      · have c8 := w_n0 (by omega) c8
        first | exact absurd c8 (by decide) | exact c8.elim | exact absurd rfl c8
    · refine lv_iconst (v := nI 1) hx hb dM_items_13 (by decide) ?_
      refine lv_goto (tgt := 18) hx hb dM_items_14 (by decide) ?_
      refine w_ci hE hA (w_runV C hk hE hl.1 (As := [.int (nI 1)]) (rest := []) (q := 0) (c_M_throwsBy l D cs ad (σ) 1 (by decide) _) (Nat.le_of_ble_eq_true rfl) (ci := 6) (N := 17) (T := F_M) rfl rfl tw_647 tw_649 ts_18 tw_9 tw_650 (n := 1) (by decide +kernel) rfl rfl (Nat.le_of_ble_eq_true rfl) dM_items_18 ⟨Nat.le_of_ble_eq_true rfl, Nat.le_of_ble_eq_true rfl⟩ ⟨Nat.zero_le _, Nat.zero_le _⟩) (fun r11 τ12 H locs hp hE _ _ => ?_)
      refine w_top (y := nI 1) (hp.1.trans rfl) ?_
      have hE := wS_eq hp.2 hE
      refine lv_if_eq (tgt := 28) hx hb dM_items_21 (by decide) (fun c13 => ?_) (fun c13 => ?_)
      · have c13 := w_z0 (by omega) c13
        first | exact absurd c13 (by decide) | exact c13.elim | exact absurd rfl c13
      · have c13 := w_n0 (by omega) c13
        refine lv_iconst (v := nI 0) hx hb dM_items_24 (by decide) ?_
        refine lv_goto (tgt := 33) hx hb dM_items_25 (by decide) ?_
        exact w_reti C hE (Or.inl ⟨by simp [isKn, Int32.not_le.mp c5], rfl, rfl⟩) dM_items_33
set_option maxHeartbeats 4000000 in
set_option maxRecDepth 100000 in
theorem c_M_wit (l : Launch) (D : va_G) (cs : Nat → ClassId) (ad : Nat → Nat) (σ : Mem) (m9 : Nat) (x : Int32) (hm : σ 0 14 = nI m9) (hm8 : m9 ≤ 8000) : MetI l (wM D cs ad) cs yM_wit bM_wit 2 (some .int) 1 21 [.ref (ad 0), .int x] σ (fun r τ => isVn m9 x = false ∧ r = nI 0 ∧ τ = mset σ 0 2 (nI 1) ∨ isVn m9 x = true ∧ r = σ 8 x.toNatClampNeg ∧ τ = mset σ 0 2 (nI 0)) := by
  refine MetI.start (by decide) (Nat.le_of_ble_eq_true rfl) ?_
  intro p e s m below meth c A ls C hk hA hE hl
  obtain ⟨hx, hb, hml, hown, hts, hr, hlocks⟩ := id C
  have hl : lv_has ls 2 [(0, .ref (ad 0)), (1, .int x)] := hl
  refine lv_aload_n hx hb dM_wit_0 rfl (lv_at hl 0 rfl) ?_
  refine lv_iload_n hx hb dM_wit_1 rfl (lv_at hl 1 rfl) ?_
  refine lv_if_lt (tgt := 13) hx hb dM_wit_2 (by decide) (fun c1 => ?_) (fun c1 => ?_)
  · refine lv_iconst (v := nI 1) hx hb dM_wit_13 (by decide) ?_
    refine lv_goto (tgt := 18) hx hb dM_wit_14 (by decide) ?_
    refine w_ci hE hA (w_runV C hk hE hl.1 (As := [.int (nI 1)]) (rest := []) (q := 0) (c_M_throwsBy l D cs ad (σ) 1 (by decide) _) (Nat.le_of_ble_eq_true rfl) (ci := 6) (N := 17) (T := F_M) rfl rfl tw_647 tw_649 ts_18 tw_9 tw_650 (n := 1) (by decide +kernel) rfl rfl (Nat.le_of_ble_eq_true rfl) dM_wit_18 ⟨Nat.le_of_ble_eq_true rfl, Nat.le_of_ble_eq_true rfl⟩ ⟨Nat.zero_le _, Nat.zero_le _⟩) (fun r2 τ3 H locs hp hE _ _ => ?_)
    refine w_top (y := nI 1) (hp.1.trans rfl) ?_
    have hE := wS_eq hp.2 hE
    refine lv_if_eq (tgt := 28) hx hb dM_wit_21 (by decide) (fun c4 => ?_) (fun c4 => ?_)
    · have c4 := w_z0 (by omega) c4
      first | exact absurd c4 (by decide) | exact c4.elim | exact absurd rfl c4
    · have c4 := w_n0 (by omega) c4
      refine lv_iconst (v := nI 0) hx hb dM_wit_24 (by decide) ?_
      refine lv_goto (tgt := 34) hx hb dM_wit_25 (by decide) ?_
      exact w_reti C hE (Or.inl ⟨by simp [isVn, c1], rfl, rfl⟩) dM_wit_34
  · have c9a := c1
    refine lv_iload_n hx hb dM_wit_5 rfl (lv_at hl 1 rfl) ?_
    refine lv_aload_n hx hb dM_wit_6 rfl (lv_at hl 0 rfl) ?_
    refine w_get C hk hE (K := R_M) (T := F_M) (N := 17) (ci := 6) in_M 0 (Nat.le_of_ble_eq_true rfl) rfl rfl 14 (by decide) tw_596 rfl rfl dM_wit_7 ?_
    refine w_top (y := nI m9) (hm) ?_
    refine lv_icmp_lt (tgt := 17) hx hb dM_wit_10 (by decide) (fun c5 => ?_) (fun c5 => ?_)
    · obtain ⟨hx1, hx2⟩ := isVn_of2 hm8 c9a c5
      refine lv_iconst (v := nI 0) hx hb dM_wit_17 (by decide) ?_
      refine w_ci hE hA (w_runV C hk hE hl.1 (As := [.int (nI 0)]) (rest := []) (q := 0) (c_M_throwsBy l D cs ad (σ) 0 (by decide) _) (Nat.le_of_ble_eq_true rfl) (ci := 6) (N := 17) (T := F_M) rfl rfl tw_647 tw_649 ts_18 tw_9 tw_650 (n := 1) (by decide +kernel) rfl rfl (Nat.le_of_ble_eq_true rfl) dM_wit_18 ⟨Nat.le_of_ble_eq_true rfl, Nat.le_of_ble_eq_true rfl⟩ ⟨Nat.zero_le _, Nat.zero_le _⟩) (fun r6 τ7 H locs hp hE _ _ => ?_)
      refine w_top (y := nI 0) (hp.1.trans rfl) ?_
      have hE := wS_eq hp.2 hE
      refine lv_if_eq (tgt := 28) hx hb dM_wit_21 (by decide) (fun c8 => ?_) (fun c8 => ?_)
      · have c8 := w_z0 (by omega) c8
        refine lv_aload_n hx hb dM_wit_28 rfl (lv_at hl 0 rfl) ?_
        refine w_get C hk hE (K := R_M) (T := F_M) (N := 17) (ci := 6) in_M 0 (Nat.le_of_ble_eq_true rfl) rfl rfl 15 (by decide) tw_597 rfl rfl dM_wit_29 ?_
        refine lv_iload_n hx hb dM_wit_32 rfl (lv_at hl 1 rfl) ?_
        refine w_top (y := nI x.toNatClampNeg) hx1 ?_
        refine w_iald C hk hE 8 (by exact Nat.le_of_ble_eq_true rfl) (n := 8000) rfl (by omega) (by first | decide | omega) dM_wit_33 ?_
        refine w_top (y := σ 8 x.toNatClampNeg) (by simp [mset, mrow, upd, mhc]) ?_
        exact w_reti C hE (Or.inr ⟨by simp [isVn, c9a, Int32.not_le.mpr c5], rfl, rfl⟩) dM_wit_34
      · have c8 := w_n0 (by omega) c8
        first | exact absurd c8 (by decide) | exact c8.elim | exact absurd rfl c8
    · refine lv_iconst (v := nI 1) hx hb dM_wit_13 (by decide) ?_
      refine lv_goto (tgt := 18) hx hb dM_wit_14 (by decide) ?_
      refine w_ci hE hA (w_runV C hk hE hl.1 (As := [.int (nI 1)]) (rest := []) (q := 0) (c_M_throwsBy l D cs ad (σ) 1 (by decide) _) (Nat.le_of_ble_eq_true rfl) (ci := 6) (N := 17) (T := F_M) rfl rfl tw_647 tw_649 ts_18 tw_9 tw_650 (n := 1) (by decide +kernel) rfl rfl (Nat.le_of_ble_eq_true rfl) dM_wit_18 ⟨Nat.le_of_ble_eq_true rfl, Nat.le_of_ble_eq_true rfl⟩ ⟨Nat.zero_le _, Nat.zero_le _⟩) (fun r9 τ10 H locs hp hE _ _ => ?_)
      refine w_top (y := nI 1) (hp.1.trans rfl) ?_
      have hE := wS_eq hp.2 hE
      refine lv_if_eq (tgt := 28) hx hb dM_wit_21 (by decide) (fun c11 => ?_) (fun c11 => ?_)
      · have c11 := w_z0 (by omega) c11
        first | exact absurd c11 (by decide) | exact c11.elim | exact absurd rfl c11
      · have c11 := w_n0 (by omega) c11
        refine lv_iconst (v := nI 0) hx hb dM_wit_24 (by decide) ?_
        refine lv_goto (tgt := 34) hx hb dM_wit_25 (by decide) ?_
        exact w_reti C hE (Or.inl ⟨by simp [isVn, Int32.not_lt.mp c5], rfl, rfl⟩) dM_wit_34
set_option maxHeartbeats 4000000 in
set_option maxRecDepth 100000 in
theorem c_M_erase (l : Launch) (D : va_G) (cs : Nat → ClassId) (ad : Nat → Nat) (σ : Mem) (P n9 V9 T9 : Nat) (hI : mI σ P n9 V9 T9) : MetI l (wM D cs ad) cs yM_erase bM_erase 2 (some .int) 4 97 [.ref (ad 0)] σ (fun r τ => r = nI P ∧ filQ (mset (mset (mset σ 0 2 (nI 0)) 0 7 (nI 0)) 0 3 (nI 0)) 0 0 τ) := by
  refine MetI.start (by decide) (Nat.le_of_ble_eq_true rfl) ?_
  intro p e s m below meth c A ls C hk hA hE hl
  obtain ⟨hx, hb, hml, hown, hts, hr, hlocks⟩ := id C
  have hl : lv_has ls 2 [(0, .ref (ad 0))] := hl
  obtain ⟨hg, hn8, hn7, hvb, hV6, hV, hT6, hT⟩ := id hI
  have hP8 := hg.1
  refine lv_aload_n hx hb dM_erase_0 rfl (lv_at hl 0 rfl) ?_
  refine lv_iconst (v := nI 0) hx hb dM_erase_1 (by decide) ?_
  refine w_put C hk hE (K := R_M) (T := F_M) (N := 17) (ci := 6) in_M ft_M_ok fn_M 0 (Nat.le_of_ble_eq_true rfl) rfl rfl 2 (by decide) tw_584 rfl rfl (rfl) (rfl) (Nat.le_of_ble_eq_true rfl) rfl dM_erase_2 (fun H locs hE => ?_)
  refine lv_aload_n hx hb dM_erase_5 rfl (lv_at hl 0 rfl) ?_
  refine w_get C hk hE (K := R_M) (T := F_M) (N := 17) (ci := 6) in_M 0 (Nat.le_of_ble_eq_true rfl) rfl rfl 3 (by decide) tw_585 rfl rfl dM_erase_6 ?_
  refine w_top (y := σ 0 3) (by simp [mset, mrow, upd, mhc]) ?_
  refine w_top (y := nI P) (hg.2.1) ?_
  refine lv_istore_n (lv' := [(1, .int (nI P)), (0, .ref (ad 0))]) hx hb dM_erase_9 rfl hl (by decide) rfl (fun ls hl => ?_)
  refine lv_aload_n hx hb dM_erase_10 rfl (lv_at hl 1 rfl) ?_
  refine lv_iconst (v := nI 0) hx hb dM_erase_11 (by decide) ?_
  refine w_put C hk hE (K := R_M) (T := F_M) (N := 17) (ci := 6) in_M ft_M_ok fn_M 0 (Nat.le_of_ble_eq_true rfl) rfl rfl 7 (by decide) tw_589 rfl rfl (rfl) (rfl) (Nat.le_of_ble_eq_true rfl) rfl dM_erase_12 (fun H locs hE => ?_)
  refine lv_aload_n hx hb dM_erase_15 rfl (lv_at hl 1 rfl) ?_
  refine lv_iconst (v := nI 0) hx hb dM_erase_16 (by decide) ?_
  refine w_put C hk hE (K := R_M) (T := F_M) (N := 17) (ci := 6) in_M ft_M_ok fn_M 0 (Nat.le_of_ble_eq_true rfl) rfl rfl 3 (by decide) tw_585 rfl rfl (rfl) (rfl) (Nat.le_of_ble_eq_true rfl) rfl dM_erase_17 (fun H locs hE => ?_)
  refine lv_aload_n hx hb dM_erase_20 rfl (lv_at hl 1 rfl) ?_
  refine w_cv hE hA (w_runV C hk hE hl.1 (As := []) (rest := []) (q := 0) (c_M_grammarChanged l D cs ad (mset (mset (mset σ 0 2 (nI 0)) 0 7 (nI 0)) 0 3 (nI 0)) 0 ⟨by decide, mset_s, fun _ h => absurd h (Nat.not_lt_zero _)⟩ (by rw [mset_n (by decide), mset_n (by decide), mset_n (by decide), mset_i (by decide), mset_i (by decide), mset_i (by decide)]; exact hvb) _) (Nat.le_of_ble_eq_true rfl) (ci := 6) (N := 17) (T := F_M) rfl rfl tw_651 tw_653 ts_19 tw_9 tw_654 (n := 0) (by decide +kernel) rfl rfl (Nat.le_of_ble_eq_true rfl) dM_erase_21 ⟨Nat.le_of_ble_eq_true rfl, Nat.le_of_ble_eq_true rfl⟩ ⟨Nat.zero_le _, Nat.zero_le _⟩) (fun τ2 H locs hp hE _ _ => ?_)
  have hfil := hp
  refine lv_iload_n hx hb dM_erase_24 rfl (lv_at hl 0 rfl) ?_
  exact w_reti C hE (⟨rfl, hfil⟩) dM_erase_25
