set_option maxHeartbeats 4000000 in
set_option maxRecDepth 100000 in
theorem c_E_addProd (l : Launch) (D : va_G) (cs : Nat → ClassId) (ad : Nat → Nat) (σ : Mem) (P S n9 V9 T9 : Nat) (x : Int32) (hl0 : l.stackTraces = false) {a0 : Array Value} {s0 : State} (hx0 : x0 a0 s0) (hI : eI σ P S n9 V9 T9) : MetX l s0 (wE D cs ad) cs yE_addProd bE_addProd 2 (some .int) 7 168 [.ref (ad 0), .int x] σ (fun r τ => ¬ (0 < n9 ∨ 8 ≤ P) ∧ isVn V9 x = true ∧ r = nI P ∧ τ = gcM (P + 1) (S + 1) n9 (addE σ P S x)) (fun K => (0 < n9 ∨ 8 ≤ P) ∧ K = "java/lang/IllegalStateException" ∨ ¬ (0 < n9 ∨ 8 ≤ P) ∧ isVn V9 x = false ∧ K = "java/lang/IllegalArgumentException") := by
  refine MetX.start (by decide) (Nat.le_of_ble_eq_true rfl) ?_
  intro p e s m below meth c A ls C hk hA hE hl hX hAs hem
  obtain ⟨hx, hb, hml, hown, hts, hr, hlocks⟩ := id C
  have hl : lv_has ls 2 [(0, .ref (ad 0)), (1, .int x)] := hl
  obtain ⟨ht, hPS, hSP, hV6, hV, hT6, hT⟩ := id hI
  have hP8 := ht.1.1
  have hS24 := ht.1.2.1
  have hn8 := ht.2.1
  refine lv_aload_n hx hb dE_addProd_0 rfl (lv_at hl 0 rfl) ?_
  refine w_get C hk hE (K := R_E) (T := F_E) (N := 7) (ci := 5) in_E 0 (Nat.le_of_ble_eq_true rfl) rfl rfl 3 (by decide) tw_248 rfl rfl dE_addProd_1 ?_
  refine w_get C hk hE (K := R_I) (T := F_I) (N := 2) (ci := 1) in_I 2 (Nat.le_of_ble_eq_true rfl) rfl rfl 1 (by decide) tw_72 rfl rfl dE_addProd_4 ?_
  refine w_top (y := nI n9) (ht.2.2) ?_
  refine lv_if_gt (tgt := 22) hx hb dE_addProd_7 (by decide) (fun c1 => ?_) (fun c1 => ?_)
  · have c1 := w_gt0 (by omega) c1
    exact w_throw C hE hA hx0 hX hAs hl0 hem hl.1 tw_312 tw_313 tw_13 (txt := "no production can be added now") (List.mem_of_getElem? (i := 354) (by decide +kernel)) (by decide) Bundle.six_0 Bundle.six_1 Bundle.six_2 Bundle.six_5 xa_ISE (Or.inl ⟨Or.inl c1, rfl⟩) ⟨by decide, by decide⟩ ⟨by decide, by decide⟩ dE_addProd_22 dE_addProd_25 dE_addProd_26 dE_addProd_28 dE_addProd_31
  · have c1 := w_ngt0 (by omega) c1
    refine lv_aload_n hx hb dE_addProd_10 rfl (lv_at hl 0 rfl) ?_
    refine w_get C hk hE (K := R_E) (T := F_E) (N := 7) (ci := 5) in_E 0 (Nat.le_of_ble_eq_true rfl) rfl rfl 2 (by decide) tw_247 rfl rfl dE_addProd_11 ?_
    refine w_get C hk hE (K := R_G) (T := F_G) (N := 6) (ci := 0) in_G 1 (Nat.le_of_ble_eq_true rfl) rfl rfl 4 (by decide) tw_45 rfl rfl dE_addProd_14 ?_
    refine w_top (y := nI P) (ht.1.2.2.1) ?_
    refine lv_bipush (v := nI 8) hx hb dE_addProd_17 (by decide) ?_
    refine lv_icmp_lt (tgt := 32) hx hb dE_addProd_19 (by decide) (fun c2 => ?_) (fun c2 => ?_)
    · have c2 : P < 8 := (nI_ltI (by omega) (by omega)).mp c2
      refine lv_aload_n hx hb dE_addProd_32 rfl (lv_at hl 0 rfl) ?_
      refine lv_iload_n hx hb dE_addProd_33 rfl (lv_at hl 1 rfl) ?_
      refine w_ci hE hA (w_runV C hk hE hl.1 (As := [.int x]) (rest := []) (q := 0) (c_E_hasVariable l D cs ad σ V9 x hV hV6 _) (Nat.le_of_ble_eq_true rfl) (ci := 5) (N := 7) (T := F_E) rfl rfl tw_381 tw_383 ts_9 tw_1 tw_384 (n := 1) (by decide +kernel) rfl rfl (Nat.le_of_ble_eq_true rfl) dE_addProd_34 ⟨Nat.le_of_ble_eq_true rfl, Nat.le_of_ble_eq_true rfl⟩ ⟨Nat.zero_le _, Nat.zero_le _⟩) (fun r3 τ4 H locs hp hE _ _ => ?_)
      refine w_top hp.1 ?_
      have hE := wS_eq hp.2 hE
      refine lv_if_ne (tgt := 50) hx hb dE_addProd_37 (by decide) (fun c5 => ?_) (fun c5 => ?_)
      · have c5 := zb_ne0 c5
        obtain ⟨hv1, hv2⟩ := isVn_of hV6 c5
        refine lv_aload_n hx hb dE_addProd_50 rfl (lv_at hl 0 rfl) ?_
        refine w_get C hk hE (K := R_E) (T := F_E) (N := 7) (ci := 5) in_E 0 (Nat.le_of_ble_eq_true rfl) rfl rfl 2 (by decide) tw_247 rfl rfl dE_addProd_51 ?_
        refine lv_iload_n hx hb dE_addProd_54 rfl (lv_at hl 1 rfl) ?_
        refine w_cv hE hA (w_runV C hk hE hl.1 (As := [.int x]) (rest := []) (q := 1) (c_G_openProduction l D cs ad σ P S x ht.1.2.2.1 ht.1.2.2.2.1 (by omega) (by omega) _) (Nat.le_of_ble_eq_true rfl) (ci := 0) (N := 6) (T := F_G) rfl rfl tw_401 tw_402 tw_403 tw_2 tw_404 (n := 1) (by decide +kernel) rfl rfl (Nat.le_of_ble_eq_true rfl) dE_addProd_55 ⟨Nat.le_of_ble_eq_true rfl, Nat.le_of_ble_eq_true rfl⟩ ⟨Nat.zero_le _, Nat.zero_le _⟩) (fun τ7 H locs hp hE _ _ => ?_)
        have hE : wS (wE D cs ad) A s.heap (addE σ P S x) H locs := wS_eq hp hE
        refine lv_aload_n hx hb dE_addProd_58 rfl (lv_at hl 0 rfl) ?_
        refine w_cv hE hA (w_runV C hk hE hl.1 (As := []) (rest := []) (q := 0) (c_E_grammarChanged l D cs ad (addE σ P S x) (P + 1) (S + 1) n9 (hv1 ▸ tS_add ht (by omega) (by omega) (by omega)) _) (Nat.le_of_ble_eq_true rfl) (ci := 5) (N := 7) (T := F_E) rfl rfl tw_149 tw_151 ts_0 tw_1 tw_152 (n := 0) (by decide +kernel) rfl rfl (Nat.le_of_ble_eq_true rfl) dE_addProd_59 ⟨Nat.le_of_ble_eq_true rfl, Nat.le_of_ble_eq_true rfl⟩ ⟨Nat.zero_le _, Nat.zero_le _⟩) (fun τ9 H locs hp hE _ _ => ?_)
        have hE := wS_eq hp hE
        refine lv_aload_n hx hb dE_addProd_62 rfl (lv_at hl 0 rfl) ?_
        refine w_get C hk hE (K := R_E) (T := F_E) (N := 7) (ci := 5) in_E 0 (Nat.le_of_ble_eq_true rfl) rfl rfl 2 (by decide) tw_247 rfl rfl dE_addProd_63 ?_
        refine w_get C hk hE (K := R_G) (T := F_G) (N := 6) (ci := 0) in_G 1 (Nat.le_of_ble_eq_true rfl) rfl rfl 4 (by decide) tw_45 rfl rfl dE_addProd_66 ?_
        refine w_top (y := nI (P + 1)) (by rw [gcM_n (by decide) (by decide) (by decide)]; simp [addE, mset, mrow, upd]) ?_
        refine lv_iconst (v := nI 1) hx hb dE_addProd_69 (by decide) ?_
        refine lv_isub hx hb dE_addProd_70 ?_
        refine w_top (y := nI P) (w_sub (by omega) (by omega)) ?_
        exact x_reti C hE (⟨by omega, c5, rfl, rfl⟩) dE_addProd_71
      · have c5 := zb_eq0 c5
        exact w_throw C hE hA hx0 hX hAs hl0 hem hl.1 tw_385 tw_386 tw_14 (txt := "no such variable") (List.mem_of_getElem? (i := 394) (by decide +kernel)) (by decide) Bundle.six_0 Bundle.six_1 Bundle.six_2 Bundle.six_5 xa_IAE (Or.inr ⟨by omega, c5, rfl⟩) ⟨by decide, by decide⟩ ⟨by decide, by decide⟩ dE_addProd_40 dE_addProd_43 dE_addProd_44 dE_addProd_46 dE_addProd_49
    · have c2 : ¬ (P < 8) := fun h => c2 ((nI_ltI (by omega) (by omega)).mpr h)
      exact w_throw C hE hA hx0 hX hAs hl0 hem hl.1 tw_312 tw_313 tw_13 (txt := "no production can be added now") (List.mem_of_getElem? (i := 354) (by decide +kernel)) (by decide) Bundle.six_0 Bundle.six_1 Bundle.six_2 Bundle.six_5 xa_ISE (Or.inl ⟨Or.inr (by omega), rfl⟩) ⟨by decide, by decide⟩ ⟨by decide, by decide⟩ dE_addProd_22 dE_addProd_25 dE_addProd_26 dE_addProd_28 dE_addProd_31
set_option maxHeartbeats 4000000 in
set_option maxRecDepth 100000 in
theorem c_E_addRhs (l : Launch) (D : va_G) (cs : Nat → ClassId) (ad : Nat → Nat) (σ : Mem) (P S n9 V9 T9 : Nat) (x : Int32) (hl0 : l.stackTraces = false) {a0 : Array Value} {s0 : State} (hx0 : x0 a0 s0) (hI : eI σ P S n9 V9 T9) : MetX l s0 (wE D cs ad) cs yE_addRhs bE_addRhs 2 (some .int) 7 168 [.ref (ad 0), .int x] σ (fun r τ => ¬ (0 < n9 ∨ (decide (0 < P) && (decide (S - 1 - gf σ (P - 1) < 4) && decide (S - P < 16))) = false) ∧ (isVn V9 x = true ∨ isTn T9 x = true) ∧ r = nI (S - gf σ (P - 1)) ∧ τ = gcM P (S + 1) n9 (appE σ P S x)) (fun K => (0 < n9 ∨ (decide (0 < P) && (decide (S - 1 - gf σ (P - 1) < 4) && decide (S - P < 16))) = false) ∧ K = "java/lang/IllegalStateException" ∨ ¬ (0 < n9 ∨ (decide (0 < P) && (decide (S - 1 - gf σ (P - 1) < 4) && decide (S - P < 16))) = false) ∧ isVn V9 x = false ∧ isTn T9 x = false ∧ K = "java/lang/IllegalArgumentException") := by
  refine MetX.start (by decide) (Nat.le_of_ble_eq_true rfl) ?_
  intro p e s m below meth c A ls C hk hA hE hl hX hAs hem
  obtain ⟨hx, hb, hml, hown, hts, hr, hlocks⟩ := id C
  have hl : lv_has ls 2 [(0, .ref (ad 0)), (1, .int x)] := hl
  obtain ⟨ht, hPS, hSP, hV6, hV, hT6, hT⟩ := id hI
  have hP8 := ht.1.1
  have hS24 := ht.1.2.1
  have hn8 := ht.2.1
  have hf9 := eI_f hI
  refine lv_aload_n hx hb dE_addRhs_0 rfl (lv_at hl 0 rfl) ?_
  refine w_get C hk hE (K := R_E) (T := F_E) (N := 7) (ci := 5) in_E 0 (Nat.le_of_ble_eq_true rfl) rfl rfl 3 (by decide) tw_248 rfl rfl dE_addRhs_1 ?_
  refine w_get C hk hE (K := R_I) (T := F_I) (N := 2) (ci := 1) in_I 2 (Nat.le_of_ble_eq_true rfl) rfl rfl 1 (by decide) tw_72 rfl rfl dE_addRhs_4 ?_
  refine w_top (y := nI n9) (ht.2.2) ?_
  refine lv_if_gt (tgt := 20) hx hb dE_addRhs_7 (by decide) (fun c1 => ?_) (fun c1 => ?_)
  · have c1 := w_gt0 (by omega) c1
    exact w_throw C hE hA hx0 hX hAs hl0 hem hl.1 tw_312 tw_313 tw_13 (txt := "no symbol can be added now") (List.mem_of_getElem? (i := 424) (by decide +kernel)) (by decide) Bundle.six_0 Bundle.six_1 Bundle.six_2 Bundle.six_5 xa_ISE (Or.inl ⟨Or.inl c1, rfl⟩) ⟨by decide, by decide⟩ ⟨by decide, by decide⟩ dE_addRhs_20 dE_addRhs_23 dE_addRhs_24 dE_addRhs_26 dE_addRhs_29
  · have c1 := w_ngt0 (by omega) c1
    refine lv_aload_n hx hb dE_addRhs_10 rfl (lv_at hl 0 rfl) ?_
    refine w_get C hk hE (K := R_E) (T := F_E) (N := 7) (ci := 5) in_E 0 (Nat.le_of_ble_eq_true rfl) rfl rfl 2 (by decide) tw_247 rfl rfl dE_addRhs_11 ?_
    refine w_ci hE hA (w_runV C hk hE hl.1 (As := []) (rest := []) (q := 1) (c_G_hasRoomForSymbol l D cs ad σ P S (gf σ (P - 1)) ht.1.2.2.1 ht.1.2.2.2.1 ⟨hP8, hPS⟩ hS24 hf9 _) (Nat.le_of_ble_eq_true rfl) (ci := 0) (N := 6) (T := F_G) rfl rfl tw_416 tw_417 tw_418 tw_2 tw_419 (n := 0) (by decide +kernel) rfl rfl (Nat.le_of_ble_eq_true rfl) dE_addRhs_14 ⟨Nat.le_of_ble_eq_true rfl, Nat.le_of_ble_eq_true rfl⟩ ⟨Nat.zero_le _, Nat.zero_le _⟩) (fun r2 τ3 H locs hp hE _ _ => ?_)
    refine w_top hp.1 ?_
    have hE := wS_eq hp.2 hE
    refine lv_if_ne (tgt := 30) hx hb dE_addRhs_17 (by decide) (fun c4 => ?_) (fun c4 => ?_)
    · have c4 := zb_ne0 c4
      have hr9 : 0 < P ∧ S - 1 - gf σ (P - 1) < 4 ∧ S - P < 16 := by simpa using c4
      refine lv_aload_n hx hb dE_addRhs_30 rfl (lv_at hl 0 rfl) ?_
      refine lv_iload_n hx hb dE_addRhs_31 rfl (lv_at hl 1 rfl) ?_
      refine w_ci hE hA (w_runV C hk hE hl.1 (As := [.int x]) (rest := []) (q := 0) (c_E_hasVariable l D cs ad σ V9 x hV hV6 _) (Nat.le_of_ble_eq_true rfl) (ci := 5) (N := 7) (T := F_E) rfl rfl tw_381 tw_383 ts_9 tw_1 tw_384 (n := 1) (by decide +kernel) rfl rfl (Nat.le_of_ble_eq_true rfl) dE_addRhs_32 ⟨Nat.le_of_ble_eq_true rfl, Nat.le_of_ble_eq_true rfl⟩ ⟨Nat.zero_le _, Nat.zero_le _⟩) (fun r5 τ6 H locs hp hE _ _ => ?_)
      refine w_top hp.1 ?_
      have hE := wS_eq hp.2 hE
      refine lv_if_ne (tgt := 56) hx hb dE_addRhs_35 (by decide) (fun c7 => ?_) (fun c7 => ?_)
      · have c7 := zb_ne0 c7
        obtain ⟨hv1, hv2⟩ : x = nI x.toNatClampNeg ∧ x.toNatClampNeg < 200 := ⟨(isVn_of hV6 c7).1, by have := (isVn_of hV6 c7).2; omega⟩
        refine lv_aload_n hx hb dE_addRhs_56 rfl (lv_at hl 0 rfl) ?_
        refine w_get C hk hE (K := R_E) (T := F_E) (N := 7) (ci := 5) in_E 0 (Nat.le_of_ble_eq_true rfl) rfl rfl 2 (by decide) tw_247 rfl rfl dE_addRhs_57 ?_
        refine lv_iload_n hx hb dE_addRhs_60 rfl (lv_at hl 1 rfl) ?_
        refine w_cv hE hA (w_runV C hk hE hl.1 (As := [.int x]) (rest := []) (q := 1) (c_G_appendSymbol l D cs ad σ P S (gf σ (P - 1)) x ht.1.2.2.1 ht.1.2.2.2.1 ⟨hP8, hPS, hr9.1⟩ (by omega) hf9 hr9.2 _) (Nat.le_of_ble_eq_true rfl) (ci := 0) (N := 6) (T := F_G) rfl rfl tw_430 tw_431 tw_432 tw_2 tw_433 (n := 1) (by decide +kernel) rfl rfl (Nat.le_of_ble_eq_true rfl) dE_addRhs_61 ⟨Nat.le_of_ble_eq_true rfl, Nat.le_of_ble_eq_true rfl⟩ ⟨Nat.zero_le _, Nat.zero_le _⟩) (fun τ9 H locs hp hE _ _ => ?_)
        have hE : wS (wE D cs ad) A s.heap (appE σ P S x) H locs := wS_eq hp hE
        refine lv_aload_n hx hb dE_addRhs_64 rfl (lv_at hl 0 rfl) ?_
        refine w_cv hE hA (w_runV C hk hE hl.1 (As := []) (rest := []) (q := 0) (c_E_grammarChanged l D cs ad (appE σ P S x) P (S + 1) n9 (hv1 ▸ tS_app ht hr9.1 (by omega) (by omega) hv2) _) (Nat.le_of_ble_eq_true rfl) (ci := 5) (N := 7) (T := F_E) rfl rfl tw_149 tw_151 ts_0 tw_1 tw_152 (n := 0) (by decide +kernel) rfl rfl (Nat.le_of_ble_eq_true rfl) dE_addRhs_65 ⟨Nat.le_of_ble_eq_true rfl, Nat.le_of_ble_eq_true rfl⟩ ⟨Nat.zero_le _, Nat.zero_le _⟩) (fun τ11 H locs hp hE _ _ => ?_)
        have hE := wS_eq hp hE
        refine lv_aload_n hx hb dE_addRhs_68 rfl (lv_at hl 0 rfl) ?_
        refine w_get C hk hE (K := R_E) (T := F_E) (N := 7) (ci := 5) in_E 0 (Nat.le_of_ble_eq_true rfl) rfl rfl 2 (by decide) tw_247 rfl rfl dE_addRhs_69 ?_
        refine w_ci hE hA (w_runV C hk hE hl.1 (As := []) (rest := []) (q := 1) (c_G_lastLength l D cs ad (gcM P (S + 1) n9 (appE σ P S x)) P (S + 1) (gf σ (P - 1)) (by rw [gcM_n (by decide) (by decide) (by decide)]; simp [appE, mset, mrow, upd]; exact ht.1.2.2.1) (by rw [gcM_n (by decide) (by decide) (by decide)]; simp [appE, mset, mrow, upd]) hP8 (by omega) (fun q => ⟨by rw [gcM_n (by decide) (by decide) (by decide)]; simp [appE, mset, mrow]; exact (hf9 q).1, by have := hf9 q; omega⟩) _) (Nat.le_of_ble_eq_true rfl) (ci := 0) (N := 6) (T := F_G) rfl rfl tw_435 tw_421 tw_422 tw_2 tw_423 (n := 0) (by decide +kernel) rfl rfl (Nat.le_of_ble_eq_true rfl) dE_addRhs_72 ⟨Nat.le_of_ble_eq_true rfl, Nat.le_of_ble_eq_true rfl⟩ ⟨Nat.zero_le _, Nat.zero_le _⟩) (fun r12 τ13 H locs hp hE _ _ => ?_)
        refine w_top (y := nI (S - gf σ (P - 1))) (hp.1.trans (by rw [if_neg (by omega)]; congr 1)) ?_
        have hE := wS_eq hp.2 hE
        exact x_reti C hE (⟨fun q => q.elim (fun q => by omega) (fun q => by rw [c4] at q; cases q), Or.inl c7, rfl, rfl⟩) dE_addRhs_75
      · have c7 := zb_eq0 c7
        refine lv_aload_n hx hb dE_addRhs_38 rfl (lv_at hl 0 rfl) ?_
        refine lv_iload_n hx hb dE_addRhs_39 rfl (lv_at hl 1 rfl) ?_
        refine w_ci hE hA (w_runV C hk hE hl.1 (As := [.int x]) (rest := []) (q := 0) (c_E_hasToken l D cs ad σ T9 x hT hT6 _) (Nat.le_of_ble_eq_true rfl) (ci := 5) (N := 7) (T := F_E) rfl rfl tw_425 tw_427 ts_11 tw_1 tw_428 (n := 1) (by decide +kernel) rfl rfl (Nat.le_of_ble_eq_true rfl) dE_addRhs_40 ⟨Nat.le_of_ble_eq_true rfl, Nat.le_of_ble_eq_true rfl⟩ ⟨Nat.zero_le _, Nat.zero_le _⟩) (fun r14 τ15 H locs hp hE _ _ => ?_)
        refine w_top hp.1 ?_
        have hE := wS_eq hp.2 hE
        refine lv_if_ne (tgt := 56) hx hb dE_addRhs_43 (by decide) (fun c16 => ?_) (fun c16 => ?_)
        · have c16 := zb_ne0 c16
          obtain ⟨hv1, hv2⟩ : x = nI x.toNatClampNeg ∧ x.toNatClampNeg < 200 := ⟨(isTn_of hT6 c16).1, by have := (isTn_of hT6 c16).2; omega⟩
          refine lv_aload_n hx hb dE_addRhs_56 rfl (lv_at hl 0 rfl) ?_
          refine w_get C hk hE (K := R_E) (T := F_E) (N := 7) (ci := 5) in_E 0 (Nat.le_of_ble_eq_true rfl) rfl rfl 2 (by decide) tw_247 rfl rfl dE_addRhs_57 ?_
          refine lv_iload_n hx hb dE_addRhs_60 rfl (lv_at hl 1 rfl) ?_
          refine w_cv hE hA (w_runV C hk hE hl.1 (As := [.int x]) (rest := []) (q := 1) (c_G_appendSymbol l D cs ad σ P S (gf σ (P - 1)) x ht.1.2.2.1 ht.1.2.2.2.1 ⟨hP8, hPS, hr9.1⟩ (by omega) hf9 hr9.2 _) (Nat.le_of_ble_eq_true rfl) (ci := 0) (N := 6) (T := F_G) rfl rfl tw_430 tw_431 tw_432 tw_2 tw_433 (n := 1) (by decide +kernel) rfl rfl (Nat.le_of_ble_eq_true rfl) dE_addRhs_61 ⟨Nat.le_of_ble_eq_true rfl, Nat.le_of_ble_eq_true rfl⟩ ⟨Nat.zero_le _, Nat.zero_le _⟩) (fun τ18 H locs hp hE _ _ => ?_)
          have hE : wS (wE D cs ad) A s.heap (appE σ P S x) H locs := wS_eq hp hE
          refine lv_aload_n hx hb dE_addRhs_64 rfl (lv_at hl 0 rfl) ?_
          refine w_cv hE hA (w_runV C hk hE hl.1 (As := []) (rest := []) (q := 0) (c_E_grammarChanged l D cs ad (appE σ P S x) P (S + 1) n9 (hv1 ▸ tS_app ht hr9.1 (by omega) (by omega) hv2) _) (Nat.le_of_ble_eq_true rfl) (ci := 5) (N := 7) (T := F_E) rfl rfl tw_149 tw_151 ts_0 tw_1 tw_152 (n := 0) (by decide +kernel) rfl rfl (Nat.le_of_ble_eq_true rfl) dE_addRhs_65 ⟨Nat.le_of_ble_eq_true rfl, Nat.le_of_ble_eq_true rfl⟩ ⟨Nat.zero_le _, Nat.zero_le _⟩) (fun τ20 H locs hp hE _ _ => ?_)
          have hE := wS_eq hp hE
          refine lv_aload_n hx hb dE_addRhs_68 rfl (lv_at hl 0 rfl) ?_
          refine w_get C hk hE (K := R_E) (T := F_E) (N := 7) (ci := 5) in_E 0 (Nat.le_of_ble_eq_true rfl) rfl rfl 2 (by decide) tw_247 rfl rfl dE_addRhs_69 ?_
          refine w_ci hE hA (w_runV C hk hE hl.1 (As := []) (rest := []) (q := 1) (c_G_lastLength l D cs ad (gcM P (S + 1) n9 (appE σ P S x)) P (S + 1) (gf σ (P - 1)) (by rw [gcM_n (by decide) (by decide) (by decide)]; simp [appE, mset, mrow, upd]; exact ht.1.2.2.1) (by rw [gcM_n (by decide) (by decide) (by decide)]; simp [appE, mset, mrow, upd]) hP8 (by omega) (fun q => ⟨by rw [gcM_n (by decide) (by decide) (by decide)]; simp [appE, mset, mrow]; exact (hf9 q).1, by have := hf9 q; omega⟩) _) (Nat.le_of_ble_eq_true rfl) (ci := 0) (N := 6) (T := F_G) rfl rfl tw_435 tw_421 tw_422 tw_2 tw_423 (n := 0) (by decide +kernel) rfl rfl (Nat.le_of_ble_eq_true rfl) dE_addRhs_72 ⟨Nat.le_of_ble_eq_true rfl, Nat.le_of_ble_eq_true rfl⟩ ⟨Nat.zero_le _, Nat.zero_le _⟩) (fun r21 τ22 H locs hp hE _ _ => ?_)
          refine w_top (y := nI (S - gf σ (P - 1))) (hp.1.trans (by rw [if_neg (by omega)]; congr 1)) ?_
          have hE := wS_eq hp.2 hE
          exact x_reti C hE (⟨fun q => q.elim (fun q => by omega) (fun q => by rw [c4] at q; cases q), Or.inr c16, rfl, rfl⟩) dE_addRhs_75
        · have c16 := zb_eq0 c16
          exact w_throw C hE hA hx0 hX hAs hl0 hem hl.1 tw_385 tw_386 tw_14 (txt := "no such symbol") (List.mem_of_getElem? (i := 429) (by decide +kernel)) (by decide) Bundle.six_0 Bundle.six_1 Bundle.six_2 Bundle.six_5 xa_IAE (Or.inr ⟨fun q => q.elim (fun q => by omega) (fun q => by rw [c4] at q; cases q), c7, c16, rfl⟩) ⟨by decide, by decide⟩ ⟨by decide, by decide⟩ dE_addRhs_46 dE_addRhs_49 dE_addRhs_50 dE_addRhs_52 dE_addRhs_55
    · have c4 := zb_eq0 c4
      exact w_throw C hE hA hx0 hX hAs hl0 hem hl.1 tw_312 tw_313 tw_13 (txt := "no symbol can be added now") (List.mem_of_getElem? (i := 424) (by decide +kernel)) (by decide) Bundle.six_0 Bundle.six_1 Bundle.six_2 Bundle.six_5 xa_ISE (Or.inl ⟨Or.inr c4, rfl⟩) ⟨by decide, by decide⟩ ⟨by decide, by decide⟩ dE_addRhs_20 dE_addRhs_23 dE_addRhs_24 dE_addRhs_26 dE_addRhs_29
set_option maxHeartbeats 4000000 in
set_option maxRecDepth 100000 in
theorem c_E_feed (l : Launch) (D : va_G) (cs : Nat → ClassId) (ad : Nat → Nat) (σ : Mem) (P S n9 V9 T9 : Nat) (x : Int32) (hl0 : l.stackTraces = false) {a0 : Array Value} {s0 : State} (hx0 : x0 a0 s0) (hI : eI σ P S n9 V9 T9) : MetX l s0 (wE D cs ad) cs yE_feed bE_feed 2 (some .int) 7 170 [.ref (ad 0), .int x] σ (fun r τ => ¬ (P = 0 ∨ 8 ≤ n9) ∧ isTn T9 x = true ∧ r = sizF ((feedE σ P S n9 x) (n9 + 1 + 19)) S ∧ τ = feedE σ P S n9 x) (fun K => (P = 0 ∨ 8 ≤ n9) ∧ K = "java/lang/IllegalStateException" ∨ ¬ (P = 0 ∨ 8 ≤ n9) ∧ isTn T9 x = false ∧ K = "java/lang/IllegalArgumentException") := by
  refine MetX.start (by decide) (Nat.le_of_ble_eq_true rfl) ?_
  intro p e s m below meth c A ls C hk hA hE hl hX hAs hem
  obtain ⟨hx, hb, hml, hown, hts, hr, hlocks⟩ := id C
  have hl : lv_has ls 2 [(0, .ref (ad 0)), (1, .int x)] := hl
  obtain ⟨ht, hPS, hSP, hV6, hV, hT6, hT⟩ := id hI
  have hP8 := ht.1.1
  have hS24 := ht.1.2.1
  have hn8 := ht.2.1
  refine lv_aload_n hx hb dE_feed_0 rfl (lv_at hl 0 rfl) ?_
  refine w_get C hk hE (K := R_E) (T := F_E) (N := 7) (ci := 5) in_E 0 (Nat.le_of_ble_eq_true rfl) rfl rfl 2 (by decide) tw_247 rfl rfl dE_feed_1 ?_
  refine w_get C hk hE (K := R_G) (T := F_G) (N := 6) (ci := 0) in_G 1 (Nat.le_of_ble_eq_true rfl) rfl rfl 4 (by decide) tw_45 rfl rfl dE_feed_4 ?_
  refine w_top (y := nI P) (ht.1.2.2.1) ?_
  refine lv_if_eq (tgt := 22) hx hb dE_feed_7 (by decide) (fun c1 => ?_) (fun c1 => ?_)
  · have c1 := w_z0 (by omega) c1
    exact w_throw C hE hA hx0 hX hAs hl0 hem hl.1 tw_312 tw_313 tw_13 (txt := "no token can be fed now") (List.mem_of_getElem? (i := 443) (by decide +kernel)) (by decide) Bundle.six_0 Bundle.six_1 Bundle.six_2 Bundle.six_5 xa_ISE (Or.inl ⟨Or.inl c1, rfl⟩) ⟨by decide, by decide⟩ ⟨by decide, by decide⟩ dE_feed_22 dE_feed_25 dE_feed_26 dE_feed_28 dE_feed_31
  · have c1 := w_n0 (by omega) c1
    refine lv_aload_n hx hb dE_feed_10 rfl (lv_at hl 0 rfl) ?_
    refine w_get C hk hE (K := R_E) (T := F_E) (N := 7) (ci := 5) in_E 0 (Nat.le_of_ble_eq_true rfl) rfl rfl 3 (by decide) tw_248 rfl rfl dE_feed_11 ?_
    refine w_get C hk hE (K := R_I) (T := F_I) (N := 2) (ci := 1) in_I 2 (Nat.le_of_ble_eq_true rfl) rfl rfl 1 (by decide) tw_72 rfl rfl dE_feed_14 ?_
    refine w_top (y := nI n9) (ht.2.2) ?_
    refine lv_bipush (v := nI 8) hx hb dE_feed_17 (by decide) ?_
    refine lv_icmp_lt (tgt := 32) hx hb dE_feed_19 (by decide) (fun c2 => ?_) (fun c2 => ?_)
    · have c2 : n9 < 8 := (nI_ltI (by omega) (by omega)).mp c2
      refine lv_aload_n hx hb dE_feed_32 rfl (lv_at hl 0 rfl) ?_
      refine lv_iload_n hx hb dE_feed_33 rfl (lv_at hl 1 rfl) ?_
      refine w_ci hE hA (w_runV C hk hE hl.1 (As := [.int x]) (rest := []) (q := 0) (c_E_hasToken l D cs ad σ T9 x hT hT6 _) (Nat.le_of_ble_eq_true rfl) (ci := 5) (N := 7) (T := F_E) rfl rfl tw_425 tw_427 ts_11 tw_1 tw_428 (n := 1) (by decide +kernel) rfl rfl (Nat.le_of_ble_eq_true rfl) dE_feed_34 ⟨Nat.le_of_ble_eq_true rfl, Nat.le_of_ble_eq_true rfl⟩ ⟨Nat.zero_le _, Nat.zero_le _⟩) (fun r3 τ4 H locs hp hE _ _ => ?_)
      refine w_top hp.1 ?_
      have hE := wS_eq hp.2 hE
      refine lv_if_ne (tgt := 50) hx hb dE_feed_37 (by decide) (fun c5 => ?_) (fun c5 => ?_)
      · have c5 := zb_ne0 c5
        refine lv_aload_n hx hb dE_feed_50 rfl (lv_at hl 0 rfl) ?_
        refine w_get C hk hE (K := R_E) (T := F_E) (N := 7) (ci := 5) in_E 0 (Nat.le_of_ble_eq_true rfl) rfl rfl 6 (by decide) tw_251 rfl rfl dE_feed_51 ?_
        refine w_cv hE hA (w_runV C hk hE hl.1 (As := []) (rest := []) (q := 5) (c_W_forget l D cs ad σ _) (Nat.le_of_ble_eq_true rfl) (ci := 4) (N := 8) (T := F_W) rfl rfl tw_153 tw_154 tw_155 tw_6 tw_156 (n := 0) (by decide +kernel) rfl rfl (Nat.le_of_ble_eq_true rfl) dE_feed_54 ⟨Nat.le_of_ble_eq_true rfl, Nat.le_of_ble_eq_true rfl⟩ ⟨Nat.zero_le _, Nat.zero_le _⟩) (fun τ7 H locs hp hE _ _ => ?_)
        have hE := wS_eq hp hE
        refine lv_aload_n hx hb dE_feed_57 rfl (lv_at hl 0 rfl) ?_
        refine w_get C hk hE (K := R_E) (T := F_E) (N := 7) (ci := 5) in_E 0 (Nat.le_of_ble_eq_true rfl) rfl rfl 3 (by decide) tw_248 rfl rfl dE_feed_58 ?_
        refine lv_iload_n hx hb dE_feed_61 rfl (lv_at hl 1 rfl) ?_
        refine w_cv hE hA (w_runV C hk hE hl.1 (As := [.int x]) (rest := []) (q := 2) (c_I_append l D cs ad (mset σ 5 3 (nI 0)) n9 x (by rw [mset_n (by decide)]; exact ht.2.2) (by omega) _) (Nat.le_of_ble_eq_true rfl) (ci := 1) (N := 2) (T := F_I) rfl rfl tw_445 tw_446 tw_447 tw_3 tw_448 (n := 1) (by decide +kernel) rfl rfl (Nat.le_of_ble_eq_true rfl) dE_feed_62 ⟨Nat.le_of_ble_eq_true rfl, Nat.le_of_ble_eq_true rfl⟩ ⟨Nat.zero_le _, Nat.zero_le _⟩) (fun τ9 H locs hp hE _ _ => ?_)
        have hE : wS (wE D cs ad) A s.heap (fedE σ n9 x) H locs := wS_eq hp hE
        refine lv_aload_n hx hb dE_feed_65 rfl (lv_at hl 0 rfl) ?_
        refine w_get C hk hE (K := R_E) (T := F_E) (N := 7) (ci := 5) in_E 0 (Nat.le_of_ble_eq_true rfl) rfl rfl 4 (by decide) tw_249 rfl rfl dE_feed_66 ?_
        refine lv_aload_n hx hb dE_feed_69 rfl (lv_at hl 0 rfl) ?_
        refine w_get C hk hE (K := R_E) (T := F_E) (N := 7) (ci := 5) in_E 0 (Nat.le_of_ble_eq_true rfl) rfl rfl 3 (by decide) tw_248 rfl rfl dE_feed_70 ?_
        refine w_get C hk hE (K := R_I) (T := F_I) (N := 2) (ci := 1) in_I 2 (Nat.le_of_ble_eq_true rfl) rfl rfl 1 (by decide) tw_72 rfl rfl dE_feed_73 ?_
        refine w_top (y := nI (n9 + 1)) (fedE_21) ?_
        refine lv_iload_n hx hb dE_feed_76 rfl (lv_at hl 1 rfl) ?_
        refine w_cv hE hA (w_runV C hk hE hl.1 (As := [.int (nI (n9 + 1)), .int x]) (rest := []) (q := 3) (c_S_makeNext l D cs ad (fedE σ n9 x) (n9 + 1) P S x (by omega) (by omega) (gS_fed ht.1) _) (Nat.le_of_ble_eq_true rfl) (ci := 2) (N := 3) (T := F_S) rfl rfl tw_449 tw_450 tw_451 tw_5 tw_452 (n := 2) (by decide +kernel) rfl rfl (Nat.le_of_ble_eq_true rfl) dE_feed_77 ⟨Nat.le_of_ble_eq_true rfl, Nat.le_of_ble_eq_true rfl⟩ ⟨Nat.zero_le _, Nat.zero_le _⟩) (fun τ11 H locs hp hE _ _ => ?_)
        have hE : wS (wE D cs ad) A s.heap (nxE σ P S n9 x) H locs := wS_eq hp hE
        refine lv_aload_n hx hb dE_feed_80 rfl (lv_at hl 0 rfl) ?_
        refine w_get C hk hE (K := R_E) (T := F_E) (N := 7) (ci := 5) in_E 0 (Nat.le_of_ble_eq_true rfl) rfl rfl 5 (by decide) tw_250 rfl rfl dE_feed_81 ?_
        refine lv_aload_n hx hb dE_feed_84 rfl (lv_at hl 0 rfl) ?_
        refine w_get C hk hE (K := R_E) (T := F_E) (N := 7) (ci := 5) in_E 0 (Nat.le_of_ble_eq_true rfl) rfl rfl 3 (by decide) tw_248 rfl rfl dE_feed_85 ?_
        refine w_get C hk hE (K := R_I) (T := F_I) (N := 2) (ci := 1) in_I 2 (Nat.le_of_ble_eq_true rfl) rfl rfl 1 (by decide) tw_72 rfl rfl dE_feed_88 ?_
        refine w_top (y := nI (n9 + 1)) (nxE_21) ?_
        refine w_cv hE hA (w_runV C hk hE hl.1 (As := [.int (nI (n9 + 1))]) (rest := []) (q := 4) (c_T_fillUpTo l D cs ad (nxE σ P S n9 x) P S (n9 + 1) (n9 + 1) (tS_nx ht.1 (by omega)) (by omega) _) (Nat.le_of_ble_eq_true rfl) (ci := 3) (N := 4) (T := F_T) rfl rfl tw_453 tw_454 tw_455 tw_4 tw_456 (n := 1) (by decide +kernel) rfl rfl (Nat.le_of_ble_eq_true rfl) dE_feed_91 ⟨Nat.le_of_ble_eq_true rfl, Nat.le_of_ble_eq_true rfl⟩ ⟨Nat.zero_le _, Nat.zero_le _⟩) (fun τ13 H locs hp hE _ _ => ?_)
        have hE : wS (wE D cs ad) A s.heap (feedE σ P S n9 x) H locs := wS_eq hp hE
        refine lv_aload_n hx hb dE_feed_94 rfl (lv_at hl 0 rfl) ?_
        refine w_get C hk hE (K := R_E) (T := F_E) (N := 7) (ci := 5) in_E 0 (Nat.le_of_ble_eq_true rfl) rfl rfl 4 (by decide) tw_249 rfl rfl dE_feed_95 ?_
        refine lv_aload_n hx hb dE_feed_98 rfl (lv_at hl 0 rfl) ?_
        refine w_get C hk hE (K := R_E) (T := F_E) (N := 7) (ci := 5) in_E 0 (Nat.le_of_ble_eq_true rfl) rfl rfl 3 (by decide) tw_248 rfl rfl dE_feed_99 ?_
        refine w_get C hk hE (K := R_I) (T := F_I) (N := 2) (ci := 1) in_I 2 (Nat.le_of_ble_eq_true rfl) rfl rfl 1 (by decide) tw_72 rfl rfl dE_feed_102 ?_
        refine w_top (y := nI (n9 + 1)) (feedE_21) ?_
        refine w_ci hE hA (w_runV C hk hE hl.1 (As := [.int (nI (n9 + 1))]) (rest := []) (q := 3) (c_S_size l D cs ad (feedE σ P S n9 x) (n9 + 1) S (by omega) (tS_feed (n := n9) (x := x) ht.1 (by omega)).1.2.2.2.1 hS24 _) (Nat.le_of_ble_eq_true rfl) (ci := 2) (N := 3) (T := F_S) rfl rfl tw_271 tw_177 tw_178 tw_5 tw_179 (n := 1) (by decide +kernel) rfl rfl (Nat.le_of_ble_eq_true rfl) dE_feed_105 ⟨Nat.le_of_ble_eq_true rfl, Nat.le_of_ble_eq_true rfl⟩ ⟨Nat.zero_le _, Nat.zero_le _⟩) (fun r14 τ15 H locs hp hE _ _ => ?_)
        refine w_top hp.1 ?_
        have hE := wS_eq hp.2 hE
        exact x_reti C hE (⟨by omega, c5, rfl, rfl⟩) dE_feed_108
      · have c5 := zb_eq0 c5
        exact w_throw C hE hA hx0 hX hAs hl0 hem hl.1 tw_385 tw_386 tw_14 (txt := "no such token") (List.mem_of_getElem? (i := 444) (by decide +kernel)) (by decide) Bundle.six_0 Bundle.six_1 Bundle.six_2 Bundle.six_5 xa_IAE (Or.inr ⟨by omega, c5, rfl⟩) ⟨by decide, by decide⟩ ⟨by decide, by decide⟩ dE_feed_40 dE_feed_43 dE_feed_44 dE_feed_46 dE_feed_49
    · have c2 : ¬ (n9 < 8) := fun h => c2 ((nI_ltI (by omega) (by omega)).mpr h)
      exact w_throw C hE hA hx0 hX hAs hl0 hem hl.1 tw_312 tw_313 tw_13 (txt := "no token can be fed now") (List.mem_of_getElem? (i := 443) (by decide +kernel)) (by decide) Bundle.six_0 Bundle.six_1 Bundle.six_2 Bundle.six_5 xa_ISE (Or.inl ⟨Or.inr (by omega), rfl⟩) ⟨by decide, by decide⟩ ⟨by decide, by decide⟩ dE_feed_22 dE_feed_25 dE_feed_26 dE_feed_28 dE_feed_31
set_option maxHeartbeats 4000000 in
set_option maxRecDepth 100000 in
theorem c_E_extract (l : Launch) (D : va_G) (cs : Nat → ClassId) (ad : Nat → Nat) (σ : Mem) (P S n9 V9 T9 : Nat) (hl0 : l.stackTraces = false) {a0 : Array Value} {s0 : State} (hx0 : x0 a0 s0) (hI : eI σ P S n9 V9 T9) : MetX l s0 (wE D cs ad) cs yE_extract bE_extract 1 (some .int) 6 145 [.ref (ad 0)] σ (fun r τ => holdF σ (σ (n9 + 19)) S = true ∧ r = tellE σ P S n9 5 3 ∧ τ = tellE σ P S n9) (fun K => holdF σ (σ (n9 + 19)) S = false ∧ K = "java/util/NoSuchElementException") := by
  refine MetX.start (by decide) (Nat.le_of_ble_eq_true rfl) ?_
  intro p e s m below meth c A ls C hk hA hE hl hX hAs hem
  obtain ⟨hx, hb, hml, hown, hts, hr, hlocks⟩ := id C
  have hl : lv_has ls 1 [(0, .ref (ad 0))] := hl
  obtain ⟨ht, hPS, hSP, hV6, hV, hT6, hT⟩ := id hI
  have hP8 := ht.1.1
  have hS24 := ht.1.2.1
  have hn8 := ht.2.1
  refine lv_aload_n hx hb dE_extract_0 rfl (lv_at hl 0 rfl) ?_
  refine w_get C hk hE (K := R_E) (T := F_E) (N := 7) (ci := 5) in_E 0 (Nat.le_of_ble_eq_true rfl) rfl rfl 4 (by decide) tw_249 rfl rfl dE_extract_1 ?_
  refine lv_aload_n hx hb dE_extract_4 rfl (lv_at hl 0 rfl) ?_
  refine w_get C hk hE (K := R_E) (T := F_E) (N := 7) (ci := 5) in_E 0 (Nat.le_of_ble_eq_true rfl) rfl rfl 3 (by decide) tw_248 rfl rfl dE_extract_5 ?_
  refine w_get C hk hE (K := R_I) (T := F_I) (N := 2) (ci := 1) in_I 2 (Nat.le_of_ble_eq_true rfl) rfl rfl 1 (by decide) tw_72 rfl rfl dE_extract_8 ?_
  refine w_top (y := nI n9) (ht.2.2) ?_
  refine w_ci hE hA (w_runV C hk hE hl.1 (As := [.int (nI n9)]) (rest := []) (q := 3) (c_S_holdWholeStart l D cs ad σ n9 P S (by omega) ht.1 _) (Nat.le_of_ble_eq_true rfl) (ci := 2) (N := 3) (T := F_S) rfl rfl tw_276 tw_277 tw_278 tw_5 tw_279 (n := 1) (by decide +kernel) rfl rfl (Nat.le_of_ble_eq_true rfl) dE_extract_11 ⟨Nat.le_of_ble_eq_true rfl, Nat.le_of_ble_eq_true rfl⟩ ⟨Nat.zero_le _, Nat.zero_le _⟩) (fun r1 τ2 H locs hp hE _ _ => ?_)
  refine w_top hp.1 ?_
  have hE := wS_eq hp.2 hE
  refine lv_if_ne (tgt := 27) hx hb dE_extract_14 (by decide) (fun c3 => ?_) (fun c3 => ?_)
  · have c3 := zb_ne0 c3
    refine lv_aload_n hx hb dE_extract_27 rfl (lv_at hl 0 rfl) ?_
    refine w_get C hk hE (K := R_E) (T := F_E) (N := 7) (ci := 5) in_E 0 (Nat.le_of_ble_eq_true rfl) rfl rfl 6 (by decide) tw_251 rfl rfl dE_extract_28 ?_
    refine lv_aload_n hx hb dE_extract_31 rfl (lv_at hl 0 rfl) ?_
    refine w_get C hk hE (K := R_E) (T := F_E) (N := 7) (ci := 5) in_E 0 (Nat.le_of_ble_eq_true rfl) rfl rfl 2 (by decide) tw_247 rfl rfl dE_extract_32 ?_
    refine w_ci hE hA (w_runV C hk hE hl.1 (As := []) (rest := [.ref (ad 5)]) (q := 1) (c_G_start l D cs ad σ _) (Nat.le_of_ble_eq_true rfl) (ci := 0) (N := 6) (T := F_G) rfl rfl tw_482 tw_165 tw_166 tw_2 tw_167 (n := 0) (by decide +kernel) rfl rfl (Nat.le_of_ble_eq_true rfl) dE_extract_35 ⟨Nat.le_of_ble_eq_true rfl, Nat.le_of_ble_eq_true rfl⟩ ⟨Nat.zero_le _, Nat.zero_le _⟩) (fun r4 τ5 H locs hp hE _ _ => ?_)
    refine w_top hp.1 ?_
    have hE := wS_eq hp.2 hE
    refine lv_aload_n hx hb dE_extract_38 rfl (lv_at hl 0 rfl) ?_
    refine w_get C hk hE (K := R_E) (T := F_E) (N := 7) (ci := 5) in_E 0 (Nat.le_of_ble_eq_true rfl) rfl rfl 3 (by decide) tw_248 rfl rfl dE_extract_39 ?_
    refine w_get C hk hE (K := R_I) (T := F_I) (N := 2) (ci := 1) in_I 2 (Nat.le_of_ble_eq_true rfl) rfl rfl 1 (by decide) tw_72 rfl rfl dE_extract_42 ?_
    refine w_top (y := nI n9) (ht.2.2) ?_
    refine w_cv hE hA (w_runV C hk hE hl.1 (As := [.int (σ 6 0), .int (nI n9)]) (rest := []) (q := 5) (c_W_tell l D cs ad σ P S n9 (σ 6 0) n9 ht (Nat.le_refl _) _) (Nat.le_of_ble_eq_true rfl) (ci := 4) (N := 8) (T := F_W) rfl rfl tw_483 tw_484 tw_485 tw_6 tw_486 (n := 2) (by decide +kernel) rfl rfl (Nat.le_of_ble_eq_true rfl) dE_extract_45 ⟨Nat.le_of_ble_eq_true rfl, Nat.le_of_ble_eq_true rfl⟩ ⟨Nat.zero_le _, Nat.zero_le _⟩) (fun τ7 H locs hp hE _ _ => ?_)
    have hE : wS (wE D cs ad) A s.heap (tellE σ P S n9) H locs := wS_eq hp hE
    refine lv_aload_n hx hb dE_extract_48 rfl (lv_at hl 0 rfl) ?_
    refine w_get C hk hE (K := R_E) (T := F_E) (N := 7) (ci := 5) in_E 0 (Nat.le_of_ble_eq_true rfl) rfl rfl 6 (by decide) tw_251 rfl rfl dE_extract_49 ?_
    refine w_get C hk hE (K := R_W) (T := F_W) (N := 8) (ci := 4) in_W 5 (Nat.le_of_ble_eq_true rfl) rfl rfl 3 (by decide) tw_127 rfl rfl dE_extract_52 ?_
    exact x_reti C hE (⟨c3, rfl, rfl⟩) dE_extract_55
  · have c3 := zb_eq0 c3
    exact w_throw C hE hA hx0 hX hAs hl0 hem hl.1 tw_466 tw_467 tw_15 (txt := "the input is not accepted") (List.mem_of_getElem? (i := 475) (by decide +kernel)) (by decide) xd_n0 xd_n1 xd_n2 xd_n5 xa_NSE (⟨c3, rfl⟩) ⟨by decide, by decide⟩ ⟨by decide, by decide⟩ dE_extract_17 dE_extract_20 dE_extract_21 dE_extract_23 dE_extract_26
set_option maxHeartbeats 4000000 in
set_option maxRecDepth 100000 in
theorem c_E_wit (l : Launch) (D : va_G) (cs : Nat → ClassId) (ad : Nat → Nat) (σ : Mem) (k9 : Nat) (x : Int32) (hl0 : l.stackTraces = false) {a0 : Array Value} {s0 : State} (hx0 : x0 a0 s0) (hk9 : σ 5 3 = nI k9) (hk8 : k9 ≤ 8000) : MetX l s0 (wE D cs ad) cs yE_wit bE_wit 2 (some .int) 6 82 [.ref (ad 0), .int x] σ (fun r τ => ¬ (x < 0 ∨ ¬ x < nI k9) ∧ r = σ 15 x.toNatClampNeg ∧ τ = σ) (fun K => (x < 0 ∨ ¬ x < nI k9) ∧ K = "java/lang/IndexOutOfBoundsException") := by
  refine MetX.start (by decide) (Nat.le_of_ble_eq_true rfl) ?_
  intro p e s m below meth c A ls C hk hA hE hl hX hAs hem
  obtain ⟨hx, hb, hml, hown, hts, hr, hlocks⟩ := id C
  have hl : lv_has ls 2 [(0, .ref (ad 0)), (1, .int x)] := hl
  refine lv_iload_n hx hb dE_wit_0 rfl (lv_at hl 1 rfl) ?_
  refine lv_if_lt (tgt := 15) hx hb dE_wit_1 (by decide) (fun c1 => ?_) (fun c1 => ?_)
  · exact w_throw C hE hA hx0 hX hAs hl0 hem hl.1 tw_516 tw_517 tw_16 (txt := "no such production of the witness") (List.mem_of_getElem? (i := 525) (by decide +kernel)) (by decide) Bundle.six_0 Bundle.six_1 Bundle.six_2 Bundle.six_5 xa_IOE (⟨Or.inl c1, rfl⟩) ⟨by decide, by decide⟩ ⟨by decide, by decide⟩ dE_wit_15 dE_wit_18 dE_wit_19 dE_wit_21 dE_wit_24
  · have c9a := c1
    refine lv_iload_n hx hb dE_wit_4 rfl (lv_at hl 1 rfl) ?_
    refine lv_aload_n hx hb dE_wit_5 rfl (lv_at hl 0 rfl) ?_
    refine w_get C hk hE (K := R_E) (T := F_E) (N := 7) (ci := 5) in_E 0 (Nat.le_of_ble_eq_true rfl) rfl rfl 6 (by decide) tw_251 rfl rfl dE_wit_6 ?_
    refine w_get C hk hE (K := R_W) (T := F_W) (N := 8) (ci := 4) in_W 5 (Nat.le_of_ble_eq_true rfl) rfl rfl 3 (by decide) tw_127 rfl rfl dE_wit_9 ?_
    refine w_top (y := nI k9) (hk9) ?_
    refine lv_icmp_lt (tgt := 25) hx hb dE_wit_12 (by decide) (fun c2 => ?_) (fun c2 => ?_)
    · obtain ⟨hv1, hv2⟩ := isVn_of2 hk8 c9a c2
      refine lv_aload_n hx hb dE_wit_25 rfl (lv_at hl 0 rfl) ?_
      refine w_get C hk hE (K := R_E) (T := F_E) (N := 7) (ci := 5) in_E 0 (Nat.le_of_ble_eq_true rfl) rfl rfl 6 (by decide) tw_251 rfl rfl dE_wit_26 ?_
      refine w_get C hk hE (K := R_W) (T := F_W) (N := 8) (ci := 4) in_W 5 (Nat.le_of_ble_eq_true rfl) rfl rfl 2 (by decide) tw_125 rfl rfl dE_wit_29 ?_
      refine lv_iload_n hx hb dE_wit_32 rfl (lv_at hl 1 rfl) ?_
      refine w_top (y := nI x.toNatClampNeg) hv1 ?_
      refine w_iald C hk hE 15 (by exact Nat.le_of_ble_eq_true rfl) (n := 8000) rfl (by omega) (by first | decide | omega) dE_wit_33 ?_
      exact x_reti C hE (⟨fun q => q.elim c1 (fun q => q c2), rfl, rfl⟩) dE_wit_34
    · exact w_throw C hE hA hx0 hX hAs hl0 hem hl.1 tw_516 tw_517 tw_16 (txt := "no such production of the witness") (List.mem_of_getElem? (i := 525) (by decide +kernel)) (by decide) Bundle.six_0 Bundle.six_1 Bundle.six_2 Bundle.six_5 xa_IOE (⟨Or.inr c2, rfl⟩) ⟨by decide, by decide⟩ ⟨by decide, by decide⟩ dE_wit_15 dE_wit_18 dE_wit_19 dE_wit_21 dE_wit_24
set_option maxHeartbeats 4000000 in
set_option maxRecDepth 100000 in
theorem c_E_items (l : Launch) (D : va_G) (cs : Nat → ClassId) (ad : Nat → Nat) (σ : Mem) (P S n9 V9 T9 : Nat) (x : Int32) (hl0 : l.stackTraces = false) {a0 : Array Value} {s0 : State} (hx0 : x0 a0 s0) (hI : eI σ P S n9 V9 T9) : MetX l s0 (wE D cs ad) cs yE_items bE_items 2 (some .int) 6 82 [.ref (ad 0), .int x] σ (fun r τ => isKn n9 x = true ∧ r = sizF (σ (x.toNatClampNeg + 19)) S ∧ τ = σ) (fun K => isKn n9 x = false ∧ K = "java/lang/IndexOutOfBoundsException") := by
  refine MetX.start (by decide) (Nat.le_of_ble_eq_true rfl) ?_
  intro p e s m below meth c A ls C hk hA hE hl hX hAs hem
  obtain ⟨hx, hb, hml, hown, hts, hr, hlocks⟩ := id C
  have hl : lv_has ls 2 [(0, .ref (ad 0)), (1, .int x)] := hl
  obtain ⟨ht, hPS, hSP, hV6, hV, hT6, hT⟩ := id hI
  have hP8 := ht.1.1
  have hS24 := ht.1.2.1
  have hn8 := ht.2.1
  refine lv_aload_n hx hb dE_items_0 rfl (lv_at hl 0 rfl) ?_
  refine lv_iload_n hx hb dE_items_1 rfl (lv_at hl 1 rfl) ?_
  refine w_ci hE hA (w_runV C hk hE hl.1 (As := [.int x]) (rest := []) (q := 0) (c_E_hasSet l D cs ad σ n9 x ht.2.2 hn8 _) (Nat.le_of_ble_eq_true rfl) (ci := 5) (N := 7) (T := F_E) rfl rfl tw_539 tw_541 ts_16 tw_1 tw_542 (n := 1) (by decide +kernel) rfl rfl (Nat.le_of_ble_eq_true rfl) dE_items_2 ⟨Nat.le_of_ble_eq_true rfl, Nat.le_of_ble_eq_true rfl⟩ ⟨Nat.zero_le _, Nat.zero_le _⟩) (fun r1 τ2 H locs hp hE _ _ => ?_)
  refine w_top hp.1 ?_
  have hE := wS_eq hp.2 hE
  refine lv_if_ne (tgt := 18) hx hb dE_items_5 (by decide) (fun c3 => ?_) (fun c3 => ?_)
  · have c3 := zb_ne0 c3
    obtain ⟨hv1, hv2⟩ := isKn_t hn8 c3
    refine lv_aload_n hx hb dE_items_18 rfl (lv_at hl 0 rfl) ?_
    refine w_get C hk hE (K := R_E) (T := F_E) (N := 7) (ci := 5) in_E 0 (Nat.le_of_ble_eq_true rfl) rfl rfl 4 (by decide) tw_249 rfl rfl dE_items_19 ?_
    refine lv_iload_n hx hb dE_items_22 rfl (lv_at hl 1 rfl) ?_
    refine w_top (y := nI x.toNatClampNeg) hv1 ?_
    refine w_ci hE hA (w_runV C hk hE hl.1 (As := [.int (nI x.toNatClampNeg)]) (rest := []) (q := 3) (c_S_size l D cs ad σ x.toNatClampNeg S (by omega) ht.1.2.2.2.1 hS24 _) (Nat.le_of_ble_eq_true rfl) (ci := 2) (N := 3) (T := F_S) rfl rfl tw_271 tw_177 tw_178 tw_5 tw_179 (n := 1) (by decide +kernel) rfl rfl (Nat.le_of_ble_eq_true rfl) dE_items_23 ⟨Nat.le_of_ble_eq_true rfl, Nat.le_of_ble_eq_true rfl⟩ ⟨Nat.zero_le _, Nat.zero_le _⟩) (fun r4 τ5 H locs hp hE _ _ => ?_)
    refine w_top hp.1 ?_
    have hE := wS_eq hp.2 hE
    exact x_reti C hE (⟨c3, rfl, rfl⟩) dE_items_26
  · have c3 := zb_eq0 c3
    exact w_throw C hE hA hx0 hX hAs hl0 hem hl.1 tw_516 tw_517 tw_16 (txt := "no such set") (List.mem_of_getElem? (i := 543) (by decide +kernel)) (by decide) Bundle.six_0 Bundle.six_1 Bundle.six_2 Bundle.six_5 xa_IOE (⟨c3, rfl⟩) ⟨by decide, by decide⟩ ⟨by decide, by decide⟩ dE_items_8 dE_items_11 dE_items_12 dE_items_14 dE_items_17
set_option maxHeartbeats 4000000 in
set_option maxRecDepth 100000 in
theorem c_E_item (l : Launch) (D : va_G) (cs : Nat → ClassId) (ad : Nat → Nat) (σ : Mem) (P S n9 V9 T9 : Nat) (x z : Int32) (hl0 : l.stackTraces = false) {a0 : Array Value} {s0 : State} (hx0 : x0 a0 s0) (hI : eI σ P S n9 V9 T9) : MetX l s0 (wE D cs ad) cs yE_item bE_item 3 (some .int) 6 82 [.ref (ad 0), .int x, .int z] σ (fun r τ => (isKn n9 x = true ∧ ¬ z < 0 ∧ z < sizF (σ (x.toNatClampNeg + 19)) S) ∧ r = codeF σ (σ (x.toNatClampNeg + 19)) S 0 z ∧ τ = σ) (fun K => ¬ (isKn n9 x = true ∧ ¬ z < 0 ∧ z < sizF (σ (x.toNatClampNeg + 19)) S) ∧ K = "java/lang/IndexOutOfBoundsException") := by
  refine MetX.start (by decide) (Nat.le_of_ble_eq_true rfl) ?_
  intro p e s m below meth c A ls C hk hA hE hl hX hAs hem
  obtain ⟨hx, hb, hml, hown, hts, hr, hlocks⟩ := id C
  have hl : lv_has ls 3 [(0, .ref (ad 0)), (1, .int x), (2, .int z)] := hl
  obtain ⟨ht, hPS, hSP, hV6, hV, hT6, hT⟩ := id hI
  have hP8 := ht.1.1
  have hS24 := ht.1.2.1
  have hn8 := ht.2.1
  refine lv_aload_n hx hb dE_item_0 rfl (lv_at hl 0 rfl) ?_
  refine lv_iload_n hx hb dE_item_1 rfl (lv_at hl 1 rfl) ?_
  refine w_ci hE hA (w_runV C hk hE hl.1 (As := [.int x]) (rest := []) (q := 0) (c_E_hasSet l D cs ad σ n9 x ht.2.2 hn8 _) (Nat.le_of_ble_eq_true rfl) (ci := 5) (N := 7) (T := F_E) rfl rfl tw_539 tw_541 ts_16 tw_1 tw_542 (n := 1) (by decide +kernel) rfl rfl (Nat.le_of_ble_eq_true rfl) dE_item_2 ⟨Nat.le_of_ble_eq_true rfl, Nat.le_of_ble_eq_true rfl⟩ ⟨Nat.zero_le _, Nat.zero_le _⟩) (fun r1 τ2 H locs hp hE _ _ => ?_)
  refine w_top hp.1 ?_
  have hE := wS_eq hp.2 hE
  refine lv_if_eq (tgt := 24) hx hb dE_item_5 (by decide) (fun c3 => ?_) (fun c3 => ?_)
  · have c3 := zb_eq0 c3
    exact w_throw C hE hA hx0 hX hAs hl0 hem hl.1 tw_516 tw_517 tw_16 (txt := "no such item") (List.mem_of_getElem? (i := 551) (by decide +kernel)) (by decide) Bundle.six_0 Bundle.six_1 Bundle.six_2 Bundle.six_5 xa_IOE (⟨(fun q => Bool.noConfusion (q.1.symm.trans c3)), rfl⟩) ⟨by decide, by decide⟩ ⟨by decide, by decide⟩ dE_item_24 dE_item_27 dE_item_28 dE_item_30 dE_item_33
  · have c3 := zb_ne0 c3
    obtain ⟨hv1, hv2⟩ := isKn_t hn8 c3
    refine lv_iload_n hx hb dE_item_8 rfl (lv_at hl 2 rfl) ?_
    refine lv_if_lt (tgt := 24) hx hb dE_item_9 (by decide) (fun c4 => ?_) (fun c4 => ?_)
    · exact w_throw C hE hA hx0 hX hAs hl0 hem hl.1 tw_516 tw_517 tw_16 (txt := "no such item") (List.mem_of_getElem? (i := 551) (by decide +kernel)) (by decide) Bundle.six_0 Bundle.six_1 Bundle.six_2 Bundle.six_5 xa_IOE (⟨fun q => q.2.1 c4, rfl⟩) ⟨by decide, by decide⟩ ⟨by decide, by decide⟩ dE_item_24 dE_item_27 dE_item_28 dE_item_30 dE_item_33
    · refine lv_iload_n hx hb dE_item_12 rfl (lv_at hl 2 rfl) ?_
      refine lv_aload_n hx hb dE_item_13 rfl (lv_at hl 0 rfl) ?_
      refine w_get C hk hE (K := R_E) (T := F_E) (N := 7) (ci := 5) in_E 0 (Nat.le_of_ble_eq_true rfl) rfl rfl 4 (by decide) tw_249 rfl rfl dE_item_14 ?_
      refine lv_iload_n hx hb dE_item_17 rfl (lv_at hl 1 rfl) ?_
      refine w_top (y := nI x.toNatClampNeg) hv1 ?_
      refine w_ci hE hA (w_runV C hk hE hl.1 (As := [.int (nI x.toNatClampNeg)]) (rest := [.int z]) (q := 3) (c_S_size l D cs ad σ x.toNatClampNeg S (by omega) ht.1.2.2.2.1 hS24 _) (Nat.le_of_ble_eq_true rfl) (ci := 2) (N := 3) (T := F_S) rfl rfl tw_271 tw_177 tw_178 tw_5 tw_179 (n := 1) (by decide +kernel) rfl rfl (Nat.le_of_ble_eq_true rfl) dE_item_18 ⟨Nat.le_of_ble_eq_true rfl, Nat.le_of_ble_eq_true rfl⟩ ⟨Nat.zero_le _, Nat.zero_le _⟩) (fun r5 τ6 H locs hp hE _ _ => ?_)
      refine w_top hp.1 ?_
      have hE := wS_eq hp.2 hE
      refine lv_icmp_lt (tgt := 34) hx hb dE_item_21 (by decide) (fun c7 => ?_) (fun c7 => ?_)
      · refine lv_aload_n hx hb dE_item_34 rfl (lv_at hl 0 rfl) ?_
        refine w_get C hk hE (K := R_E) (T := F_E) (N := 7) (ci := 5) in_E 0 (Nat.le_of_ble_eq_true rfl) rfl rfl 4 (by decide) tw_249 rfl rfl dE_item_35 ?_
        refine lv_iload_n hx hb dE_item_38 rfl (lv_at hl 1 rfl) ?_
        refine w_top (y := nI x.toNatClampNeg) hv1 ?_
        refine lv_iload_n hx hb dE_item_39 rfl (lv_at hl 2 rfl) ?_
        refine w_ci hE hA (w_runV C hk hE hl.1 (As := [.int (nI x.toNatClampNeg), .int z]) (rest := []) (q := 3) (c_S_codeOf l D cs ad σ x.toNatClampNeg P S z (by omega) ht.1 _) (Nat.le_of_ble_eq_true rfl) (ci := 2) (N := 3) (T := F_S) rfl rfl tw_552 tw_553 tw_554 tw_5 tw_555 (n := 2) (by decide +kernel) rfl rfl (Nat.le_of_ble_eq_true rfl) dE_item_40 ⟨Nat.le_of_ble_eq_true rfl, Nat.le_of_ble_eq_true rfl⟩ ⟨Nat.zero_le _, Nat.zero_le _⟩) (fun r8 τ9 H locs hp hE _ _ => ?_)
        refine w_top hp.1 ?_
        have hE := wS_eq hp.2 hE
        exact x_reti C hE (⟨⟨c3, c4, c7⟩, rfl, rfl⟩) dE_item_43
      · exact w_throw C hE hA hx0 hX hAs hl0 hem hl.1 tw_516 tw_517 tw_16 (txt := "no such item") (List.mem_of_getElem? (i := 551) (by decide +kernel)) (by decide) Bundle.six_0 Bundle.six_1 Bundle.six_2 Bundle.six_5 xa_IOE (⟨fun q => c7 q.2.2, rfl⟩) ⟨by decide, by decide⟩ ⟨by decide, by decide⟩ dE_item_24 dE_item_27 dE_item_28 dE_item_30 dE_item_33
set_option maxHeartbeats 4000000 in
set_option maxRecDepth 100000 in
theorem c_E_steps (l : Launch) (D : va_G) (cs : Nat → ClassId) (ad : Nat → Nat) (σ : Mem) (P S n9 V9 T9 : Nat) (x z u : Int32) (hl0 : l.stackTraces = false) {a0 : Array Value} {s0 : State} (hx0 : x0 a0 s0) (hI : eI σ P S n9 V9 T9) : MetX l s0 (wE D cs ad) cs yE_steps bE_steps 4 (some .int) 6 82 [.ref (ad 0), .int x, .int z, .int u] σ (fun r τ => (isVn V9 x = true ∨ isTn T9 x = true) ∧ strC n9 z u = true ∧ r = symS σ n9 x z.toNatClampNeg u.toNatClampNeg ∧ τ = σ) (fun K => ¬ (isVn V9 x = true ∨ isTn T9 x = true) ∧ K = "java/lang/IllegalArgumentException" ∨ (isVn V9 x = true ∨ isTn T9 x = true) ∧ strC n9 z u = false ∧ K = "java/lang/IndexOutOfBoundsException") := by
  refine MetX.start (by decide) (Nat.le_of_ble_eq_true rfl) ?_
  intro p e s m below meth c A ls C hk hA hE hl hX hAs hem
  obtain ⟨hx, hb, hml, hown, hts, hr, hlocks⟩ := id C
  have hl : lv_has ls 4 [(0, .ref (ad 0)), (1, .int x), (2, .int z), (3, .int u)] := hl
  obtain ⟨ht, hPS, hSP, hV6, hV, hT6, hT⟩ := id hI
  have hP8 := ht.1.1
  have hS24 := ht.1.2.1
  have hn8 := ht.2.1
  refine lv_aload_n hx hb dE_steps_0 rfl (lv_at hl 0 rfl) ?_
  refine lv_iload_n hx hb dE_steps_1 rfl (lv_at hl 1 rfl) ?_
  refine w_ci hE hA (w_runV C hk hE hl.1 (As := [.int x]) (rest := []) (q := 0) (c_E_hasVariable l D cs ad σ V9 x hV hV6 _) (Nat.le_of_ble_eq_true rfl) (ci := 5) (N := 7) (T := F_E) rfl rfl tw_381 tw_383 ts_9 tw_1 tw_384 (n := 1) (by decide +kernel) rfl rfl (Nat.le_of_ble_eq_true rfl) dE_steps_2 ⟨Nat.le_of_ble_eq_true rfl, Nat.le_of_ble_eq_true rfl⟩ ⟨Nat.zero_le _, Nat.zero_le _⟩) (fun r1 τ2 H locs hp hE _ _ => ?_)
  refine w_top hp.1 ?_
  have hE := wS_eq hp.2 hE
  refine lv_if_ne (tgt := 26) hx hb dE_steps_5 (by decide) (fun c3 => ?_) (fun c3 => ?_)
  · have c3 := zb_ne0 c3
    refine lv_iload_n hx hb dE_steps_26 rfl (lv_at hl 2 rfl) ?_
    refine lv_if_lt (tgt := 46) hx hb dE_steps_27 (by decide) (fun c4 => ?_) (fun c4 => ?_)
    · exact w_throw C hE hA hx0 hX hAs hl0 hem hl.1 tw_516 tw_517 tw_16 (txt := "no stretch of the input") (List.mem_of_getElem? (i := 567) (by decide +kernel)) (by decide) Bundle.six_0 Bundle.six_1 Bundle.six_2 Bundle.six_5 xa_IOE (Or.inr ⟨Or.inl c3, by simp [strC, c4], rfl⟩) ⟨by decide, by decide⟩ ⟨by decide, by decide⟩ dE_steps_46 dE_steps_49 dE_steps_50 dE_steps_52 dE_steps_55
    · have c9a := c4
      refine lv_iload_n hx hb dE_steps_30 rfl (lv_at hl 2 rfl) ?_
      refine lv_iload_n hx hb dE_steps_31 rfl (lv_at hl 3 rfl) ?_
      refine lv_icmp_gt (tgt := 46) hx hb dE_steps_32 (by decide) (fun c5 => ?_) (fun c5 => ?_)
      · exact w_throw C hE hA hx0 hX hAs hl0 hem hl.1 tw_516 tw_517 tw_16 (txt := "no stretch of the input") (List.mem_of_getElem? (i := 567) (by decide +kernel)) (by decide) Bundle.six_0 Bundle.six_1 Bundle.six_2 Bundle.six_5 xa_IOE (Or.inr ⟨Or.inl c3, by simp [strC, c5], rfl⟩) ⟨by decide, by decide⟩ ⟨by decide, by decide⟩ dE_steps_46 dE_steps_49 dE_steps_50 dE_steps_52 dE_steps_55
      · have c9b := c5
        refine lv_iload_n hx hb dE_steps_35 rfl (lv_at hl 3 rfl) ?_
        refine lv_aload_n hx hb dE_steps_36 rfl (lv_at hl 0 rfl) ?_
        refine w_get C hk hE (K := R_E) (T := F_E) (N := 7) (ci := 5) in_E 0 (Nat.le_of_ble_eq_true rfl) rfl rfl 3 (by decide) tw_248 rfl rfl dE_steps_37 ?_
        refine w_get C hk hE (K := R_I) (T := F_I) (N := 2) (ci := 1) in_I 2 (Nat.le_of_ble_eq_true rfl) rfl rfl 1 (by decide) tw_72 rfl rfl dE_steps_40 ?_
        refine w_top (y := nI n9) (ht.2.2) ?_
        refine lv_icmp_le (tgt := 56) hx hb dE_steps_43 (by decide) (fun c6 => ?_) (fun c6 => ?_)
        · obtain ⟨hz1, hu1, hzu, hun⟩ := isKn_of2 hn8 c9a c9b c6
          refine lv_aload_n hx hb dE_steps_56 rfl (lv_at hl 0 rfl) ?_
          refine w_get C hk hE (K := R_E) (T := F_E) (N := 7) (ci := 5) in_E 0 (Nat.le_of_ble_eq_true rfl) rfl rfl 5 (by decide) tw_250 rfl rfl dE_steps_57 ?_
          refine lv_iload_n hx hb dE_steps_60 rfl (lv_at hl 1 rfl) ?_
          refine lv_iload_n hx hb dE_steps_61 rfl (lv_at hl 2 rfl) ?_
          refine w_top (y := nI z.toNatClampNeg) hz1 ?_
          refine lv_iload_n hx hb dE_steps_62 rfl (lv_at hl 3 rfl) ?_
          refine w_top (y := nI u.toNatClampNeg) hu1 ?_
          refine w_ci hE hA (w_runV C hk hE hl.1 (As := [.int x, .int (nI z.toNatClampNeg), .int (nI u.toNatClampNeg)]) (rest := []) (q := 4) (c_T_ofSymbol l D cs ad σ P S n9 x z.toNatClampNeg u.toNatClampNeg ht (by omega) (by omega) _) (Nat.le_of_ble_eq_true rfl) (ci := 3) (N := 4) (T := F_T) rfl rfl tw_568 tw_225 tw_226 tw_4 tw_227 (n := 3) (by decide +kernel) rfl rfl (Nat.le_of_ble_eq_true rfl) dE_steps_63 ⟨Nat.le_of_ble_eq_true rfl, Nat.le_of_ble_eq_true rfl⟩ ⟨Nat.zero_le _, Nat.zero_le _⟩) (fun r7 τ8 H locs hp hE _ _ => ?_)
          refine w_top hp.1 ?_
          have hE := wS_eq hp.2 hE
          exact x_reti C hE (⟨Or.inl c3, by simp [strC, c4, c5, Int32.not_lt.mpr c6], rfl, rfl⟩) dE_steps_66
        · exact w_throw C hE hA hx0 hX hAs hl0 hem hl.1 tw_516 tw_517 tw_16 (txt := "no stretch of the input") (List.mem_of_getElem? (i := 567) (by decide +kernel)) (by decide) Bundle.six_0 Bundle.six_1 Bundle.six_2 Bundle.six_5 xa_IOE (Or.inr ⟨Or.inl c3, by simp [strC, Int32.not_le.mp c6], rfl⟩) ⟨by decide, by decide⟩ ⟨by decide, by decide⟩ dE_steps_46 dE_steps_49 dE_steps_50 dE_steps_52 dE_steps_55
  · have c3 := zb_eq0 c3
    refine lv_aload_n hx hb dE_steps_8 rfl (lv_at hl 0 rfl) ?_
    refine lv_iload_n hx hb dE_steps_9 rfl (lv_at hl 1 rfl) ?_
    refine w_ci hE hA (w_runV C hk hE hl.1 (As := [.int x]) (rest := []) (q := 0) (c_E_hasToken l D cs ad σ T9 x hT hT6 _) (Nat.le_of_ble_eq_true rfl) (ci := 5) (N := 7) (T := F_E) rfl rfl tw_425 tw_427 ts_11 tw_1 tw_428 (n := 1) (by decide +kernel) rfl rfl (Nat.le_of_ble_eq_true rfl) dE_steps_10 ⟨Nat.le_of_ble_eq_true rfl, Nat.le_of_ble_eq_true rfl⟩ ⟨Nat.zero_le _, Nat.zero_le _⟩) (fun r9 τ10 H locs hp hE _ _ => ?_)
    refine w_top hp.1 ?_
    have hE := wS_eq hp.2 hE
    refine lv_if_ne (tgt := 26) hx hb dE_steps_13 (by decide) (fun c11 => ?_) (fun c11 => ?_)
    · have c11 := zb_ne0 c11
      refine lv_iload_n hx hb dE_steps_26 rfl (lv_at hl 2 rfl) ?_
      refine lv_if_lt (tgt := 46) hx hb dE_steps_27 (by decide) (fun c12 => ?_) (fun c12 => ?_)
      · exact w_throw C hE hA hx0 hX hAs hl0 hem hl.1 tw_516 tw_517 tw_16 (txt := "no stretch of the input") (List.mem_of_getElem? (i := 567) (by decide +kernel)) (by decide) Bundle.six_0 Bundle.six_1 Bundle.six_2 Bundle.six_5 xa_IOE (Or.inr ⟨Or.inr c11, by simp [strC, c12], rfl⟩) ⟨by decide, by decide⟩ ⟨by decide, by decide⟩ dE_steps_46 dE_steps_49 dE_steps_50 dE_steps_52 dE_steps_55
      · have c9a := c12
        refine lv_iload_n hx hb dE_steps_30 rfl (lv_at hl 2 rfl) ?_
        refine lv_iload_n hx hb dE_steps_31 rfl (lv_at hl 3 rfl) ?_
        refine lv_icmp_gt (tgt := 46) hx hb dE_steps_32 (by decide) (fun c13 => ?_) (fun c13 => ?_)
        · exact w_throw C hE hA hx0 hX hAs hl0 hem hl.1 tw_516 tw_517 tw_16 (txt := "no stretch of the input") (List.mem_of_getElem? (i := 567) (by decide +kernel)) (by decide) Bundle.six_0 Bundle.six_1 Bundle.six_2 Bundle.six_5 xa_IOE (Or.inr ⟨Or.inr c11, by simp [strC, c13], rfl⟩) ⟨by decide, by decide⟩ ⟨by decide, by decide⟩ dE_steps_46 dE_steps_49 dE_steps_50 dE_steps_52 dE_steps_55
        · have c9b := c13
          refine lv_iload_n hx hb dE_steps_35 rfl (lv_at hl 3 rfl) ?_
          refine lv_aload_n hx hb dE_steps_36 rfl (lv_at hl 0 rfl) ?_
          refine w_get C hk hE (K := R_E) (T := F_E) (N := 7) (ci := 5) in_E 0 (Nat.le_of_ble_eq_true rfl) rfl rfl 3 (by decide) tw_248 rfl rfl dE_steps_37 ?_
          refine w_get C hk hE (K := R_I) (T := F_I) (N := 2) (ci := 1) in_I 2 (Nat.le_of_ble_eq_true rfl) rfl rfl 1 (by decide) tw_72 rfl rfl dE_steps_40 ?_
          refine w_top (y := nI n9) (ht.2.2) ?_
          refine lv_icmp_le (tgt := 56) hx hb dE_steps_43 (by decide) (fun c14 => ?_) (fun c14 => ?_)
          · obtain ⟨hz1, hu1, hzu, hun⟩ := isKn_of2 hn8 c9a c9b c14
            refine lv_aload_n hx hb dE_steps_56 rfl (lv_at hl 0 rfl) ?_
            refine w_get C hk hE (K := R_E) (T := F_E) (N := 7) (ci := 5) in_E 0 (Nat.le_of_ble_eq_true rfl) rfl rfl 5 (by decide) tw_250 rfl rfl dE_steps_57 ?_
            refine lv_iload_n hx hb dE_steps_60 rfl (lv_at hl 1 rfl) ?_
            refine lv_iload_n hx hb dE_steps_61 rfl (lv_at hl 2 rfl) ?_
            refine w_top (y := nI z.toNatClampNeg) hz1 ?_
            refine lv_iload_n hx hb dE_steps_62 rfl (lv_at hl 3 rfl) ?_
            refine w_top (y := nI u.toNatClampNeg) hu1 ?_
            refine w_ci hE hA (w_runV C hk hE hl.1 (As := [.int x, .int (nI z.toNatClampNeg), .int (nI u.toNatClampNeg)]) (rest := []) (q := 4) (c_T_ofSymbol l D cs ad σ P S n9 x z.toNatClampNeg u.toNatClampNeg ht (by omega) (by omega) _) (Nat.le_of_ble_eq_true rfl) (ci := 3) (N := 4) (T := F_T) rfl rfl tw_568 tw_225 tw_226 tw_4 tw_227 (n := 3) (by decide +kernel) rfl rfl (Nat.le_of_ble_eq_true rfl) dE_steps_63 ⟨Nat.le_of_ble_eq_true rfl, Nat.le_of_ble_eq_true rfl⟩ ⟨Nat.zero_le _, Nat.zero_le _⟩) (fun r15 τ16 H locs hp hE _ _ => ?_)
            refine w_top hp.1 ?_
            have hE := wS_eq hp.2 hE
            exact x_reti C hE (⟨Or.inr c11, by simp [strC, c12, c13, Int32.not_lt.mpr c14], rfl, rfl⟩) dE_steps_66
          · exact w_throw C hE hA hx0 hX hAs hl0 hem hl.1 tw_516 tw_517 tw_16 (txt := "no stretch of the input") (List.mem_of_getElem? (i := 567) (by decide +kernel)) (by decide) Bundle.six_0 Bundle.six_1 Bundle.six_2 Bundle.six_5 xa_IOE (Or.inr ⟨Or.inr c11, by simp [strC, Int32.not_le.mp c14], rfl⟩) ⟨by decide, by decide⟩ ⟨by decide, by decide⟩ dE_steps_46 dE_steps_49 dE_steps_50 dE_steps_52 dE_steps_55
    · have c11 := zb_eq0 c11
      exact w_throw C hE hA hx0 hX hAs hl0 hem hl.1 tw_385 tw_386 tw_14 (txt := "no such symbol") (List.mem_of_getElem? (i := 429) (by decide +kernel)) (by decide) Bundle.six_0 Bundle.six_1 Bundle.six_2 Bundle.six_5 xa_IAE (Or.inl ⟨fun q => q.elim (fun q => by rw [c3] at q; cases q) (fun q => by rw [c11] at q; cases q), rfl⟩) ⟨by decide, by decide⟩ ⟨by decide, by decide⟩ dE_steps_16 dE_steps_19 dE_steps_20 dE_steps_22 dE_steps_25
set_option maxHeartbeats 4000000 in
set_option maxRecDepth 100000 in
theorem c_E_nullable (l : Launch) (D : va_G) (cs : Nat → ClassId) (ad : Nat → Nat) (σ : Mem) (P S n9 V9 T9 : Nat) (x : Int32) (hl0 : l.stackTraces = false) {a0 : Array Value} {s0 : State} (hx0 : x0 a0 s0) (hI : eI σ P S n9 V9 T9) : MetX l s0 (wE D cs ad) cs yE_nullable bE_nullable 2 (some .boolean) 6 82 [.ref (ad 0), .int x] σ (fun r τ => isVn V9 x = true ∧ r = zb (!decide (symS σ n9 x 0 0 = -1)) ∧ τ = σ) (fun K => isVn V9 x = false ∧ K = "java/lang/IllegalArgumentException") := by
  refine MetX.start (by decide) (Nat.le_of_ble_eq_true rfl) ?_
  intro p e s m below meth c A ls C hk hA hE hl hX hAs hem
  obtain ⟨hx, hb, hml, hown, hts, hr, hlocks⟩ := id C
  have hl : lv_has ls 2 [(0, .ref (ad 0)), (1, .int x)] := hl
  obtain ⟨ht, hPS, hSP, hV6, hV, hT6, hT⟩ := id hI
  have hP8 := ht.1.1
  have hS24 := ht.1.2.1
  have hn8 := ht.2.1
  refine lv_aload_n hx hb dE_nullable_0 rfl (lv_at hl 0 rfl) ?_
  refine lv_iload_n hx hb dE_nullable_1 rfl (lv_at hl 1 rfl) ?_
  refine w_ci hE hA (w_runV C hk hE hl.1 (As := [.int x]) (rest := []) (q := 0) (c_E_hasVariable l D cs ad σ V9 x hV hV6 _) (Nat.le_of_ble_eq_true rfl) (ci := 5) (N := 7) (T := F_E) rfl rfl tw_381 tw_383 ts_9 tw_1 tw_384 (n := 1) (by decide +kernel) rfl rfl (Nat.le_of_ble_eq_true rfl) dE_nullable_2 ⟨Nat.le_of_ble_eq_true rfl, Nat.le_of_ble_eq_true rfl⟩ ⟨Nat.zero_le _, Nat.zero_le _⟩) (fun r1 τ2 H locs hp hE _ _ => ?_)
  refine w_top hp.1 ?_
  have hE := wS_eq hp.2 hE
  refine lv_if_ne (tgt := 18) hx hb dE_nullable_5 (by decide) (fun c3 => ?_) (fun c3 => ?_)
  · have c3 := zb_ne0 c3
    refine lv_aload_n hx hb dE_nullable_18 rfl (lv_at hl 0 rfl) ?_
    refine w_get C hk hE (K := R_E) (T := F_E) (N := 7) (ci := 5) in_E 0 (Nat.le_of_ble_eq_true rfl) rfl rfl 5 (by decide) tw_250 rfl rfl dE_nullable_19 ?_
    refine lv_iload_n hx hb dE_nullable_22 rfl (lv_at hl 1 rfl) ?_
    refine lv_iconst (v := nI 0) hx hb dE_nullable_23 (by decide) ?_
    refine lv_iconst (v := nI 0) hx hb dE_nullable_24 (by decide) ?_
    refine w_ci hE hA (w_runV C hk hE hl.1 (As := [.int x, .int (nI 0), .int (nI 0)]) (rest := []) (q := 4) (c_T_ofSymbol l D cs ad σ P S n9 x 0 0 ht (by decide) (by decide) _) (Nat.le_of_ble_eq_true rfl) (ci := 3) (N := 4) (T := F_T) rfl rfl tw_568 tw_225 tw_226 tw_4 tw_227 (n := 3) (by decide +kernel) rfl rfl (Nat.le_of_ble_eq_true rfl) dE_nullable_25 ⟨Nat.le_of_ble_eq_true rfl, Nat.le_of_ble_eq_true rfl⟩ ⟨Nat.zero_le _, Nat.zero_le _⟩) (fun r4 τ5 H locs hp hE _ _ => ?_)
    refine w_top hp.1 ?_
    have hE := wS_eq hp.2 hE
    refine lv_iconst (v := (-1)) hx hb dE_nullable_28 (by decide) ?_
    refine lv_icmp_eq (tgt := 36) hx hb dE_nullable_29 (by decide) (fun c6 => ?_) (fun c6 => ?_)
    · refine lv_iconst (v := nI 0) hx hb dE_nullable_36 (by decide) ?_
      exact x_retz C hE (Or.inl rfl) (⟨c3, by simp [zb, c6], rfl⟩) dE_nullable_37
    · refine lv_iconst (v := nI 1) hx hb dE_nullable_32 (by decide) ?_
      refine lv_goto (tgt := 37) hx hb dE_nullable_33 (by decide) ?_
      exact x_retz C hE (Or.inr rfl) (⟨c3, by simp [zb, c6], rfl⟩) dE_nullable_37
  · have c3 := zb_eq0 c3
    exact w_throw C hE hA hx0 hX hAs hl0 hem hl.1 tw_385 tw_386 tw_14 (txt := "no such variable") (List.mem_of_getElem? (i := 394) (by decide +kernel)) (by decide) Bundle.six_0 Bundle.six_1 Bundle.six_2 Bundle.six_5 xa_IAE (⟨c3, rfl⟩) ⟨by decide, by decide⟩ ⟨by decide, by decide⟩ dE_nullable_8 dE_nullable_11 dE_nullable_12 dE_nullable_14 dE_nullable_17
