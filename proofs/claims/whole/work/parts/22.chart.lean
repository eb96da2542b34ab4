set_option maxHeartbeats 4000000 in
set_option maxRecDepth 100000 in
theorem c_E_grammarChanged (l : Launch) (D : va_G) (cs : Nat → ClassId) (ad : Nat → Nat) (σ : Mem) (P S n9 : Nat) (ht : tS σ P S n9) : MetV l (wE D cs ad) cs yE_grammarChanged bE_grammarChanged 1 6 148 [.ref (ad 0)] σ (fun τ => τ = gcM P S n9 σ) := by
  refine MetV.start (by decide) (Nat.le_of_ble_eq_true rfl) ?_
  intro p e s m below meth c A ls C hk hA hE hl
  obtain ⟨hx, hb, hml, hown, hts, hr, hlocks⟩ := id C
  have hl : lv_has ls 1 [(0, .ref (ad 0))] := hl
  refine lv_aload_n hx hb dE_grammarChanged_0 rfl (lv_at hl 0 rfl) ?_
  refine w_get C hk hE (K := R_E) (T := F_E) (N := 7) (ci := 5) in_E 0 (Nat.le_of_ble_eq_true rfl) rfl rfl 6 (by decide) tw_251 rfl rfl dE_grammarChanged_1 ?_
  refine w_cv hE hA (w_runV C hk hE hl.1 (As := []) (rest := []) (q := 5) (c_W_forget l D cs ad σ _) (Nat.le_of_ble_eq_true rfl) (ci := 4) (N := 8) (T := F_W) rfl rfl tw_153 tw_154 tw_155 tw_6 tw_156 (n := 0) (by decide +kernel) rfl rfl (Nat.le_of_ble_eq_true rfl) dE_grammarChanged_4 ⟨Nat.le_of_ble_eq_true rfl, Nat.le_of_ble_eq_true rfl⟩ ⟨Nat.zero_le _, Nat.zero_le _⟩) (fun τ2 H locs hp hE _ _ => ?_)
  have hE := wS_eq hp hE
  refine lv_aload_n hx hb dE_grammarChanged_7 rfl (lv_at hl 0 rfl) ?_
  refine w_get C hk hE (K := R_E) (T := F_E) (N := 7) (ci := 5) in_E 0 (Nat.le_of_ble_eq_true rfl) rfl rfl 4 (by decide) tw_249 rfl rfl dE_grammarChanged_8 ?_
  refine w_cv hE hA (w_runV C hk hE hl.1 (As := []) (rest := []) (q := 3) (c_S_makeFirst l D cs ad (mset σ 5 3 (nI 0)) P S (tS_set ht (fun q _ h5 => mset_n h5)).1 _) (Nat.le_of_ble_eq_true rfl) (ci := 2) (N := 3) (T := F_S) rfl rfl tw_157 tw_158 tw_159 tw_5 tw_160 (n := 0) (by decide +kernel) rfl rfl (Nat.le_of_ble_eq_true rfl) dE_grammarChanged_11 ⟨Nat.le_of_ble_eq_true rfl, Nat.le_of_ble_eq_true rfl⟩ ⟨Nat.zero_le _, Nat.zero_le _⟩) (fun τ4 H locs hp hE _ _ => ?_)
  have hE : wS (wE D cs ad) A s.heap (mfM P S (mset σ 5 3 (nI 0))) H locs := wS_eq hp hE
  refine lv_aload_n hx hb dE_grammarChanged_14 rfl (lv_at hl 0 rfl) ?_
  refine w_get C hk hE (K := R_E) (T := F_E) (N := 7) (ci := 5) in_E 0 (Nat.le_of_ble_eq_true rfl) rfl rfl 5 (by decide) tw_250 rfl rfl dE_grammarChanged_15 ?_
  refine lv_iconst (v := nI 0) hx hb dE_grammarChanged_18 (by decide) ?_
  refine lv_iconst (v := nI 0) hx hb dE_grammarChanged_19 (by decide) ?_
  refine w_cv hE hA (w_runV C hk hE hl.1 (As := [.int (nI 0), .int (nI 0)]) (rest := []) (q := 4) (c_T_fillStretch l D cs ad (mfM P S (mset σ 5 3 (nI 0))) P S n9 0 0 (tS_set ht (fun q h10 h5 => by rw [mfM_n (by omega) (by omega), mset_n h5])) (by decide) (by decide) _) (Nat.le_of_ble_eq_true rfl) (ci := 3) (N := 4) (T := F_T) rfl rfl tw_205 tw_206 tw_207 tw_4 tw_208 (n := 2) (by decide +kernel) rfl rfl (Nat.le_of_ble_eq_true rfl) dE_grammarChanged_20 ⟨Nat.le_of_ble_eq_true rfl, Nat.le_of_ble_eq_true rfl⟩ ⟨Nat.zero_le _, Nat.zero_le _⟩) (fun τ6 H locs hp hE _ _ => ?_)
  have hE := wS_eq hp hE
  exact w_retv C hE (rfl) dE_grammarChanged_23
set_option maxHeartbeats 4000000 in
set_option maxRecDepth 100000 in
theorem c_E_alive (l : Launch) (D : va_G) (cs : Nat → ClassId) (ad : Nat → Nat) (σ : Mem) (P S n9 : Nat) (ht : tS σ P S n9) : MetI l (wE D cs ad) cs yE_alive bE_alive 1 (some .boolean) 2 43 [.ref (ad 0)] σ (fun r τ => r = zb (!decide (sizF (σ (n9 + 19)) S ≤ 0)) ∧ τ = σ) := by
  refine MetI.start (by decide) (Nat.le_of_ble_eq_true rfl) ?_
  intro p e s m below meth c A ls C hk hA hE hl
  obtain ⟨hx, hb, hml, hown, hts, hr, hlocks⟩ := id C
  have hl : lv_has ls 1 [(0, .ref (ad 0))] := hl
  have hn9 := ht.2.1
  refine lv_aload_n hx hb dE_alive_0 rfl (lv_at hl 0 rfl) ?_
  refine w_get C hk hE (K := R_E) (T := F_E) (N := 7) (ci := 5) in_E 0 (Nat.le_of_ble_eq_true rfl) rfl rfl 4 (by decide) tw_249 rfl rfl dE_alive_1 ?_
  refine lv_aload_n hx hb dE_alive_4 rfl (lv_at hl 0 rfl) ?_
  refine w_get C hk hE (K := R_E) (T := F_E) (N := 7) (ci := 5) in_E 0 (Nat.le_of_ble_eq_true rfl) rfl rfl 3 (by decide) tw_248 rfl rfl dE_alive_5 ?_
  refine w_get C hk hE (K := R_I) (T := F_I) (N := 2) (ci := 1) in_I 2 (Nat.le_of_ble_eq_true rfl) rfl rfl 1 (by decide) tw_72 rfl rfl dE_alive_8 ?_
  refine w_top (y := nI n9) (ht.2.2) ?_
  refine w_ci hE hA (w_runV C hk hE hl.1 (As := [.int (nI n9)]) (rest := []) (q := 3) (c_S_size l D cs ad σ n9 S (by omega) ht.1.2.2.2.1 ht.1.2.1 _) (Nat.le_of_ble_eq_true rfl) (ci := 2) (N := 3) (T := F_S) rfl rfl tw_271 tw_177 tw_178 tw_5 tw_179 (n := 1) (by decide +kernel) rfl rfl (Nat.le_of_ble_eq_true rfl) dE_alive_11 ⟨Nat.le_of_ble_eq_true rfl, Nat.le_of_ble_eq_true rfl⟩ ⟨Nat.zero_le _, Nat.zero_le _⟩) (fun r1 τ2 H locs hp hE _ _ => ?_)
  refine w_top hp.1 ?_
  have hE := wS_eq hp.2 hE
  refine lv_if_le (tgt := 21) hx hb dE_alive_14 (by decide) (fun c3 => ?_) (fun c3 => ?_)
  · refine lv_iconst (v := nI 0) hx hb dE_alive_21 (by decide) ?_
    exact w_retz C hE (Or.inl rfl) (⟨by simp [zb, c3], rfl⟩) dE_alive_22
  · refine lv_iconst (v := nI 1) hx hb dE_alive_17 (by decide) ?_
    refine lv_goto (tgt := 22) hx hb dE_alive_18 (by decide) ?_
    exact w_retz C hE (Or.inr rfl) (⟨by simp [zb, c3], rfl⟩) dE_alive_22
set_option maxHeartbeats 4000000 in
set_option maxRecDepth 100000 in
theorem c_E_accepts (l : Launch) (D : va_G) (cs : Nat → ClassId) (ad : Nat → Nat) (σ : Mem) (P S n9 : Nat) (ht : tS σ P S n9) : MetI l (wE D cs ad) cs yE_accepts bE_accepts 1 (some .boolean) 2 43 [.ref (ad 0)] σ (fun r τ => r = zb (holdF σ (σ (n9 + 19)) S) ∧ τ = σ) := by
  refine MetI.start (by decide) (Nat.le_of_ble_eq_true rfl) ?_
  intro p e s m below meth c A ls C hk hA hE hl
  obtain ⟨hx, hb, hml, hown, hts, hr, hlocks⟩ := id C
  have hl : lv_has ls 1 [(0, .ref (ad 0))] := hl
  have hn9 := ht.2.1
  refine lv_aload_n hx hb dE_accepts_0 rfl (lv_at hl 0 rfl) ?_
  refine w_get C hk hE (K := R_E) (T := F_E) (N := 7) (ci := 5) in_E 0 (Nat.le_of_ble_eq_true rfl) rfl rfl 4 (by decide) tw_249 rfl rfl dE_accepts_1 ?_
  refine lv_aload_n hx hb dE_accepts_4 rfl (lv_at hl 0 rfl) ?_
  refine w_get C hk hE (K := R_E) (T := F_E) (N := 7) (ci := 5) in_E 0 (Nat.le_of_ble_eq_true rfl) rfl rfl 3 (by decide) tw_248 rfl rfl dE_accepts_5 ?_
  refine w_get C hk hE (K := R_I) (T := F_I) (N := 2) (ci := 1) in_I 2 (Nat.le_of_ble_eq_true rfl) rfl rfl 1 (by decide) tw_72 rfl rfl dE_accepts_8 ?_
  refine w_top (y := nI n9) (ht.2.2) ?_
  refine w_ci hE hA (w_runV C hk hE hl.1 (As := [.int (nI n9)]) (rest := []) (q := 3) (c_S_holdWholeStart l D cs ad σ n9 P S (by omega) ht.1 _) (Nat.le_of_ble_eq_true rfl) (ci := 2) (N := 3) (T := F_S) rfl rfl tw_276 tw_277 tw_278 tw_5 tw_279 (n := 1) (by decide +kernel) rfl rfl (Nat.le_of_ble_eq_true rfl) dE_accepts_11 ⟨Nat.le_of_ble_eq_true rfl, Nat.le_of_ble_eq_true rfl⟩ ⟨Nat.zero_le _, Nat.zero_le _⟩) (fun r1 τ2 H locs hp hE _ _ => ?_)
  refine w_top hp.1 ?_
  have hE := wS_eq hp.2 hE
  exact w_retz C hE (zb_01 _) (⟨rfl, rfl⟩) dE_accepts_14
set_option maxHeartbeats 4000000 in
set_option maxRecDepth 100000 in
theorem c_E_witCount (l : Launch) (D : va_G) (cs : Nat → ClassId) (ad : Nat → Nat) (σ : Mem)  : MetI l (wE D cs ad) cs yE_witCount bE_witCount 1 (some .int) 0 0 [.ref (ad 0)] σ (fun r τ => r = σ 5 3 ∧ τ = σ) := by
  refine MetI.start (by decide) (Nat.le_of_ble_eq_true rfl) ?_
  intro p e s m below meth c A ls C hk hA hE hl
  obtain ⟨hx, hb, hml, hown, hts, hr, hlocks⟩ := id C
  have hl : lv_has ls 1 [(0, .ref (ad 0))] := hl
  refine lv_aload_n hx hb dE_witCount_0 rfl (lv_at hl 0 rfl) ?_
  refine w_get C hk hE (K := R_E) (T := F_E) (N := 7) (ci := 5) in_E 0 (Nat.le_of_ble_eq_true rfl) rfl rfl 6 (by decide) tw_251 rfl rfl dE_witCount_1 ?_
  refine w_get C hk hE (K := R_W) (T := F_W) (N := 8) (ci := 4) in_W 5 (Nat.le_of_ble_eq_true rfl) rfl rfl 3 (by decide) tw_127 rfl rfl dE_witCount_4 ?_
  exact w_reti C hE (⟨rfl, rfl⟩) dE_witCount_7
set_option maxHeartbeats 4000000 in
set_option maxRecDepth 100000 in
theorem c_E_fed (l : Launch) (D : va_G) (cs : Nat → ClassId) (ad : Nat → Nat) (σ : Mem)  : MetI l (wE D cs ad) cs yE_fed bE_fed 1 (some .int) 0 0 [.ref (ad 0)] σ (fun r τ => r = σ 2 1 ∧ τ = σ) := by
  refine MetI.start (by decide) (Nat.le_of_ble_eq_true rfl) ?_
  intro p e s m below meth c A ls C hk hA hE hl
  obtain ⟨hx, hb, hml, hown, hts, hr, hlocks⟩ := id C
  have hl : lv_has ls 1 [(0, .ref (ad 0))] := hl
  refine lv_aload_n hx hb dE_fed_0 rfl (lv_at hl 0 rfl) ?_
  refine w_get C hk hE (K := R_E) (T := F_E) (N := 7) (ci := 5) in_E 0 (Nat.le_of_ble_eq_true rfl) rfl rfl 3 (by decide) tw_248 rfl rfl dE_fed_1 ?_
  refine w_get C hk hE (K := R_I) (T := F_I) (N := 2) (ci := 1) in_I 2 (Nat.le_of_ble_eq_true rfl) rfl rfl 1 (by decide) tw_72 rfl rfl dE_fed_4 ?_
  exact w_reti C hE (⟨rfl, rfl⟩) dE_fed_7
set_option maxHeartbeats 4000000 in
set_option maxRecDepth 100000 in
theorem c_E_clear (l : Launch) (D : va_G) (cs : Nat → ClassId) (ad : Nat → Nat) (σ : Mem)  : MetI l (wE D cs ad) cs yE_clear bE_clear 2 (some .int) 1 20 [.ref (ad 0)] σ (fun r τ => r = σ 2 1 ∧ τ = mset (mset σ 2 1 (nI 0)) 5 3 (nI 0)) := by
  refine MetI.start (by decide) (Nat.le_of_ble_eq_true rfl) ?_
  intro p e s m below meth c A ls C hk hA hE hl
  obtain ⟨hx, hb, hml, hown, hts, hr, hlocks⟩ := id C
  have hl : lv_has ls 2 [(0, .ref (ad 0))] := hl
  refine lv_aload_n hx hb dE_clear_0 rfl (lv_at hl 0 rfl) ?_
  refine w_get C hk hE (K := R_E) (T := F_E) (N := 7) (ci := 5) in_E 0 (Nat.le_of_ble_eq_true rfl) rfl rfl 3 (by decide) tw_248 rfl rfl dE_clear_1 ?_
  refine w_get C hk hE (K := R_I) (T := F_I) (N := 2) (ci := 1) in_I 2 (Nat.le_of_ble_eq_true rfl) rfl rfl 1 (by decide) tw_72 rfl rfl dE_clear_4 ?_
  refine lv_istore_n (lv' := [(1, .int (σ 2 1)), (0, .ref (ad 0))]) hx hb dE_clear_7 rfl hl (by decide) rfl (fun ls hl => ?_)
  refine lv_aload_n hx hb dE_clear_8 rfl (lv_at hl 1 rfl) ?_
  refine w_get C hk hE (K := R_E) (T := F_E) (N := 7) (ci := 5) in_E 0 (Nat.le_of_ble_eq_true rfl) rfl rfl 3 (by decide) tw_248 rfl rfl dE_clear_9 ?_
  refine lv_iconst (v := nI 0) hx hb dE_clear_12 (by decide) ?_
  refine w_put C hk hE (K := R_I) (T := F_I) (N := 2) (ci := 1) in_I ft_I_ok fn_I 2 (Nat.le_of_ble_eq_true rfl) rfl rfl 1 (by decide) tw_72 rfl rfl (rfl) (rfl) (Nat.le_of_ble_eq_true rfl) rfl dE_clear_13 (fun H locs hE => ?_)
  refine lv_aload_n hx hb dE_clear_16 rfl (lv_at hl 1 rfl) ?_
  refine w_get C hk hE (K := R_E) (T := F_E) (N := 7) (ci := 5) in_E 0 (Nat.le_of_ble_eq_true rfl) rfl rfl 6 (by decide) tw_251 rfl rfl dE_clear_17 ?_
  refine w_cv hE hA (w_runV C hk hE hl.1 (As := []) (rest := []) (q := 5) (c_W_forget l D cs ad (mset σ 2 1 (nI 0)) _) (Nat.le_of_ble_eq_true rfl) (ci := 4) (N := 8) (T := F_W) rfl rfl tw_153 tw_154 tw_155 tw_6 tw_156 (n := 0) (by decide +kernel) rfl rfl (Nat.le_of_ble_eq_true rfl) dE_clear_20 ⟨Nat.le_of_ble_eq_true rfl, Nat.le_of_ble_eq_true rfl⟩ ⟨Nat.zero_le _, Nat.zero_le _⟩) (fun τ2 H locs hp hE _ _ => ?_)
  have hE := wS_eq hp hE
  refine lv_iload_n hx hb dE_clear_23 rfl (lv_at hl 0 rfl) ?_
  exact w_reti C hE (⟨rfl, rfl⟩) dE_clear_24
set_option maxHeartbeats 4000000 in
set_option maxRecDepth 100000 in
theorem c_E_erase (l : Launch) (D : va_G) (cs : Nat → ClassId) (ad : Nat → Nat) (σ : Mem)  : MetI l (wE D cs ad) cs yE_erase bE_erase 2 (some .int) 7 168 [.ref (ad 0)] σ (fun r τ => r = σ 1 4 ∧ τ = gcM 0 0 0 (mset (mset (mset σ 2 1 (nI 0)) 1 4 (nI 0)) 1 5 (nI 0))) := by
  refine MetI.start (by decide) (Nat.le_of_ble_eq_true rfl) ?_
  intro p e s m below meth c A ls C hk hA hE hl
  obtain ⟨hx, hb, hml, hown, hts, hr, hlocks⟩ := id C
  have hl : lv_has ls 2 [(0, .ref (ad 0))] := hl
  refine lv_aload_n hx hb dE_erase_0 rfl (lv_at hl 0 rfl) ?_
  refine w_get C hk hE (K := R_E) (T := F_E) (N := 7) (ci := 5) in_E 0 (Nat.le_of_ble_eq_true rfl) rfl rfl 2 (by decide) tw_247 rfl rfl dE_erase_1 ?_
  refine w_get C hk hE (K := R_G) (T := F_G) (N := 6) (ci := 0) in_G 1 (Nat.le_of_ble_eq_true rfl) rfl rfl 4 (by decide) tw_45 rfl rfl dE_erase_4 ?_
  refine lv_istore_n (lv' := [(1, .int (σ 1 4)), (0, .ref (ad 0))]) hx hb dE_erase_7 rfl hl (by decide) rfl (fun ls hl => ?_)
  refine lv_aload_n hx hb dE_erase_8 rfl (lv_at hl 1 rfl) ?_
  refine w_get C hk hE (K := R_E) (T := F_E) (N := 7) (ci := 5) in_E 0 (Nat.le_of_ble_eq_true rfl) rfl rfl 3 (by decide) tw_248 rfl rfl dE_erase_9 ?_
  refine lv_iconst (v := nI 0) hx hb dE_erase_12 (by decide) ?_
  refine w_put C hk hE (K := R_I) (T := F_I) (N := 2) (ci := 1) in_I ft_I_ok fn_I 2 (Nat.le_of_ble_eq_true rfl) rfl rfl 1 (by decide) tw_72 rfl rfl (rfl) (rfl) (Nat.le_of_ble_eq_true rfl) rfl dE_erase_13 (fun H locs hE => ?_)
  refine lv_aload_n hx hb dE_erase_16 rfl (lv_at hl 1 rfl) ?_
  refine w_get C hk hE (K := R_E) (T := F_E) (N := 7) (ci := 5) in_E 0 (Nat.le_of_ble_eq_true rfl) rfl rfl 2 (by decide) tw_247 rfl rfl dE_erase_17 ?_
  refine w_cv hE hA (w_runV C hk hE hl.1 (As := []) (rest := []) (q := 1) (c_G_forget l D cs ad (mset σ 2 1 (nI 0)) _) (Nat.le_of_ble_eq_true rfl) (ci := 0) (N := 6) (T := F_G) rfl rfl tw_292 tw_293 tw_294 tw_2 tw_295 (n := 0) (by decide +kernel) rfl rfl (Nat.le_of_ble_eq_true rfl) dE_erase_20 ⟨Nat.le_of_ble_eq_true rfl, Nat.le_of_ble_eq_true rfl⟩ ⟨Nat.zero_le _, Nat.zero_le _⟩) (fun τ2 H locs hp hE _ _ => ?_)
  have hE := wS_eq hp hE
  refine lv_aload_n hx hb dE_erase_23 rfl (lv_at hl 1 rfl) ?_
  refine w_cv hE hA (w_runV C hk hE hl.1 (As := []) (rest := []) (q := 0) (c_E_grammarChanged l D cs ad (mset (mset (mset σ 2 1 (nI 0)) 1 4 (nI 0)) 1 5 (nI 0)) 0 0 0 ⟨⟨by decide, by decide, by rw [mset_i (by decide), mset_s], mset_s, fun _ h => absurd h (Nat.not_lt_zero _), fun _ h => absurd h (Nat.not_lt_zero _), fun _ h => absurd h (Nat.not_lt_zero _)⟩, by decide, by rw [mset_n (by decide), mset_n (by decide), mset_s]⟩ _) (Nat.le_of_ble_eq_true rfl) (ci := 5) (N := 7) (T := F_E) rfl rfl tw_149 tw_151 ts_0 tw_1 tw_152 (n := 0) (by decide +kernel) rfl rfl (Nat.le_of_ble_eq_true rfl) dE_erase_24 ⟨Nat.le_of_ble_eq_true rfl, Nat.le_of_ble_eq_true rfl⟩ ⟨Nat.zero_le _, Nat.zero_le _⟩) (fun τ4 H locs hp hE _ _ => ?_)
  have hE := wS_eq hp hE
  refine lv_iload_n hx hb dE_erase_27 rfl (lv_at hl 0 rfl) ?_
  exact w_reti C hE (⟨rfl, rfl⟩) dE_erase_28
set_option maxHeartbeats 4000000 in
set_option maxRecDepth 100000 in
theorem c_E_hasVariable (l : Launch) (D : va_G) (cs : Nat → ClassId) (ad : Nat → Nat) (σ : Mem) (V9 : Nat) (x : Int32) (hV : σ 0 0 = nI V9) (hV6 : V9 ≤ 6) : MetI l (wE D cs ad) cs yE_hasVariable bE_hasVariable 2 (some .boolean) 0 0 [.ref (ad 0), .int x] σ (fun r τ => r = zb (isVn V9 x) ∧ τ = σ) := by
  refine MetI.start (by decide) (Nat.le_of_ble_eq_true rfl) ?_
  intro p e s m below meth c A ls C hk hA hE hl
  obtain ⟨hx, hb, hml, hown, hts, hr, hlocks⟩ := id C
  have hl : lv_has ls 2 [(0, .ref (ad 0)), (1, .int x)] := hl
  refine lv_iload_n hx hb dE_hasVariable_0 rfl (lv_at hl 1 rfl) ?_
  refine lv_if_lt (tgt := 16) hx hb dE_hasVariable_1 (by decide) (fun c1 => ?_) (fun c1 => ?_)
  · refine lv_iconst (v := nI 0) hx hb dE_hasVariable_16 (by decide) ?_
    exact w_retz C hE (Or.inl rfl) (⟨by simp [zb, isVn, c1], rfl⟩) dE_hasVariable_17
  · refine lv_iload_n hx hb dE_hasVariable_4 rfl (lv_at hl 1 rfl) ?_
    refine lv_aload_n hx hb dE_hasVariable_5 rfl (lv_at hl 0 rfl) ?_
    refine w_get C hk hE (K := R_E) (T := F_E) (N := 7) (ci := 5) in_E 0 (Nat.le_of_ble_eq_true rfl) rfl rfl 0 (by decide) tw_245 rfl rfl dE_hasVariable_6 ?_
    refine w_top (y := nI V9) (hV) ?_
    refine lv_icmp_ge (tgt := 16) hx hb dE_hasVariable_9 (by decide) (fun c2 => ?_) (fun c2 => ?_)
    · refine lv_iconst (v := nI 0) hx hb dE_hasVariable_16 (by decide) ?_
      exact w_retz C hE (Or.inl rfl) (⟨by simp [zb, isVn, c1, c2], rfl⟩) dE_hasVariable_17
    · refine lv_iconst (v := nI 1) hx hb dE_hasVariable_12 (by decide) ?_
      refine lv_goto (tgt := 17) hx hb dE_hasVariable_13 (by decide) ?_
      exact w_retz C hE (Or.inr rfl) (⟨by simp [zb, isVn, c1, c2], rfl⟩) dE_hasVariable_17
set_option maxHeartbeats 4000000 in
set_option maxRecDepth 100000 in
theorem c_E_hasToken (l : Launch) (D : va_G) (cs : Nat → ClassId) (ad : Nat → Nat) (σ : Mem) (T9 : Nat) (x : Int32) (hT : σ 0 1 = nI T9) (hT6 : T9 ≤ 6) : MetI l (wE D cs ad) cs yE_hasToken bE_hasToken 2 (some .boolean) 0 0 [.ref (ad 0), .int x] σ (fun r τ => r = zb (isTn T9 x) ∧ τ = σ) := by
  refine MetI.start (by decide) (Nat.le_of_ble_eq_true rfl) ?_
  intro p e s m below meth c A ls C hk hA hE hl
  obtain ⟨hx, hb, hml, hown, hts, hr, hlocks⟩ := id C
  have hl : lv_has ls 2 [(0, .ref (ad 0)), (1, .int x)] := hl
  refine lv_iload_n hx hb dE_hasToken_0 rfl (lv_at hl 1 rfl) ?_
  refine lv_bipush (v := nI 100) hx hb dE_hasToken_1 (by decide) ?_
  refine lv_icmp_lt (tgt := 21) hx hb dE_hasToken_3 (by decide) (fun c1 => ?_) (fun c1 => ?_)
  · refine lv_iconst (v := nI 0) hx hb dE_hasToken_21 (by decide) ?_
    exact w_retz C hE (Or.inl rfl) (⟨by simp [zb, isTn, c1], rfl⟩) dE_hasToken_22
  · refine lv_iload_n hx hb dE_hasToken_6 rfl (lv_at hl 1 rfl) ?_
    refine lv_bipush (v := nI 100) hx hb dE_hasToken_7 (by decide) ?_
    refine lv_aload_n hx hb dE_hasToken_9 rfl (lv_at hl 0 rfl) ?_
    refine w_get C hk hE (K := R_E) (T := F_E) (N := 7) (ci := 5) in_E 0 (Nat.le_of_ble_eq_true rfl) rfl rfl 1 (by decide) tw_246 rfl rfl dE_hasToken_10 ?_
    refine w_top (y := nI T9) (hT) ?_
    refine lv_iadd hx hb dE_hasToken_13 ?_
    refine w_top (y := nI (100 + T9)) (by first | exact nI_add _ _ | simp only [nI_add, Nat.add_assoc, Nat.add_zero, Nat.zero_add]) ?_
    refine lv_icmp_ge (tgt := 21) hx hb dE_hasToken_14 (by decide) (fun c2 => ?_) (fun c2 => ?_)
    · refine lv_iconst (v := nI 0) hx hb dE_hasToken_21 (by decide) ?_
      exact w_retz C hE (Or.inl rfl) (⟨by simp [zb, isTn, c1, c2], rfl⟩) dE_hasToken_22
    · refine lv_iconst (v := nI 1) hx hb dE_hasToken_17 (by decide) ?_
      refine lv_goto (tgt := 22) hx hb dE_hasToken_18 (by decide) ?_
      exact w_retz C hE (Or.inr rfl) (⟨by simp [zb, isTn, c1, c2], rfl⟩) dE_hasToken_22
set_option maxHeartbeats 4000000 in
set_option maxRecDepth 100000 in
theorem c_E_hasSet (l : Launch) (D : va_G) (cs : Nat → ClassId) (ad : Nat → Nat) (σ : Mem) (n9 : Nat) (x : Int32) (hn : σ 2 1 = nI n9) (hn8 : n9 ≤ 8) : MetI l (wE D cs ad) cs yE_hasSet bE_hasSet 2 (some .boolean) 0 0 [.ref (ad 0), .int x] σ (fun r τ => r = zb (isKn n9 x) ∧ τ = σ) := by
  refine MetI.start (by decide) (Nat.le_of_ble_eq_true rfl) ?_
  intro p e s m below meth c A ls C hk hA hE hl
  obtain ⟨hx, hb, hml, hown, hts, hr, hlocks⟩ := id C
  have hl : lv_has ls 2 [(0, .ref (ad 0)), (1, .int x)] := hl
  refine lv_iload_n hx hb dE_hasSet_0 rfl (lv_at hl 1 rfl) ?_
  refine lv_if_lt (tgt := 19) hx hb dE_hasSet_1 (by decide) (fun c1 => ?_) (fun c1 => ?_)
  · refine lv_iconst (v := nI 0) hx hb dE_hasSet_19 (by decide) ?_
    exact w_retz C hE (Or.inl rfl) (⟨by simp [zb, isKn, c1], rfl⟩) dE_hasSet_20
  · refine lv_iload_n hx hb dE_hasSet_4 rfl (lv_at hl 1 rfl) ?_
    refine lv_aload_n hx hb dE_hasSet_5 rfl (lv_at hl 0 rfl) ?_
    refine w_get C hk hE (K := R_E) (T := F_E) (N := 7) (ci := 5) in_E 0 (Nat.le_of_ble_eq_true rfl) rfl rfl 3 (by decide) tw_248 rfl rfl dE_hasSet_6 ?_
    refine w_get C hk hE (K := R_I) (T := F_I) (N := 2) (ci := 1) in_I 2 (Nat.le_of_ble_eq_true rfl) rfl rfl 1 (by decide) tw_72 rfl rfl dE_hasSet_9 ?_
    refine w_top (y := nI n9) (hn) ?_
    refine lv_icmp_gt (tgt := 19) hx hb dE_hasSet_12 (by decide) (fun c2 => ?_) (fun c2 => ?_)
    · refine lv_iconst (v := nI 0) hx hb dE_hasSet_19 (by decide) ?_
      exact w_retz C hE (Or.inl rfl) (⟨by simp [zb, isKn, c1, c2], rfl⟩) dE_hasSet_20
    · refine lv_iconst (v := nI 1) hx hb dE_hasSet_15 (by decide) ?_
      refine lv_goto (tgt := 20) hx hb dE_hasSet_16 (by decide) ?_
      exact w_retz C hE (Or.inr rfl) (⟨by simp [zb, isKn, c1, c2], rfl⟩) dE_hasSet_20
