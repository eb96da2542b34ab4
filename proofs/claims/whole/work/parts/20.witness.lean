set_option maxHeartbeats 4000000 in
set_option maxRecDepth 100000 in
theorem lp_W_lowest {p : Program} {l : Launch} {e : Env} {s : State} {m : MethodId} {below : List Frame} {meth : Method} {c : Code} {D : va_G} {cs : Nat → ClassId} {ad : Nat → Nat} {A : Nat → Prop} {σ : Mem} {P S n9 : Nat} {v : Int32} {i j : Nat} (C : bC p s m ([.ref (ad 5), .int v, .int (nI i), .int (nI j)] : List Value).toArray meth c bW_lowestProduction 6 "EarleyChart$Witness" (some .int)) (hk : wk D cs s) (hA : ∀ q : Nat, s.heap.size ≤ q → A q) (ht : tS σ P S n9) (hi : i < 9) (hj : j < 9)   :
    ∀ (n : Nat) (p9 : Nat), (P - p9) < n → (p9 ≤ P) → (lowPF σ n9 v i j (P - p9) p9 = lowPF σ n9 v i j P 0) → ∀ (H : Heap) (locs : List Loc) (ls : Array Slot), wS (wE D cs ad) A s.heap σ H locs → lv_has ls 6 [(0, .ref (ad 5)), (1, .int v), (2, .int (nI i)), (3, .int (nI j)), (4, .int (symS σ n9 v i j)), (5, .int (nI p9))] → W p l e (rmF 2 46) s m ([.ref (ad 5), .int v, .int (nI i), .int (nI j)] : List Value).toArray below meth c H locs 0 0 (wQi (wE D cs ad) A (fun r τ => r = lowP σ P n9 v i j ∧ τ = σ) s below ([.ref (ad 5), .int v, .int (nI i), .int (nI j)] : List Value).toArray) (F0 m 15 ls []) := by
  obtain ⟨hx, hb, hml, hown, hts, hr, hlocks⟩ := id C
  have hg := ht.1
  have hn9 := ht.2.1
  have hln := ht.2.2
  have hP8 := hg.1
  have hS24 := hg.2.1
  intro n
  induction n with
  | zero => intro p9 h; exact absurd h (Nat.not_lt_zero _)
  | succ n ih =>
    intro p9 hn hp9 hB H locs ls hE hl
    refine lv_iload hx hb dW_lowestProduction_15 (lv_at hl 5 rfl) ?_
    refine lv_aload_n hx hb dW_lowestProduction_17 rfl (lv_at hl 0 rfl) ?_
    refine w_get C hk hE (K := R_W) (T := F_W) (N := 8) (ci := 4) in_W 5 (Nat.le_of_ble_eq_true rfl) rfl rfl 0 (by decide) tw_122 rfl rfl dW_lowestProduction_18 ?_
    refine w_get C hk hE (K := R_G) (T := F_G) (N := 6) (ci := 0) in_G 1 (Nat.le_of_ble_eq_true rfl) rfl rfl 4 (by decide) tw_46 rfl rfl dW_lowestProduction_21 ?_
    refine w_top (y := nI P) (hg.2.2.1) ?_
    refine lv_icmp_ge (tgt := 82) hx hb dW_lowestProduction_24 (by decide) (fun c1 => ?_) (fun c1 => ?_)
    · have c1 : P ≤ p9 := (nI_leI (by omega) (by omega)).mp c1
      refine lv_iconst (v := (-1)) hx hb dW_lowestProduction_82 (by decide) ?_
      exact w_reti C hE (⟨by rw [lowP, ← hB, show P - p9 = 0 by omega]; rfl, rfl⟩) dW_lowestProduction_83
    · have c1 : ¬ (P ≤ p9) := fun h => c1 ((nI_leI (by omega) (by omega)).mpr h)
      obtain ⟨h6, h6b, h7, h7b⟩ := hg.2.2.2.2.1 p9 (by omega)
      refine lv_iload hx hb dW_lowestProduction_27 (lv_at hl 4 rfl) ?_
      refine lv_iconst (v := (-1)) hx hb dW_lowestProduction_29 (by decide) ?_
      refine lv_icmp_eq (tgt := 76) hx hb dW_lowestProduction_30 (by decide) (fun c2 => ?_) (fun c2 => ?_)
      · refine lv_iinc (v := nI (p9 + 1)) (lv' := [(5, .int (nI (p9 + 1))), (0, .ref (ad 5)), (1, .int v), (2, .int (nI i)), (3, .int (nI j)), (4, .int (symS σ n9 v i j))]) hx hb dW_lowestProduction_76 hl (k := 5) rfl (by exact nI_1 _) (by decide) rfl (fun ls hl => ?_)
        refine lv_goto (tgt := 15) hx hb dW_lowestProduction_79 (by decide) ?_
        exact ih (p9 + 1) (by omega) (by omega) (by rw [← hB, show P - p9 = (P - (p9 + 1)) + 1 by omega, lowPF, if_neg (by simp [lowPC, c2])]) _ _ ls hE (lv_sub hl [1, 2, 3, 4, 5, 0] rfl)
      · refine lv_aload_n hx hb dW_lowestProduction_33 rfl (lv_at hl 0 rfl) ?_
        refine w_get C hk hE (K := R_W) (T := F_W) (N := 8) (ci := 4) in_W 5 (Nat.le_of_ble_eq_true rfl) rfl rfl 0 (by decide) tw_122 rfl rfl dW_lowestProduction_34 ?_
        refine w_get C hk hE (K := R_G) (T := F_G) (N := 6) (ci := 0) in_G 1 (Nat.le_of_ble_eq_true rfl) rfl rfl 0 (by decide) tw_32 rfl rfl dW_lowestProduction_37 ?_
        refine lv_iload hx hb dW_lowestProduction_40 (lv_at hl 5 rfl) ?_
        refine w_iald C hk hE 6 (by exact Nat.le_of_ble_eq_true rfl) (n := 8) rfl (by omega) (by first | decide | omega) dW_lowestProduction_42 ?_
        refine lv_iload_n hx hb dW_lowestProduction_43 rfl (lv_at hl 1 rfl) ?_
        refine lv_icmp_ne (tgt := 76) hx hb dW_lowestProduction_44 (by decide) (fun c3 => ?_) (fun c3 => ?_)
        · refine lv_iinc (v := nI (p9 + 1)) (lv' := [(5, .int (nI (p9 + 1))), (0, .ref (ad 5)), (1, .int v), (2, .int (nI i)), (3, .int (nI j)), (4, .int (symS σ n9 v i j))]) hx hb dW_lowestProduction_76 hl (k := 5) rfl (by exact nI_1 _) (by decide) rfl (fun ls hl => ?_)
          refine lv_goto (tgt := 15) hx hb dW_lowestProduction_79 (by decide) ?_
          exact ih (p9 + 1) (by omega) (by omega) (by rw [← hB, show P - p9 = (P - (p9 + 1)) + 1 by omega, lowPF, if_neg (by simp [lowPC, c2, c3])]) _ _ ls hE (lv_sub hl [1, 2, 3, 4, 5, 0] rfl)
        · refine lv_aload_n hx hb dW_lowestProduction_47 rfl (lv_at hl 0 rfl) ?_
          refine w_get C hk hE (K := R_W) (T := F_W) (N := 8) (ci := 4) in_W 5 (Nat.le_of_ble_eq_true rfl) rfl rfl 1 (by decide) tw_123 rfl rfl dW_lowestProduction_48 ?_
          refine lv_aload_n hx hb dW_lowestProduction_51 rfl (lv_at hl 0 rfl) ?_
          refine w_get C hk hE (K := R_W) (T := F_W) (N := 8) (ci := 4) in_W 5 (Nat.le_of_ble_eq_true rfl) rfl rfl 0 (by decide) tw_122 rfl rfl dW_lowestProduction_52 ?_
          refine w_get C hk hE (K := R_G) (T := F_G) (N := 6) (ci := 0) in_G 1 (Nat.le_of_ble_eq_true rfl) rfl rfl 1 (by decide) tw_35 rfl rfl dW_lowestProduction_55 ?_
          refine lv_iload hx hb dW_lowestProduction_58 (lv_at hl 5 rfl) ?_
          refine w_iald C hk hE 7 (by exact Nat.le_of_ble_eq_true rfl) (n := 8) rfl (by omega) (by first | decide | omega) dW_lowestProduction_60 ?_
          refine w_top (y := nI (gf σ p9)) (h7) ?_
          refine lv_iload_n hx hb dW_lowestProduction_61 rfl (lv_at hl 2 rfl) ?_
          refine lv_iload_n hx hb dW_lowestProduction_62 rfl (lv_at hl 3 rfl) ?_
          refine w_ci hE hA (w_runV C hk hE hl.1 (As := [.int (nI (gf σ p9)), .int (nI i), .int (nI j)]) (rest := []) (q := 4) (c_T_ofRow l D cs ad σ (gf σ p9) i j (by omega) hi hj _) (Nat.le_of_ble_eq_true rfl) (ci := 3) (N := 4) (T := F_T) rfl rfl tw_496 tw_234 tw_235 tw_4 tw_236 (n := 3) (by decide +kernel) rfl rfl (Nat.le_of_ble_eq_true rfl) dW_lowestProduction_63 ⟨Nat.le_of_ble_eq_true rfl, Nat.le_of_ble_eq_true rfl⟩ ⟨Nat.zero_le _, Nat.zero_le _⟩) (fun r4 τ5 H locs hp hE _ _ => ?_)
          refine w_top hp.1 ?_
          have hE := wS_eq hp.2 hE
          refine lv_iload hx hb dW_lowestProduction_66 (lv_at hl 4 rfl) ?_
          refine lv_iconst (v := nI 1) hx hb dW_lowestProduction_68 (by decide) ?_
          refine lv_isub hx hb dW_lowestProduction_69 ?_
          refine lv_icmp_ne (tgt := 76) hx hb dW_lowestProduction_70 (by decide) (fun c6 => ?_) (fun c6 => ?_)
          · refine lv_iinc (v := nI (p9 + 1)) (lv' := [(5, .int (nI (p9 + 1))), (0, .ref (ad 5)), (1, .int v), (2, .int (nI i)), (3, .int (nI j)), (4, .int (symS σ n9 v i j))]) hx hb dW_lowestProduction_76 hl (k := 5) rfl (by exact nI_1 _) (by decide) rfl (fun ls hl => ?_)
            refine lv_goto (tgt := 15) hx hb dW_lowestProduction_79 (by decide) ?_
            exact ih (p9 + 1) (by omega) (by omega) (by rw [← hB, show P - p9 = (P - (p9 + 1)) + 1 by omega, lowPF, if_neg (by simp [lowPC, c2, c3, c6])]) _ _ ls hE (lv_sub hl [1, 2, 3, 4, 5, 0] rfl)
          · refine lv_iload hx hb dW_lowestProduction_73 (lv_at hl 5 rfl) ?_
            exact w_reti C hE (⟨by rw [lowP, ← hB, show P - p9 = (P - (p9 + 1)) + 1 by omega, lowPF, if_pos (by simp [lowPC, c2, c3, c6])], rfl⟩) dW_lowestProduction_75
set_option maxHeartbeats 4000000 in
set_option maxRecDepth 100000 in
theorem c_W_lowestProduction (l : Launch) (D : va_G) (cs : Nat → ClassId) (ad : Nat → Nat) (σ : Mem) (P S n9 : Nat) (v : Int32) (i j : Nat) (ht : tS σ P S n9) (hi : i < 9) (hj : j < 9) : MetI l (wE D cs ad) cs yW_lowestProduction bW_lowestProduction 6 (some .int) 2 46 [.ref (ad 5), .int v, .int (nI i), .int (nI j)] σ (fun r τ => r = lowP σ P n9 v i j ∧ τ = σ) := by
  refine MetI.start (by decide) (Nat.le_of_ble_eq_true rfl) ?_
  intro p e s m below meth c A ls C hk hA hE hl
  obtain ⟨hx, hb, hml, hown, hts, hr, hlocks⟩ := id C
  have hl : lv_has ls 6 [(0, .ref (ad 5)), (1, .int v), (2, .int (nI i)), (3, .int (nI j))] := hl
  have hg := ht.1
  have hn9 := ht.2.1
  have hln := ht.2.2
  have hP8 := hg.1
  have hS24 := hg.2.1
  refine lv_aload_n hx hb dW_lowestProduction_0 rfl (lv_at hl 0 rfl) ?_
  refine w_get C hk hE (K := R_W) (T := F_W) (N := 8) (ci := 4) in_W 5 (Nat.le_of_ble_eq_true rfl) rfl rfl 1 (by decide) tw_123 rfl rfl dW_lowestProduction_1 ?_
  refine lv_iload_n hx hb dW_lowestProduction_4 rfl (lv_at hl 1 rfl) ?_
  refine lv_iload_n hx hb dW_lowestProduction_5 rfl (lv_at hl 2 rfl) ?_
  refine lv_iload_n hx hb dW_lowestProduction_6 rfl (lv_at hl 3 rfl) ?_
  refine w_ci hE hA (w_runV C hk hE hl.1 (As := [.int v, .int (nI i), .int (nI j)]) (rest := []) (q := 4) (c_T_ofSymbol l D cs ad σ P S n9 v i j ht hi hj _) (Nat.le_of_ble_eq_true rfl) (ci := 3) (N := 4) (T := F_T) rfl rfl tw_495 tw_225 tw_226 tw_4 tw_227 (n := 3) (by decide +kernel) rfl rfl (Nat.le_of_ble_eq_true rfl) dW_lowestProduction_7 ⟨Nat.le_of_ble_eq_true rfl, Nat.le_of_ble_eq_true rfl⟩ ⟨Nat.zero_le _, Nat.zero_le _⟩) (fun r1 τ2 H locs hp hE _ _ => ?_)
  refine w_top hp.1 ?_
  have hE := wS_eq hp.2 hE
  refine lv_istore (lv' := [(4, .int (symS σ n9 v i j)), (0, .ref (ad 5)), (1, .int v), (2, .int (nI i)), (3, .int (nI j))]) hx hb dW_lowestProduction_10 hl (by decide) rfl (fun ls hl => ?_)
  refine lv_iconst (v := nI 0) hx hb dW_lowestProduction_12 (by decide) ?_
  refine lv_istore (lv' := [(5, .int (nI 0)), (4, .int (symS σ n9 v i j)), (0, .ref (ad 5)), (1, .int v), (2, .int (nI i)), (3, .int (nI j))]) hx hb dW_lowestProduction_13 hl (by decide) rfl (fun ls hl => ?_)
  exact lp_W_lowest C hk hA ht hi hj _ 0 (Nat.lt_succ_self _) (Nat.zero_le _) (rfl) _ _ ls hE (lv_sub hl [2, 3, 4, 5, 1, 0] rfl)
set_option maxHeartbeats 4000000 in
set_option maxRecDepth 100000 in
theorem lp_W_shortest {p : Program} {l : Launch} {e : Env} {s : State} {m : MethodId} {below : List Frame} {meth : Method} {c : Code} {D : va_G} {cs : Nat → ClassId} {ad : Nat → Nat} {A : Nat → Prop} {σ : Mem} {P S n9 t i j : Nat} (C : bC p s m ([.ref (ad 5), .int (nI t), .int (nI i), .int (nI j)] : List Value).toArray meth c bW_shortestEnd 6 "EarleyChart$Witness" (some .int)) (hk : wk D cs s) (hA : ∀ q : Nat, s.heap.size ≤ q → A q) (ht : tS σ P S n9) (htS : t < 24) (hi : i ≤ j) (hj : j < 9)   :
    ∀ (n : Nat) (k9 : Nat), (j - k9) < n → (i ≤ k9) → (k9 ≤ j) → (shF σ n9 S t i j (j - k9) k9 = shF σ n9 S t i j (j - i) i) → ∀ (H : Heap) (locs : List Loc) (ls : Array Slot), wS (wE D cs ad) A s.heap σ H locs → lv_has ls 6 [(0, .ref (ad 5)), (1, .int (nI t)), (2, .int (nI i)), (3, .int (nI j)), (4, .int (σ (t + 34) (i * 9 + j))), (5, .int (nI k9))] → W p l e (rmF 3 72) s m ([.ref (ad 5), .int (nI t), .int (nI i), .int (nI j)] : List Value).toArray below meth c H locs 0 0 (wQi (wE D cs ad) A (fun r τ => r = nI (shE σ n9 S t i j) ∧ τ = σ) s below ([.ref (ad 5), .int (nI t), .int (nI i), .int (nI j)] : List Value).toArray) (F0 m 15 ls []) := by
  obtain ⟨hx, hb, hml, hown, hts, hr, hlocks⟩ := id C
  have hg := ht.1
  have hn9 := ht.2.1
  have hln := ht.2.2
  have hP8 := hg.1
  have hS24 := hg.2.1
  intro n
  induction n with
  | zero => intro k9 h; exact absurd h (Nat.not_lt_zero _)
  | succ n ih =>
    intro k9 hn hk1 hk2 hB H locs ls hE hl
    refine lv_iload hx hb dW_shortestEnd_15 (lv_at hl 5 rfl) ?_
    refine lv_iload_n hx hb dW_shortestEnd_17 rfl (lv_at hl 3 rfl) ?_
    refine lv_icmp_ge (tgt := 53) hx hb dW_shortestEnd_18 (by decide) (fun c1 => ?_) (fun c1 => ?_)
    · have c1 : j ≤ k9 := (nI_leI (by omega) (by omega)).mp c1
      refine lv_iload_n hx hb dW_shortestEnd_53 rfl (lv_at hl 3 rfl) ?_
      exact w_reti C hE (⟨by rw [shE, ← hB, show j - k9 = 0 by omega, shF, show k9 = j by omega], rfl⟩) dW_shortestEnd_54
    · have c1 : ¬ (j ≤ k9) := fun h => c1 ((nI_leI (by omega) (by omega)).mpr h)
      refine lv_iload hx hb dW_shortestEnd_21 (lv_at hl 4 rfl) ?_
      refine lv_iconst (v := (-1)) hx hb dW_shortestEnd_23 (by decide) ?_
      refine lv_icmp_eq (tgt := 47) hx hb dW_shortestEnd_24 (by decide) (fun c2 => ?_) (fun c2 => ?_)
      · refine lv_iinc (v := nI (k9 + 1)) (lv' := [(5, .int (nI (k9 + 1))), (0, .ref (ad 5)), (1, .int (nI t)), (2, .int (nI i)), (3, .int (nI j)), (4, .int (σ (t + 34) (i * 9 + j)))]) hx hb dW_shortestEnd_47 hl (k := 5) rfl (by exact nI_1 _) (by decide) rfl (fun ls hl => ?_)
        refine lv_goto (tgt := 15) hx hb dW_shortestEnd_50 (by decide) ?_
        exact ih (k9 + 1) (by omega) (by omega) (by omega) (by rw [← hB, show j - k9 = (j - (k9 + 1)) + 1 by omega, shF, if_neg (by simp [shC, c2])]) _ _ ls hE (lv_sub hl [1, 2, 3, 4, 5, 0] rfl)
      · refine lv_aload_n hx hb dW_shortestEnd_27 rfl (lv_at hl 0 rfl) ?_
        refine w_get C hk hE (K := R_W) (T := F_W) (N := 8) (ci := 4) in_W 5 (Nat.le_of_ble_eq_true rfl) rfl rfl 1 (by decide) tw_123 rfl rfl dW_shortestEnd_28 ?_
        refine lv_iload_n hx hb dW_shortestEnd_31 rfl (lv_at hl 1 rfl) ?_
        refine lv_iload_n hx hb dW_shortestEnd_32 rfl (lv_at hl 2 rfl) ?_
        refine lv_iload hx hb dW_shortestEnd_33 (lv_at hl 5 rfl) ?_
        refine lv_iload_n hx hb dW_shortestEnd_35 rfl (lv_at hl 3 rfl) ?_
        refine w_ci hE hA (w_runV C hk hE hl.1 (As := [.int (nI t), .int (nI i), .int (nI k9), .int (nI j)]) (rest := []) (q := 4) (c_T_ofSplitRow l D cs ad σ P S n9 t i k9 j ht htS (by omega) (by omega) hj _) (Nat.le_of_ble_eq_true rfl) (ci := 3) (N := 4) (T := F_T) rfl rfl tw_506 tw_221 tw_222 tw_4 tw_223 (n := 4) (by decide +kernel) rfl rfl (Nat.le_of_ble_eq_true rfl) dW_shortestEnd_36 ⟨Nat.le_of_ble_eq_true rfl, Nat.le_of_ble_eq_true rfl⟩ ⟨Nat.zero_le _, Nat.zero_le _⟩) (fun r3 τ4 H locs hp hE _ _ => ?_)
        refine w_top hp.1 ?_
        have hE := wS_eq hp.2 hE
        refine lv_iload hx hb dW_shortestEnd_39 (lv_at hl 4 rfl) ?_
        refine lv_icmp_ne (tgt := 47) hx hb dW_shortestEnd_41 (by decide) (fun c5 => ?_) (fun c5 => ?_)
        · refine lv_iinc (v := nI (k9 + 1)) (lv' := [(5, .int (nI (k9 + 1))), (0, .ref (ad 5)), (1, .int (nI t)), (2, .int (nI i)), (3, .int (nI j)), (4, .int (σ (t + 34) (i * 9 + j)))]) hx hb dW_shortestEnd_47 hl (k := 5) rfl (by exact nI_1 _) (by decide) rfl (fun ls hl => ?_)
          refine lv_goto (tgt := 15) hx hb dW_shortestEnd_50 (by decide) ?_
          exact ih (k9 + 1) (by omega) (by omega) (by omega) (by rw [← hB, show j - k9 = (j - (k9 + 1)) + 1 by omega, shF, if_neg (by simp [shC, c2, c5])]) _ _ ls hE (lv_sub hl [1, 2, 3, 4, 5, 0] rfl)
        · refine lv_iload hx hb dW_shortestEnd_44 (lv_at hl 5 rfl) ?_
          exact w_reti C hE (⟨by rw [shE, ← hB, show j - k9 = (j - (k9 + 1)) + 1 by omega, shF, if_pos (by simp [shC, c2, c5])], rfl⟩) dW_shortestEnd_46
set_option maxHeartbeats 4000000 in
set_option maxRecDepth 100000 in
theorem c_W_shortestEnd (l : Launch) (D : va_G) (cs : Nat → ClassId) (ad : Nat → Nat) (σ : Mem) (P S n9 t i j : Nat) (ht : tS σ P S n9) (htS : t < 24) (hi : i ≤ j) (hj : j < 9) : MetI l (wE D cs ad) cs yW_shortestEnd bW_shortestEnd 6 (some .int) 3 72 [.ref (ad 5), .int (nI t), .int (nI i), .int (nI j)] σ (fun r τ => r = nI (shE σ n9 S t i j) ∧ τ = σ) := by
  refine MetI.start (by decide) (Nat.le_of_ble_eq_true rfl) ?_
  intro p e s m below meth c A ls C hk hA hE hl
  obtain ⟨hx, hb, hml, hown, hts, hr, hlocks⟩ := id C
  have hl : lv_has ls 6 [(0, .ref (ad 5)), (1, .int (nI t)), (2, .int (nI i)), (3, .int (nI j))] := hl
  have hg := ht.1
  have hn9 := ht.2.1
  have hln := ht.2.2
  have hP8 := hg.1
  have hS24 := hg.2.1
  refine lv_aload_n hx hb dW_shortestEnd_0 rfl (lv_at hl 0 rfl) ?_
  refine w_get C hk hE (K := R_W) (T := F_W) (N := 8) (ci := 4) in_W 5 (Nat.le_of_ble_eq_true rfl) rfl rfl 1 (by decide) tw_123 rfl rfl dW_shortestEnd_1 ?_
  refine lv_iload_n hx hb dW_shortestEnd_4 rfl (lv_at hl 1 rfl) ?_
  refine lv_iload_n hx hb dW_shortestEnd_5 rfl (lv_at hl 2 rfl) ?_
  refine lv_iload_n hx hb dW_shortestEnd_6 rfl (lv_at hl 3 rfl) ?_
  refine w_ci hE hA (w_runV C hk hE hl.1 (As := [.int (nI t), .int (nI i), .int (nI j)]) (rest := []) (q := 4) (c_T_ofRow l D cs ad σ t i j htS (by omega) hj _) (Nat.le_of_ble_eq_true rfl) (ci := 3) (N := 4) (T := F_T) rfl rfl tw_496 tw_234 tw_235 tw_4 tw_236 (n := 3) (by decide +kernel) rfl rfl (Nat.le_of_ble_eq_true rfl) dW_shortestEnd_7 ⟨Nat.le_of_ble_eq_true rfl, Nat.le_of_ble_eq_true rfl⟩ ⟨Nat.zero_le _, Nat.zero_le _⟩) (fun r1 τ2 H locs hp hE _ _ => ?_)
  refine w_top hp.1 ?_
  have hE := wS_eq hp.2 hE
  refine lv_istore (lv' := [(4, .int (σ (t + 34) (i * 9 + j))), (0, .ref (ad 5)), (1, .int (nI t)), (2, .int (nI i)), (3, .int (nI j))]) hx hb dW_shortestEnd_10 hl (by decide) rfl (fun ls hl => ?_)
  refine lv_iload_n hx hb dW_shortestEnd_12 rfl (lv_at hl 3 rfl) ?_
  refine lv_istore (lv' := [(5, .int (nI i)), (4, .int (σ (t + 34) (i * 9 + j))), (0, .ref (ad 5)), (1, .int (nI t)), (2, .int (nI i)), (3, .int (nI j))]) hx hb dW_shortestEnd_13 hl (by decide) rfl (fun ls hl => ?_)
  exact lp_W_shortest C hk hA ht htS hi hj _ i (Nat.lt_succ_self _) (Nat.le_refl _) (hi) (rfl) _ _ ls hE (lv_sub hl [2, 3, 4, 5, 1, 0] rfl)
set_option maxHeartbeats 4000000 in
set_option maxRecDepth 100000 in
theorem c_W_open (l : Launch) (D : va_G) (cs : Nat → ClassId) (ad : Nat → Nat) (σ : Mem) (P S n9 : Nat) (v : Int32) (i j d9 k9 : Nat) (ht : tS σ P S n9) (hi : i < 9) (hj : j < 9) (hd : σ 5 7 = nI d9) (hk8 : σ 5 3 = nI k9) (hd54 : d9 ≤ 54) (hk80 : k9 ≤ 8000) : MetV l (wE D cs ad) cs yW_open bW_open 5 3 71 [.ref (ad 5), .int v, .int (nI i), .int (nI j)] σ (fun τ => τ = openM σ P n9 v i j d9 k9) := by
  refine MetV.start (by decide) (Nat.le_of_ble_eq_true rfl) ?_
  intro p e s m below meth c A ls C hk hA hE hl
  obtain ⟨hx, hb, hml, hown, hts, hr, hlocks⟩ := id C
  have hl : lv_has ls 5 [(0, .ref (ad 5)), (1, .int v), (2, .int (nI i)), (3, .int (nI j))] := hl
  have hg := ht.1
  have hn9 := ht.2.1
  have hln := ht.2.2
  have hP8 := hg.1
  have hS24 := hg.2.1
  refine lv_aload_n hx hb dW_open_0 rfl (lv_at hl 0 rfl) ?_
  refine lv_iload_n hx hb dW_open_1 rfl (lv_at hl 1 rfl) ?_
  refine lv_iload_n hx hb dW_open_2 rfl (lv_at hl 2 rfl) ?_
  refine lv_iload_n hx hb dW_open_3 rfl (lv_at hl 3 rfl) ?_
  refine w_ci hE hA (w_runV C hk hE hl.1 (As := [.int v, .int (nI i), .int (nI j)]) (rest := []) (q := 5) (c_W_lowestProduction l D cs ad σ P S n9 v i j ht hi hj _) (Nat.le_of_ble_eq_true rfl) (ci := 4) (N := 8) (T := F_W) rfl rfl tw_491 tw_493 ts_13 tw_6 tw_494 (n := 3) (by decide +kernel) rfl rfl (Nat.le_of_ble_eq_true rfl) dW_open_4 ⟨Nat.le_of_ble_eq_true rfl, Nat.le_of_ble_eq_true rfl⟩ ⟨Nat.zero_le _, Nat.zero_le _⟩) (fun r1 τ2 H locs hp hE _ _ => ?_)
  refine w_top hp.1 ?_
  have hE := wS_eq hp.2 hE
  refine lv_istore (lv' := [(4, .int (lowP σ P n9 v i j)), (0, .ref (ad 5)), (1, .int v), (2, .int (nI i)), (3, .int (nI j))]) hx hb dW_open_7 hl (by decide) rfl (fun ls hl => ?_)
  refine lv_iload hx hb dW_open_9 (lv_at hl 0 rfl) ?_
  refine lv_iconst (v := (-1)) hx hb dW_open_11 (by decide) ?_
  refine lv_icmp_eq (tgt := 24) hx hb dW_open_12 (by decide) (fun c3 => ?_) (fun c3 => ?_)
  · exact w_retv C hE (by rw [openM]; simp only [c3, if_true, if_false]) dW_open_24
  · obtain ⟨hl1, hl2⟩ := lowP_of hP8 c3
    refine lv_aload_n hx hb dW_open_15 rfl (lv_at hl 1 rfl) ?_
    refine w_get C hk hE (K := R_W) (T := F_W) (N := 8) (ci := 4) in_W 5 (Nat.le_of_ble_eq_true rfl) rfl rfl 7 (by decide) tw_131 rfl rfl dW_open_16 ?_
    refine w_top (y := nI d9) (hd) ?_
    refine lv_bipush (v := nI 54) hx hb dW_open_19 (by decide) ?_
    refine lv_icmp_lt (tgt := 25) hx hb dW_open_21 (by decide) (fun c4 => ?_) (fun c4 => ?_)
    · have c4 : d9 < 54 := (nI_ltI (by omega) (by omega)).mp c4
      refine lv_aload_n hx hb dW_open_25 rfl (lv_at hl 1 rfl) ?_
      refine w_get C hk hE (K := R_W) (T := F_W) (N := 8) (ci := 4) in_W 5 (Nat.le_of_ble_eq_true rfl) rfl rfl 3 (by decide) tw_126 rfl rfl dW_open_26 ?_
      refine w_top (y := nI k9) (hk8) ?_
      refine lv_sipush (v := nI 8000) hx hb dW_open_29 (by decide) ?_
      refine lv_icmp_lt (tgt := 41) hx hb dW_open_32 (by decide) (fun c5 => ?_) (fun c5 => ?_)
      · have c5 : k9 < 8000 := (nI_ltI (by omega) (by omega)).mp c5
        refine lv_aload_n hx hb dW_open_41 rfl (lv_at hl 1 rfl) ?_
        refine w_get C hk hE (K := R_W) (T := F_W) (N := 8) (ci := 4) in_W 5 (Nat.le_of_ble_eq_true rfl) rfl rfl 2 (by decide) tw_124 rfl rfl dW_open_42 ?_
        refine lv_aload_n hx hb dW_open_45 rfl (lv_at hl 1 rfl) ?_
        refine w_get C hk hE (K := R_W) (T := F_W) (N := 8) (ci := 4) in_W 5 (Nat.le_of_ble_eq_true rfl) rfl rfl 3 (by decide) tw_126 rfl rfl dW_open_46 ?_
        refine w_top (y := nI k9) (hk8) ?_
        refine lv_iload hx hb dW_open_49 (lv_at hl 0 rfl) ?_
        refine w_iast C hk hE 15 (by exact Nat.le_of_ble_eq_true rfl) (n := 8000) (fun _ => rfl) (by omega) (by first | decide | omega) dW_open_51 (fun H locs hE => ?_)
        refine lv_aload_n hx hb dW_open_52 rfl (lv_at hl 1 rfl) ?_
        refine lv_dup hx hb dW_open_53 rfl ?_
        refine w_get C hk hE (K := R_W) (T := F_W) (N := 8) (ci := 4) in_W 5 (Nat.le_of_ble_eq_true rfl) rfl rfl 3 (by decide) tw_126 rfl rfl dW_open_54 ?_
        refine w_top (y := σ 5 3) (by simp [mset, mrow, upd]) ?_
        refine w_top (y := nI k9) (hk8) ?_
        refine lv_iconst (v := nI 1) hx hb dW_open_57 (by decide) ?_
        refine lv_iadd hx hb dW_open_58 ?_
        refine w_top (y := nI (k9 + 1)) (by first | exact nI_add _ _ | simp only [nI_add, Nat.add_assoc, Nat.add_zero, Nat.zero_add]) ?_
        refine w_put C hk hE (K := R_W) (T := F_W) (N := 8) (ci := 4) in_W ft_W_ok fn_W 5 (Nat.le_of_ble_eq_true rfl) rfl rfl 3 (by decide) tw_126 rfl rfl (rfl) (rfl) (Nat.le_of_ble_eq_true rfl) rfl dW_open_59 (fun H locs hE => ?_)
        refine lv_aload_n hx hb dW_open_62 rfl (lv_at hl 1 rfl) ?_
        refine w_get C hk hE (K := R_W) (T := F_W) (N := 8) (ci := 4) in_W 5 (Nat.le_of_ble_eq_true rfl) rfl rfl 4 (by decide) tw_128 rfl rfl dW_open_63 ?_
        refine lv_aload_n hx hb dW_open_66 rfl (lv_at hl 1 rfl) ?_
        refine w_get C hk hE (K := R_W) (T := F_W) (N := 8) (ci := 4) in_W 5 (Nat.le_of_ble_eq_true rfl) rfl rfl 7 (by decide) tw_131 rfl rfl dW_open_67 ?_
        refine w_top (y := σ 5 7) (by simp [mset, mrow, upd]) ?_
        refine w_top (y := nI d9) (hd) ?_
        refine lv_aload_n hx hb dW_open_70 rfl (lv_at hl 1 rfl) ?_
        refine w_get C hk hE (K := R_W) (T := F_W) (N := 8) (ci := 4) in_W 5 (Nat.le_of_ble_eq_true rfl) rfl rfl 0 (by decide) tw_122 rfl rfl dW_open_71 ?_
        refine w_get C hk hE (K := R_G) (T := F_G) (N := 6) (ci := 0) in_G 1 (Nat.le_of_ble_eq_true rfl) rfl rfl 1 (by decide) tw_35 rfl rfl dW_open_74 ?_
        refine lv_iload hx hb dW_open_77 (lv_at hl 0 rfl) ?_
        refine w_top (y := nI ((lowP σ P n9 v i j).toNatClampNeg)) (hl1) ?_
        refine w_iald C hk hE 7 (by exact Nat.le_of_ble_eq_true rfl) (n := 8) rfl (by omega) (by first | decide | omega) dW_open_79 ?_
        refine w_top (y := σ 7 ((lowP σ P n9 v i j).toNatClampNeg)) (by simp [mset, mrow, upd]) ?_
        refine w_iast C hk hE 16 (by exact Nat.le_of_ble_eq_true rfl) (n := 54) (fun _ => rfl) (by omega) (by first | decide | omega) dW_open_80 (fun H locs hE => ?_)
        refine lv_aload_n hx hb dW_open_81 rfl (lv_at hl 1 rfl) ?_
        refine w_get C hk hE (K := R_W) (T := F_W) (N := 8) (ci := 4) in_W 5 (Nat.le_of_ble_eq_true rfl) rfl rfl 5 (by decide) tw_129 rfl rfl dW_open_82 ?_
        refine lv_aload_n hx hb dW_open_85 rfl (lv_at hl 1 rfl) ?_
        refine w_get C hk hE (K := R_W) (T := F_W) (N := 8) (ci := 4) in_W 5 (Nat.le_of_ble_eq_true rfl) rfl rfl 7 (by decide) tw_131 rfl rfl dW_open_86 ?_
        refine w_top (y := σ 5 7) (by simp [mset, mrow, upd]) ?_
        refine w_top (y := nI d9) (hd) ?_
        refine lv_iload_n hx hb dW_open_89 rfl (lv_at hl 3 rfl) ?_
        refine w_iast C hk hE 17 (by exact Nat.le_of_ble_eq_true rfl) (n := 54) (fun _ => rfl) (by omega) (by first | decide | omega) dW_open_90 (fun H locs hE => ?_)
        refine lv_aload_n hx hb dW_open_91 rfl (lv_at hl 1 rfl) ?_
        refine w_get C hk hE (K := R_W) (T := F_W) (N := 8) (ci := 4) in_W 5 (Nat.le_of_ble_eq_true rfl) rfl rfl 6 (by decide) tw_130 rfl rfl dW_open_92 ?_
        refine lv_aload_n hx hb dW_open_95 rfl (lv_at hl 1 rfl) ?_
        refine w_get C hk hE (K := R_W) (T := F_W) (N := 8) (ci := 4) in_W 5 (Nat.le_of_ble_eq_true rfl) rfl rfl 7 (by decide) tw_131 rfl rfl dW_open_96 ?_
        refine w_top (y := σ 5 7) (by simp [mset, mrow, upd]) ?_
        refine w_top (y := nI d9) (hd) ?_
        refine lv_iload_n hx hb dW_open_99 rfl (lv_at hl 4 rfl) ?_
        refine w_iast C hk hE 18 (by exact Nat.le_of_ble_eq_true rfl) (n := 54) (fun _ => rfl) (by omega) (by first | decide | omega) dW_open_100 (fun H locs hE => ?_)
        refine lv_aload_n hx hb dW_open_101 rfl (lv_at hl 1 rfl) ?_
        refine lv_dup hx hb dW_open_102 rfl ?_
        refine w_get C hk hE (K := R_W) (T := F_W) (N := 8) (ci := 4) in_W 5 (Nat.le_of_ble_eq_true rfl) rfl rfl 7 (by decide) tw_131 rfl rfl dW_open_103 ?_
        refine w_top (y := σ 5 7) (by simp [mset, mrow, upd]) ?_
        refine w_top (y := nI d9) (hd) ?_
        refine lv_iconst (v := nI 1) hx hb dW_open_106 (by decide) ?_
        refine lv_iadd hx hb dW_open_107 ?_
        refine w_top (y := nI (d9 + 1)) (by first | exact nI_add _ _ | simp only [nI_add, Nat.add_assoc, Nat.add_zero, Nat.zero_add]) ?_
        refine w_put C hk hE (K := R_W) (T := F_W) (N := 8) (ci := 4) in_W ft_W_ok fn_W 5 (Nat.le_of_ble_eq_true rfl) rfl rfl 7 (by decide) tw_131 rfl rfl (rfl) (rfl) (Nat.le_of_ble_eq_true rfl) rfl dW_open_108 (fun H locs hE => ?_)
        exact w_retv C hE (by rw [openM]; simp only [c3, c4, c5, if_true, if_false]) dW_open_111
      · have c5 : ¬ (k9 < 8000) := fun h => c5 ((nI_ltI (by omega) (by omega)).mpr h)
        refine lv_aload_n hx hb dW_open_35 rfl (lv_at hl 1 rfl) ?_
        refine lv_iconst (v := nI 0) hx hb dW_open_36 (by decide) ?_
        refine w_put C hk hE (K := R_W) (T := F_W) (N := 8) (ci := 4) in_W ft_W_ok fn_W 5 (Nat.le_of_ble_eq_true rfl) rfl rfl 7 (by decide) tw_131 rfl rfl (rfl) (rfl) (Nat.le_of_ble_eq_true rfl) rfl dW_open_37 (fun H locs hE => ?_)
        exact w_retv C hE (by rw [openM]; simp only [c3, c4, c5, if_true, if_false]) dW_open_40
    · have c4 : ¬ (d9 < 54) := fun h => c4 ((nI_ltI (by omega) (by omega)).mpr h)
      exact w_retv C hE (by rw [openM]; simp only [c3, c4, if_true, if_false]) dW_open_24
set_option maxHeartbeats 4000000 in
set_option maxRecDepth 100000 in
theorem c_W_goOn (l : Launch) (D : va_G) (cs : Nat → ClassId) (ad : Nat → Nat) (σ : Mem) (P S n9 d9 t a b k9 : Nat) (ht : tS σ P S n9) (hd : σ 5 7 = nI (d9 + 1)) (hd54 : d9 + 1 ≤ 54) (hk8 : σ 5 3 = nI k9) (hk80 : k9 ≤ 8000) (h16 : σ 16 d9 = nI t) (h17 : σ 17 d9 = nI a) (h18 : σ 18 d9 = nI b) (htS : t < S) (hab : a ≤ b) (hbn : b ≤ n9) : MetV l (wE D cs ad) cs yW_goOn bW_goOn 6 4 97 [.ref (ad 5)] σ (fun τ => τ = goM σ P S n9 d9 t a b k9) := by
  refine MetV.start (by decide) (Nat.le_of_ble_eq_true rfl) ?_
  intro p e s m below meth c A ls C hk hA hE hl
  obtain ⟨hx, hb, hml, hown, hts, hr, hlocks⟩ := id C
  have hl : lv_has ls 6 [(0, .ref (ad 5))] := hl
  have hg := ht.1
  have hn9 := ht.2.1
  have hln := ht.2.2
  have hP8 := hg.1
  have hS24 := hg.2.1
  have hsh := shE_in (σ := σ) (n := n9) (S := S) (t := t) hab
  refine lv_aload_n hx hb dW_goOn_0 rfl (lv_at hl 0 rfl) ?_
  refine w_get C hk hE (K := R_W) (T := F_W) (N := 8) (ci := 4) in_W 5 (Nat.le_of_ble_eq_true rfl) rfl rfl 7 (by decide) tw_131 rfl rfl dW_goOn_1 ?_
  refine w_top (y := nI (d9 + 1)) (hd) ?_
  refine lv_iconst (v := nI 1) hx hb dW_goOn_4 (by decide) ?_
  refine lv_isub hx hb dW_goOn_5 ?_
  refine w_top (y := nI d9) (w_sub (by omega) (by omega)) ?_
  refine lv_istore_n (lv' := [(1, .int (nI d9)), (0, .ref (ad 5))]) hx hb dW_goOn_6 rfl hl (by decide) rfl (fun ls hl => ?_)
  refine lv_aload_n hx hb dW_goOn_7 rfl (lv_at hl 1 rfl) ?_
  refine w_get C hk hE (K := R_W) (T := F_W) (N := 8) (ci := 4) in_W 5 (Nat.le_of_ble_eq_true rfl) rfl rfl 4 (by decide) tw_128 rfl rfl dW_goOn_8 ?_
  refine lv_iload_n hx hb dW_goOn_11 rfl (lv_at hl 0 rfl) ?_
  refine w_iald C hk hE 16 (by exact Nat.le_of_ble_eq_true rfl) (n := 54) rfl (by omega) (by first | decide | omega) dW_goOn_12 ?_
  refine w_top (y := nI t) (h16) ?_
  refine lv_istore_n (lv' := [(2, .int (nI t)), (1, .int (nI d9)), (0, .ref (ad 5))]) hx hb dW_goOn_13 rfl hl (by decide) rfl (fun ls hl => ?_)
  refine lv_aload_n hx hb dW_goOn_14 rfl (lv_at hl 2 rfl) ?_
  refine w_get C hk hE (K := R_W) (T := F_W) (N := 8) (ci := 4) in_W 5 (Nat.le_of_ble_eq_true rfl) rfl rfl 0 (by decide) tw_122 rfl rfl dW_goOn_15 ?_
  refine w_get C hk hE (K := R_G) (T := F_G) (N := 6) (ci := 0) in_G 1 (Nat.le_of_ble_eq_true rfl) rfl rfl 2 (by decide) tw_40 rfl rfl dW_goOn_18 ?_
  refine lv_iload_n hx hb dW_goOn_21 rfl (lv_at hl 0 rfl) ?_
  refine w_iald C hk hE 8 (by exact Nat.le_of_ble_eq_true rfl) (n := 24) rfl (by omega) (by first | decide | omega) dW_goOn_22 ?_
  refine lv_istore_n (lv' := [(3, .int (σ 8 t)), (2, .int (nI t)), (1, .int (nI d9)), (0, .ref (ad 5))]) hx hb dW_goOn_23 rfl hl (by decide) rfl (fun ls hl => ?_)
  refine lv_iload_n hx hb dW_goOn_24 rfl (lv_at hl 0 rfl) ?_
  refine lv_iconst (v := (-1)) hx hb dW_goOn_25 (by decide) ?_
  refine lv_icmp_ne (tgt := 40) hx hb dW_goOn_26 (by decide) (fun c1 => ?_) (fun c1 => ?_)
  · refine lv_aload_n hx hb dW_goOn_40 rfl (lv_at hl 3 rfl) ?_
    refine w_get C hk hE (K := R_W) (T := F_W) (N := 8) (ci := 4) in_W 5 (Nat.le_of_ble_eq_true rfl) rfl rfl 5 (by decide) tw_129 rfl rfl dW_goOn_41 ?_
    refine lv_iload_n hx hb dW_goOn_44 rfl (lv_at hl 2 rfl) ?_
    refine w_iald C hk hE 17 (by exact Nat.le_of_ble_eq_true rfl) (n := 54) rfl (by omega) (by first | decide | omega) dW_goOn_45 ?_
    refine w_top (y := nI a) (h17) ?_
    refine lv_istore (lv' := [(4, .int (nI a)), (3, .int (σ 8 t)), (2, .int (nI t)), (1, .int (nI d9)), (0, .ref (ad 5))]) hx hb dW_goOn_46 hl (by decide) rfl (fun ls hl => ?_)
    refine lv_aload_n hx hb dW_goOn_48 rfl (lv_at hl 4 rfl) ?_
    refine lv_iload_n hx hb dW_goOn_49 rfl (lv_at hl 2 rfl) ?_
    refine lv_iload hx hb dW_goOn_50 (lv_at hl 0 rfl) ?_
    refine lv_aload_n hx hb dW_goOn_52 rfl (lv_at hl 4 rfl) ?_
    refine w_get C hk hE (K := R_W) (T := F_W) (N := 8) (ci := 4) in_W 5 (Nat.le_of_ble_eq_true rfl) rfl rfl 6 (by decide) tw_130 rfl rfl dW_goOn_53 ?_
    refine lv_iload_n hx hb dW_goOn_56 rfl (lv_at hl 3 rfl) ?_
    refine w_iald C hk hE 18 (by exact Nat.le_of_ble_eq_true rfl) (n := 54) rfl (by omega) (by first | decide | omega) dW_goOn_57 ?_
    refine w_top (y := nI b) (h18) ?_
    refine w_ci hE hA (w_runV C hk hE hl.1 (As := [.int (nI t), .int (nI a), .int (nI b)]) (rest := []) (q := 5) (c_W_shortestEnd l D cs ad σ P S n9 t a b ht (by omega) hab (by omega) _) (Nat.le_of_ble_eq_true rfl) (ci := 4) (N := 8) (T := F_W) rfl rfl tw_502 tw_504 ts_15 tw_6 tw_505 (n := 3) (by decide +kernel) rfl rfl (Nat.le_of_ble_eq_true rfl) dW_goOn_58 ⟨Nat.le_of_ble_eq_true rfl, Nat.le_of_ble_eq_true rfl⟩ ⟨Nat.zero_le _, Nat.zero_le _⟩) (fun r2 τ3 H locs hp hE _ _ => ?_)
    refine w_top hp.1 ?_
    have hE := wS_eq hp.2 hE
    refine lv_istore (lv' := [(5, .int (nI (shE σ n9 S t a b))), (4, .int (nI a)), (3, .int (σ 8 t)), (2, .int (nI t)), (1, .int (nI d9)), (0, .ref (ad 5))]) hx hb dW_goOn_61 hl (by decide) rfl (fun ls hl => ?_)
    refine lv_aload_n hx hb dW_goOn_63 rfl (lv_at hl 5 rfl) ?_
    refine w_get C hk hE (K := R_W) (T := F_W) (N := 8) (ci := 4) in_W 5 (Nat.le_of_ble_eq_true rfl) rfl rfl 4 (by decide) tw_128 rfl rfl dW_goOn_64 ?_
    refine lv_iload_n hx hb dW_goOn_67 rfl (lv_at hl 4 rfl) ?_
    refine lv_iload_n hx hb dW_goOn_68 rfl (lv_at hl 3 rfl) ?_
    refine lv_iconst (v := nI 1) hx hb dW_goOn_69 (by decide) ?_
    refine lv_iadd hx hb dW_goOn_70 ?_
    refine w_top (y := nI (t + 1)) (by first | exact nI_add _ _ | simp only [nI_add, Nat.add_assoc, Nat.add_zero, Nat.zero_add]) ?_
    refine w_iast C hk hE 16 (by exact Nat.le_of_ble_eq_true rfl) (n := 54) (fun _ => rfl) (by omega) (by first | decide | omega) dW_goOn_71 (fun H locs hE => ?_)
    refine lv_aload_n hx hb dW_goOn_72 rfl (lv_at hl 5 rfl) ?_
    refine w_get C hk hE (K := R_W) (T := F_W) (N := 8) (ci := 4) in_W 5 (Nat.le_of_ble_eq_true rfl) rfl rfl 5 (by decide) tw_129 rfl rfl dW_goOn_73 ?_
    refine lv_iload_n hx hb dW_goOn_76 rfl (lv_at hl 4 rfl) ?_
    refine lv_iload hx hb dW_goOn_77 (lv_at hl 0 rfl) ?_
    refine w_iast C hk hE 17 (by exact Nat.le_of_ble_eq_true rfl) (n := 54) (fun _ => rfl) (by omega) (by first | decide | omega) dW_goOn_79 (fun H locs hE => ?_)
    have hE : wS (wE D cs ad) A s.heap (go1 σ n9 S d9 t a b) H locs := hE
    refine lv_iload_n hx hb dW_goOn_80 rfl (lv_at hl 2 rfl) ?_
    refine w_ci hE hA (w_runSN C hk hE hl.1 (As := [.int (σ 8 t)]) (rest := []) (c_E_isVariable l D cs ad (go1 σ n9 S d9 t a b) (σ 8 t) _) hk.2.2.2.1 tw_199 tw_1 tw_200 (n := 1) (by decide +kernel) rfl rfl (Nat.le_of_ble_eq_true rfl) dW_goOn_81 ⟨Nat.le_of_ble_eq_true rfl, Nat.le_of_ble_eq_true rfl⟩ ⟨Nat.zero_le _, Nat.zero_le _⟩) (fun r4 τ5 H locs hp hE _ _ => ?_)
    refine w_top hp.1 ?_
    have hE := wS_eq hp.2 hE
    refine lv_if_eq (tgt := 96) hx hb dW_goOn_84 (by decide) (fun c6 => ?_) (fun c6 => ?_)
    · have c6 := zb_eq0 c6
      exact w_retv C hE (by rw [goM]; simp only [c1, c6, if_true, if_false, Bool.false_eq_true]) dW_goOn_96
    · have c6 := zb_ne0 c6
      refine lv_aload_n hx hb dW_goOn_87 rfl (lv_at hl 5 rfl) ?_
      refine lv_iload_n hx hb dW_goOn_88 rfl (lv_at hl 2 rfl) ?_
      refine lv_iload hx hb dW_goOn_89 (lv_at hl 1 rfl) ?_
      refine lv_iload hx hb dW_goOn_91 (lv_at hl 0 rfl) ?_
      refine w_cv hE hA (w_runV C hk hE hl.1 (As := [.int (σ 8 t), .int (nI a), .int (nI (shE σ n9 S t a b))]) (rest := []) (q := 5) (c_W_open l D cs ad (go1 σ n9 S d9 t a b) P S n9 (σ 8 t) a (shE σ n9 S t a b) (d9 + 1) k9 (go1_tS ht) (by omega) (by omega) (by unfold go1; rw [mset_n (by decide), mset_n (by decide)]; exact hd) (by unfold go1; rw [mset_n (by decide), mset_n (by decide)]; exact hk8) hd54 hk80 _) (Nat.le_of_ble_eq_true rfl) (ci := 4) (N := 8) (T := F_W) rfl rfl tw_487 tw_489 ts_12 tw_6 tw_490 (n := 3) (by decide +kernel) rfl rfl (Nat.le_of_ble_eq_true rfl) dW_goOn_93 ⟨Nat.le_of_ble_eq_true rfl, Nat.le_of_ble_eq_true rfl⟩ ⟨Nat.zero_le _, Nat.zero_le _⟩) (fun τ8 H locs hp hE _ _ => ?_)
      have hE := wS_eq hp hE
      exact w_retv C hE (by rw [goM]; simp only [c1, c6, if_true, if_false, Bool.false_eq_true]) dW_goOn_96
  · refine lv_aload_n hx hb dW_goOn_29 rfl (lv_at hl 3 rfl) ?_
    refine lv_dup hx hb dW_goOn_30 rfl ?_
    refine w_get C hk hE (K := R_W) (T := F_W) (N := 8) (ci := 4) in_W 5 (Nat.le_of_ble_eq_true rfl) rfl rfl 7 (by decide) tw_131 rfl rfl dW_goOn_31 ?_
    refine w_top (y := nI (d9 + 1)) (hd) ?_
    refine lv_iconst (v := nI 1) hx hb dW_goOn_34 (by decide) ?_
    refine lv_isub hx hb dW_goOn_35 ?_
    refine w_top (y := nI d9) (w_sub (by omega) (by omega)) ?_
    refine w_put C hk hE (K := R_W) (T := F_W) (N := 8) (ci := 4) in_W ft_W_ok fn_W 5 (Nat.le_of_ble_eq_true rfl) rfl rfl 7 (by decide) tw_131 rfl rfl (rfl) (rfl) (Nat.le_of_ble_eq_true rfl) rfl dW_goOn_36 (fun H locs hE => ?_)
    exact w_retv C hE (by rw [goM]; simp only [c1, if_true, if_false, Bool.false_eq_true]) dW_goOn_39
set_option maxHeartbeats 4000000 in
set_option maxRecDepth 100000 in
theorem lp_W_tell {p : Program} {l : Launch} {e : Env} {s : State} {m : MethodId} {below : List Frame} {meth : Method} {c : Code} {D : va_G} {cs : Nat → ClassId} {ad : Nat → Nat} {A : Nat → Prop} {σ : Mem} {P S n9 : Nat} {v : Int32} {j : Nat} (C : bC p s m ([.ref (ad 5), .int v, .int (nI j)] : List Value).toArray meth c bW_tell 4 "EarleyChart$Witness" none) (hk : wk D cs s) (hA : ∀ q : Nat, s.heap.size ≤ q → A q) (ht : tS σ P S n9) (hj : j ≤ n9)   :
    ∀ (n : Nat) (i : Nat) (μ : Mem), (1000000 - i) < n → (i ≤ 1000000) → (∃ d0 c9, wI μ P S n9 d0 c9) → (tellF P S n9 (1000000 - i) μ = tellF P S n9 1000000 (openM (mset (mset σ 5 3 (nI 0)) 5 7 (nI 0)) P n9 v 0 j 0 0)) → ∀ (H : Heap) (locs : List Loc) (ls : Array Slot), wS (wE D cs ad) A s.heap μ H locs → lv_has ls 4 [(0, .ref (ad 5)), (1, .int v), (2, .int (nI j)), (3, .int (nI i))] → W p l e (rmF 5 122) s m ([.ref (ad 5), .int v, .int (nI j)] : List Value).toArray below meth c H locs 0 0 (wQv (wE D cs ad) A (fun τ => τ = tellF P S n9 1000000 (openM (mset (mset σ 5 3 (nI 0)) 5 7 (nI 0)) P n9 v 0 j 0 0)) s below ([.ref (ad 5), .int v, .int (nI j)] : List Value).toArray) (F0 m 19 ls []) := by
  obtain ⟨hx, hb, hml, hown, hts, hr, hlocks⟩ := id C
  have hg := ht.1
  have hn9 := ht.2.1
  have hln := ht.2.2
  have hP8 := hg.1
  have hS24 := hg.2.1
  intro n
  induction n with
  | zero => intro i μ h; exact absurd h (Nat.not_lt_zero _)
  | succ n ih =>
    intro i μ hn hi hwe hres H locs ls hE hl
    obtain ⟨d0, c9, hwμ0⟩ := hwe
    have hd054 := hwμ0.2.1
    refine lv_aload_n hx hb dW_tell_19 rfl (lv_at hl 0 rfl) ?_
    refine w_get C hk hE (K := R_W) (T := F_W) (N := 8) (ci := 4) in_W 5 (Nat.le_of_ble_eq_true rfl) rfl rfl 7 (by decide) tw_131 rfl rfl dW_tell_20 ?_
    refine w_top (y := nI d0) (hwμ0.2.2.2.1) ?_
    refine lv_if_le (tgt := 42) hx hb dW_tell_23 (by decide) (fun c1 => ?_) (fun c1 => ?_)
    · have c1 := w_le0 (by omega) c1
      exact w_retv C hE (by rw [← hres]; first | (rw [show 1000000 - i = 0 by omega]; rfl) | exact (tellF_stop (by unfold wd; rw [hwμ0.2.2.2.1, nI_clamp (by omega)]; omega) _).symm) dW_tell_42
    · have c1 := w_nle0 (by omega) c1
      refine lv_iload_n hx hb dW_tell_26 rfl (lv_at hl 3 rfl) ?_
      refine lv_ldc (v := nI 1000000) hx hb hown (hts _ tw_497) dW_tell_27 ?_
      refine lv_icmp_ge (tgt := 42) hx hb dW_tell_29 (by decide) (fun c2 => ?_) (fun c2 => ?_)
      · have c2 : 1000000 ≤ i := (nI_leI (by omega) (by omega)).mp c2
        exact w_retv C hE (by rw [← hres]; first | (rw [show 1000000 - i = 0 by omega]; rfl) | exact (tellF_stop (by unfold wd; rw [hwμ0.2.2.2.1, nI_clamp (by omega)]; omega) _).symm) dW_tell_42
      · have c2 : ¬ (1000000 ≤ i) := fun h => c2 ((nI_leI (by omega) (by omega)).mpr h)
        obtain ⟨d9, rfl⟩ : ∃ u, d0 = u + 1 := ⟨d0 - 1, by omega⟩
        have hwμ := hwμ0
        obtain ⟨t9, a9, b9, q1, q2, q3, q4, q5, q6⟩ := hwμ.2.2.2.2.2 d9 (by omega)
        refine lv_aload_n hx hb dW_tell_32 rfl (lv_at hl 0 rfl) ?_
        refine w_cv hE hA (w_runV C hk hE hl.1 (As := []) (rest := []) (q := 5) (c_W_goOn l D cs ad μ P S n9 d9 t9 a9 b9 c9 hwμ.1 hwμ.2.2.2.1 hwμ.2.1 hwμ.2.2.2.2.1 hwμ.2.2.1 q4 q5 q6 q1 q2 q3 _) (Nat.le_of_ble_eq_true rfl) (ci := 4) (N := 8) (T := F_W) rfl rfl tw_498 tw_500 ts_14 tw_6 tw_501 (n := 0) (by decide +kernel) rfl rfl (Nat.le_of_ble_eq_true rfl) dW_tell_33 ⟨Nat.le_of_ble_eq_true rfl, Nat.le_of_ble_eq_true rfl⟩ ⟨Nat.zero_le _, Nat.zero_le _⟩) (fun τ4 H locs hp hE _ _ => ?_)
        have hE := wS_eq (hp.trans (goT_eq hwμ q4 q5 q6 q1 q2 q3)) hE
        refine lv_iinc (v := nI (i + 1)) (lv' := [(3, .int (nI (i + 1))), (0, .ref (ad 5)), (1, .int v), (2, .int (nI j))]) hx hb dW_tell_36 hl (k := 3) rfl (by exact nI_1 _) (by decide) rfl (fun ls hl => ?_)
        refine lv_goto (tgt := 19) hx hb dW_tell_39 (by decide) ?_
        exact ih (i + 1) (goT P S n9 μ) (by omega) (by omega) (by rw [← goT_eq hwμ q4 q5 q6 q1 q2 q3]; exact goM_wI hwμ q4 q5 q6 q1 q2 q3) (by rw [← hres, show 1000000 - i = (1000000 - (i + 1)) + 1 by omega, tellF, if_pos (by unfold wd; rw [hwμ.2.2.2.1, nI_clamp (by omega)]; omega)]) _ _ ls hE (lv_sub hl [1, 2, 3, 0] rfl)
set_option maxHeartbeats 4000000 in
set_option maxRecDepth 100000 in
theorem c_W_tell (l : Launch) (D : va_G) (cs : Nat → ClassId) (ad : Nat → Nat) (σ : Mem) (P S n9 : Nat) (v : Int32) (j : Nat) (ht : tS σ P S n9) (hj : j ≤ n9) : MetV l (wE D cs ad) cs yW_tell bW_tell 4 5 122 [.ref (ad 5), .int v, .int (nI j)] σ (fun τ => τ = tellF P S n9 1000000 (openM (mset (mset σ 5 3 (nI 0)) 5 7 (nI 0)) P n9 v 0 j 0 0)) := by
  refine MetV.start (by decide) (Nat.le_of_ble_eq_true rfl) ?_
  intro p e s m below meth c A ls C hk hA hE hl
  obtain ⟨hx, hb, hml, hown, hts, hr, hlocks⟩ := id C
  have hl : lv_has ls 4 [(0, .ref (ad 5)), (1, .int v), (2, .int (nI j))] := hl
  have hg := ht.1
  have hn9 := ht.2.1
  have hln := ht.2.2
  have hP8 := hg.1
  have hS24 := hg.2.1
  refine lv_aload_n hx hb dW_tell_0 rfl (lv_at hl 0 rfl) ?_
  refine lv_iconst (v := nI 0) hx hb dW_tell_1 (by decide) ?_
  refine w_put C hk hE (K := R_W) (T := F_W) (N := 8) (ci := 4) in_W ft_W_ok fn_W 5 (Nat.le_of_ble_eq_true rfl) rfl rfl 3 (by decide) tw_126 rfl rfl (rfl) (rfl) (Nat.le_of_ble_eq_true rfl) rfl dW_tell_2 (fun H locs hE => ?_)
  refine lv_aload_n hx hb dW_tell_5 rfl (lv_at hl 0 rfl) ?_
  refine lv_iconst (v := nI 0) hx hb dW_tell_6 (by decide) ?_
  refine w_put C hk hE (K := R_W) (T := F_W) (N := 8) (ci := 4) in_W ft_W_ok fn_W 5 (Nat.le_of_ble_eq_true rfl) rfl rfl 7 (by decide) tw_131 rfl rfl (rfl) (rfl) (Nat.le_of_ble_eq_true rfl) rfl dW_tell_7 (fun H locs hE => ?_)
  refine lv_aload_n hx hb dW_tell_10 rfl (lv_at hl 0 rfl) ?_
  refine lv_iload_n hx hb dW_tell_11 rfl (lv_at hl 1 rfl) ?_
  refine lv_iconst (v := nI 0) hx hb dW_tell_12 (by decide) ?_
  refine lv_iload_n hx hb dW_tell_13 rfl (lv_at hl 2 rfl) ?_
  refine w_cv hE hA (w_runV C hk hE hl.1 (As := [.int v, .int (nI 0), .int (nI j)]) (rest := []) (q := 5) (c_W_open l D cs ad (mset (mset σ 5 3 (nI 0)) 5 7 (nI 0)) P S n9 v 0 j 0 0 (tS_low ht (fun q h5 _ => by rw [mset_n h5, mset_n h5])) (by omega) (by omega) mset_s (by rw [mset_i (by decide), mset_s]) (by decide) (by decide) _) (Nat.le_of_ble_eq_true rfl) (ci := 4) (N := 8) (T := F_W) rfl rfl tw_487 tw_489 ts_12 tw_6 tw_490 (n := 3) (by decide +kernel) rfl rfl (Nat.le_of_ble_eq_true rfl) dW_tell_14 ⟨Nat.le_of_ble_eq_true rfl, Nat.le_of_ble_eq_true rfl⟩ ⟨Nat.zero_le _, Nat.zero_le _⟩) (fun τ2 H locs hp hE _ _ => ?_)
  have hE := wS_eq hp hE
  refine lv_iconst (v := nI 0) hx hb dW_tell_17 (by decide) ?_
  refine lv_istore_n (lv' := [(3, .int (nI 0)), (0, .ref (ad 5)), (1, .int v), (2, .int (nI j))]) hx hb dW_tell_18 rfl hl (by decide) rfl (fun ls hl => ?_)
  exact lp_W_tell C hk hA ht hj _ 0 (openM (mset (mset σ 5 3 (nI 0)) 5 7 (nI 0)) P n9 v 0 j 0 0) (Nat.lt_succ_self _) (by decide) (openM_wI (d := 0) (c := 0) ⟨tS_low ht (fun q h5 _ => by rw [mset_n h5, mset_n h5]), by decide, by decide, mset_s, by rw [mset_i (by decide), mset_s], fun e he => absurd he (Nat.not_lt_zero _)⟩ (Nat.zero_le _) hj) (rfl) _ _ ls hE (lv_sub hl [1, 2, 3, 0] rfl)
