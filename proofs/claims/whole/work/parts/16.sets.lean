set_option maxHeartbeats 4000000 in
set_option maxRecDepth 100000 in
theorem lp_S_predict {p : Program} {l : Launch} {e : Env} {s : State} {m : MethodId} {below : List Frame} {meth : Method} {c : Code} {D : va_G} {cs : Nat → ClassId} {ad : Nat → Nat} {A : Nat → Prop} {σ : Mem} {k P S : Nat} {v : Int32} (C : bC p s m ([.ref (ad 3), .int (nI k), .int v] : List Value).toArray meth c bS_predict 4 "EarleyChart$ItemSets" none) (hk : wk D cs s) (hA : ∀ q : Nat, s.heap.size ≤ q → A q) (hk9 : k < 9) (hg : gS σ P S)   :
    ∀ (n : Nat) (i : Nat), (P - i) < n → (i ≤ P) → ∀ (H : Heap) (locs : List Loc) (ls : Array Slot), wS (wE D cs ad) A s.heap (mrow σ (k + 19) (predR (σ 6) (gf σ) k v (σ (k + 19)) i)) H locs → lv_has ls 4 [(0, .ref (ad 3)), (1, .int (nI k)), (2, .int v), (3, .int (nI i))] → W p l e (rmF 0 0) s m ([.ref (ad 3), .int (nI k), .int v] : List Value).toArray below meth c H locs 0 0 (wQv (wE D cs ad) A (fun τ => τ = mrow σ (k + 19) (predR (σ 6) (gf σ) k v (σ (k + 19)) P)) s below ([.ref (ad 3), .int (nI k), .int v] : List Value).toArray) (F0 m 2 ls []) := by
  obtain ⟨hx, hb, hml, hown, hts, hr, hlocks⟩ := id C
  have hP8 := hg.1
  have hS24 := hg.2.1
  intro n
  induction n with
  | zero => intro i h; exact absurd h (Nat.not_lt_zero _)
  | succ n ih =>
    intro i hn hi H locs ls hE hl
    refine lv_iload_n hx hb dS_predict_2 rfl (lv_at hl 3 rfl) ?_
    refine lv_aload_n hx hb dS_predict_3 rfl (lv_at hl 0 rfl) ?_
    refine w_get C hk hE (K := R_S) (T := F_S) (N := 3) (ci := 2) in_S 3 (Nat.le_of_ble_eq_true rfl) rfl rfl 0 (by decide) tw_106 rfl rfl dS_predict_4 ?_
    refine w_get C hk hE (K := R_G) (T := F_G) (N := 6) (ci := 0) in_G 1 (Nat.le_of_ble_eq_true rfl) rfl rfl 4 (by decide) tw_44 rfl rfl dS_predict_7 ?_
    refine w_top (y := σ 1 4) (by simp [mset, mrow, upd]) ?_
    refine w_top (y := nI P) (hg.2.2.1) ?_
    refine lv_icmp_ge (tgt := 54) hx hb dS_predict_10 (by decide) (fun c1 => ?_) (fun c1 => ?_)
    · have c1 : P ≤ i := (nI_leI (by omega) (by omega)).mp c1
      exact w_retv C hE (by rw [show P = i by omega]) dS_predict_54
    · have c1 : ¬ (P ≤ i) := fun h => c1 ((nI_leI (by omega) (by omega)).mpr h)
      obtain ⟨h6, h6b, h7, h7b⟩ := hg.2.2.2.2.1 i (by omega)
      refine lv_aload_n hx hb dS_predict_13 rfl (lv_at hl 0 rfl) ?_
      refine w_get C hk hE (K := R_S) (T := F_S) (N := 3) (ci := 2) in_S 3 (Nat.le_of_ble_eq_true rfl) rfl rfl 0 (by decide) tw_106 rfl rfl dS_predict_14 ?_
      refine w_get C hk hE (K := R_G) (T := F_G) (N := 6) (ci := 0) in_G 1 (Nat.le_of_ble_eq_true rfl) rfl rfl 0 (by decide) tw_33 rfl rfl dS_predict_17 ?_
      refine lv_iload_n hx hb dS_predict_20 rfl (lv_at hl 3 rfl) ?_
      refine w_iald C hk hE 6 (by exact Nat.le_of_ble_eq_true rfl) (n := 8) rfl (by omega) (by first | decide | omega) dS_predict_21 ?_
      refine w_top (y := σ 6 i) (by simp [mset, mrow, upd]) ?_
      refine lv_iload_n hx hb dS_predict_22 rfl (lv_at hl 2 rfl) ?_
      refine lv_icmp_ne (tgt := 48) hx hb dS_predict_23 (by decide) (fun c2 => ?_) (fun c2 => ?_)
      · refine lv_iinc (v := nI (i + 1)) (lv' := [(3, .int (nI (i + 1))), (0, .ref (ad 3)), (1, .int (nI k)), (2, .int v)]) hx hb dS_predict_48 hl (k := 3) rfl (by exact nI_1 _) (by decide) rfl (fun ls hl => ?_)
        refine lv_goto (tgt := 2) hx hb dS_predict_51 (by decide) ?_
        exact ih (i + 1) (by omega) (by omega) _ _ ls (wS_eq (show mrow σ (k + 19) (predR (σ 6) (gf σ) k v (σ (k + 19)) i) = mrow σ (k + 19) (predR (σ 6) (gf σ) k v (σ (k + 19)) (i + 1)) by simp only [predR, bitK, c2, if_true, if_false]) hE) (lv_sub hl [1, 2, 3, 0] rfl)
      · refine lv_aload_n hx hb dS_predict_26 rfl (lv_at hl 0 rfl) ?_
        refine w_get C hk hE (K := R_S) (T := F_S) (N := 3) (ci := 2) in_S 3 (Nat.le_of_ble_eq_true rfl) rfl rfl 1 (by decide) tw_107 rfl rfl dS_predict_27 ?_
        refine lv_iload_n hx hb dS_predict_30 rfl (lv_at hl 1 rfl) ?_
        refine w_aald C hk hE 11 (Nat.le_of_ble_eq_true rfl) (n := 9) (b := ad (k + 19)) rfl (by omega) (by decide) rfl dS_predict_31 ?_
        refine lv_aload_n hx hb dS_predict_32 rfl (lv_at hl 0 rfl) ?_
        refine w_get C hk hE (K := R_S) (T := F_S) (N := 3) (ci := 2) in_S 3 (Nat.le_of_ble_eq_true rfl) rfl rfl 0 (by decide) tw_106 rfl rfl dS_predict_33 ?_
        refine w_get C hk hE (K := R_G) (T := F_G) (N := 6) (ci := 0) in_G 1 (Nat.le_of_ble_eq_true rfl) rfl rfl 1 (by decide) tw_36 rfl rfl dS_predict_36 ?_
        refine lv_iload_n hx hb dS_predict_39 rfl (lv_at hl 3 rfl) ?_
        refine w_iald C hk hE 7 (by exact Nat.le_of_ble_eq_true rfl) (n := 8) rfl (by omega) (by first | decide | omega) dS_predict_40 ?_
        refine w_top (y := σ 7 i) (by simp [mset, mrow, upd]) ?_
        refine w_top (y := nI (gf σ i)) (h7) ?_
        refine lv_dup2_11 hx hb dS_predict_41 rfl rfl ?_
        refine w_iald C hk hE (k + 19) (by show _ < 58; omega) (n := 24) (cE_o (ad := ad) (by omega)) (by omega) (by first | decide | omega) dS_predict_42 ?_
        refine w_top (y := (predR (σ 6) (gf σ) k v (σ (k + 19)) i) (gf σ i)) (by simp [mset, mrow, upd]) ?_
        refine lv_iconst (v := nI 1) hx hb dS_predict_43 (by decide) ?_
        refine lv_iload_n hx hb dS_predict_44 rfl (lv_at hl 1 rfl) ?_
        refine lv_ishl hx hb dS_predict_45 ?_
        refine lv_ior hx hb dS_predict_46 ?_
        refine w_iast C hk hE (k + 19) (by show _ < 58; omega) (n := 24) (fun _ => cE_o (ad := ad) (by omega)) (by omega) (by first | decide | omega) dS_predict_47 (fun H locs hE => ?_)
        rw [mset_mrow] at hE
        refine lv_iinc (v := nI (i + 1)) (lv' := [(3, .int (nI (i + 1))), (0, .ref (ad 3)), (1, .int (nI k)), (2, .int v)]) hx hb dS_predict_48 hl (k := 3) rfl (by exact nI_1 _) (by decide) rfl (fun ls hl => ?_)
        refine lv_goto (tgt := 2) hx hb dS_predict_51 (by decide) ?_
        exact ih (i + 1) (by omega) (by omega) _ _ ls (wS_eq (show mrow σ (k + 19) (upd (predR (σ 6) (gf σ) k v (σ (k + 19)) i) (gf σ i) (((predR (σ 6) (gf σ) k v (σ (k + 19)) i) (gf σ i)) ||| ((nI 1) <<< ((nI k) &&& 31)))) = mrow σ (k + 19) (predR (σ 6) (gf σ) k v (σ (k + 19)) (i + 1)) by simp only [predR, bitK, c2, if_true, if_false]) hE) (lv_sub hl [1, 2, 3, 0] rfl)
set_option maxHeartbeats 4000000 in
set_option maxRecDepth 100000 in
theorem c_S_predict (l : Launch) (D : va_G) (cs : Nat → ClassId) (ad : Nat → Nat) (σ : Mem) (k P S : Nat) (v : Int32) (hk9 : k < 9) (hg : gS σ P S) : MetV l (wE D cs ad) cs yS_predict bS_predict 4 0 0 [.ref (ad 3), .int (nI k), .int v] σ (fun τ => τ = mrow σ (k + 19) (predR (σ 6) (gf σ) k v (σ (k + 19)) P)) := by
  refine MetV.start (by decide) (Nat.le_of_ble_eq_true rfl) ?_
  intro p e s m below meth c A ls C hk hA hE hl
  obtain ⟨hx, hb, hml, hown, hts, hr, hlocks⟩ := id C
  have hl : lv_has ls 4 [(0, .ref (ad 3)), (1, .int (nI k)), (2, .int v)] := hl
  have hP8 := hg.1
  have hS24 := hg.2.1
  refine lv_iconst (v := nI 0) hx hb dS_predict_0 (by decide) ?_
  refine lv_istore_n (lv' := [(3, .int (nI 0)), (0, .ref (ad 3)), (1, .int (nI k)), (2, .int v)]) hx hb dS_predict_1 rfl hl (by decide) rfl (fun ls hl => ?_)
  exact lp_S_predict C hk hA hk9 hg _ 0 (Nat.lt_succ_self _) (Nat.zero_le _) _ _ ls (wS_eq (show σ = mrow σ (k + 19) (predR (σ 6) (gf σ) k v (σ (k + 19)) 0) by rw [predR, mrow_id]) hE) (lv_sub hl [1, 2, 3, 0] rfl)
set_option maxHeartbeats 4000000 in
set_option maxRecDepth 100000 in
theorem lp_S_originsIn {p : Program} {l : Launch} {e : Env} {s : State} {m : MethodId} {below : List Frame} {meth : Method} {c : Code} {D : va_G} {cs : Nat → ClassId} {ad : Nat → Nat} {A : Nat → Prop} {σ : Mem} {t : Nat} {x : Int32} (C : bC p s m ([.ref (ad 3), .int x, .int (nI t)] : List Value).toArray meth c bS_originsIn 5 "EarleyChart$ItemSets" (some .int)) (hk : wk D cs s) (hA : ∀ q : Nat, s.heap.size ≤ q → A q) (ht : t < 24)   :
    ∀ (n : Nat) (j : Nat), (9 - j) < n → (j ≤ 9) → ∀ (H : Heap) (locs : List Loc) (ls : Array Slot), wS (wE D cs ad) A s.heap σ H locs → lv_has ls 5 [(0, .ref (ad 3)), (1, .int x), (2, .int (nI t)), (3, .int (orgF σ x t j)), (4, .int (nI j))] → W p l e (rmF 0 0) s m ([.ref (ad 3), .int x, .int (nI t)] : List Value).toArray below meth c H locs 0 0 (wQi (wE D cs ad) A (fun r τ => r = orgF σ x t 9 ∧ τ = σ) s below ([.ref (ad 3), .int x, .int (nI t)] : List Value).toArray) (F0 m 5 ls []) := by
  obtain ⟨hx, hb, hml, hown, hts, hr, hlocks⟩ := id C
  intro n
  induction n with
  | zero => intro j h; exact absurd h (Nat.not_lt_zero _)
  | succ n ih =>
    intro j hn hj H locs ls hE hl
    refine lv_iload hx hb dS_originsIn_5 (lv_at hl 4 rfl) ?_
    refine lv_bipush (v := nI 9) hx hb dS_originsIn_7 (by decide) ?_
    refine lv_icmp_ge (tgt := 39) hx hb dS_originsIn_9 (by decide) (fun c1 => ?_) (fun c1 => ?_)
    · have c1 : 9 ≤ j := (nI_leI (by omega) (by omega)).mp c1
      refine lv_iload_n hx hb dS_originsIn_39 rfl (lv_at hl 3 rfl) ?_
      exact w_reti C hE (⟨by rw [show 9 = j by omega], rfl⟩) dS_originsIn_40
    · have c1 : ¬ (9 ≤ j) := fun h => c1 ((nI_leI (by omega) (by omega)).mpr h)
      refine lv_iload_n hx hb dS_originsIn_12 rfl (lv_at hl 1 rfl) ?_
      refine lv_iload hx hb dS_originsIn_13 (lv_at hl 4 rfl) ?_
      refine lv_ishr hx hb dS_originsIn_15 ?_
      refine lv_iconst (v := nI 1) hx hb dS_originsIn_16 (by decide) ?_
      refine lv_iand hx hb dS_originsIn_17 ?_
      refine lv_if_eq (tgt := 33) hx hb dS_originsIn_18 (by decide) (fun c2 => ?_) (fun c2 => ?_)
      · refine lv_iinc (v := nI (j + 1)) (lv' := [(4, .int (nI (j + 1))), (0, .ref (ad 3)), (1, .int x), (2, .int (nI t)), (3, .int (orgF σ x t j))]) hx hb dS_originsIn_33 hl (k := 4) rfl (by exact nI_1 _) (by decide) rfl (fun ls hl => ?_)
        refine lv_goto (tgt := 5) hx hb dS_originsIn_36 (by decide) ?_
        have ev3 : (orgF σ x t j : Int32) = orgF σ x t (j + 1) := by simp only [orgF, bitJ, c2, if_true, if_false]
        rw [ev3] at hl
        exact ih (j + 1) (by omega) (by omega) _ _ ls hE (lv_sub hl [1, 2, 3, 4, 0] rfl)
      · refine lv_iload_n hx hb dS_originsIn_21 rfl (lv_at hl 3 rfl) ?_
        refine lv_aload_n hx hb dS_originsIn_22 rfl (lv_at hl 0 rfl) ?_
        refine w_get C hk hE (K := R_S) (T := F_S) (N := 3) (ci := 2) in_S 3 (Nat.le_of_ble_eq_true rfl) rfl rfl 1 (by decide) tw_107 rfl rfl dS_originsIn_23 ?_
        refine lv_iload hx hb dS_originsIn_26 (lv_at hl 4 rfl) ?_
        refine w_aald C hk hE 11 (Nat.le_of_ble_eq_true rfl) (n := 9) (b := ad (j + 19)) rfl (by omega) (by decide) rfl dS_originsIn_28 ?_
        refine lv_iload_n hx hb dS_originsIn_29 rfl (lv_at hl 2 rfl) ?_
        refine w_iald C hk hE (j + 19) (by show _ < 58; omega) (n := 24) (cE_o (ad := ad) (by omega)) (by omega) (by first | decide | omega) dS_originsIn_30 ?_
        refine lv_ior hx hb dS_originsIn_31 ?_
        refine lv_istore_n (lv' := [(3, .int ((orgF σ x t j) ||| (σ (j + 19) t))), (0, .ref (ad 3)), (1, .int x), (2, .int (nI t)), (4, .int (nI j))]) hx hb dS_originsIn_32 rfl hl (by decide) rfl (fun ls hl => ?_)
        refine lv_iinc (v := nI (j + 1)) (lv' := [(4, .int (nI (j + 1))), (3, .int ((orgF σ x t j) ||| (σ (j + 19) t))), (0, .ref (ad 3)), (1, .int x), (2, .int (nI t))]) hx hb dS_originsIn_33 hl (k := 4) rfl (by exact nI_1 _) (by decide) rfl (fun ls hl => ?_)
        refine lv_goto (tgt := 5) hx hb dS_originsIn_36 (by decide) ?_
        have ev4 : ((orgF σ x t j) ||| (σ (j + 19) t) : Int32) = orgF σ x t (j + 1) := by simp only [orgF, bitJ, c2, if_true, if_false]
        rw [ev4] at hl
        exact ih (j + 1) (by omega) (by omega) _ _ ls hE (lv_sub hl [2, 3, 4, 1, 0] rfl)
set_option maxHeartbeats 4000000 in
set_option maxRecDepth 100000 in
theorem c_S_originsIn (l : Launch) (D : va_G) (cs : Nat → ClassId) (ad : Nat → Nat) (σ : Mem) (t : Nat) (x : Int32) (ht : t < 24) : MetI l (wE D cs ad) cs yS_originsIn bS_originsIn 5 (some .int) 0 0 [.ref (ad 3), .int x, .int (nI t)] σ (fun r τ => r = orgF σ x t 9 ∧ τ = σ) := by
  refine MetI.start (by decide) (Nat.le_of_ble_eq_true rfl) ?_
  intro p e s m below meth c A ls C hk hA hE hl
  obtain ⟨hx, hb, hml, hown, hts, hr, hlocks⟩ := id C
  have hl : lv_has ls 5 [(0, .ref (ad 3)), (1, .int x), (2, .int (nI t))] := hl
  refine lv_iconst (v := nI 0) hx hb dS_originsIn_0 (by decide) ?_
  refine lv_istore_n (lv' := [(3, .int (nI 0)), (0, .ref (ad 3)), (1, .int x), (2, .int (nI t))]) hx hb dS_originsIn_1 rfl hl (by decide) rfl (fun ls hl => ?_)
  refine lv_iconst (v := nI 0) hx hb dS_originsIn_2 (by decide) ?_
  refine lv_istore (lv' := [(4, .int (nI 0)), (3, .int (nI 0)), (0, .ref (ad 3)), (1, .int x), (2, .int (nI t))]) hx hb dS_originsIn_3 hl (by decide) rfl (fun ls hl => ?_)
  have ev1 : (nI 0 : Int32) = orgF σ x t 0 := by rfl
  rw [ev1] at hl
  exact lp_S_originsIn C hk hA ht _ 0 (Nat.lt_succ_self _) (by decide) _ _ ls hE (lv_sub hl [2, 3, 4, 1, 0] rfl)
set_option maxHeartbeats 4000000 in
set_option maxRecDepth 100000 in
theorem lp_S_size {p : Program} {l : Launch} {e : Env} {s : State} {m : MethodId} {below : List Frame} {meth : Method} {c : Code} {D : va_G} {cs : Nat → ClassId} {ad : Nat → Nat} {A : Nat → Prop} {σ : Mem} {k S : Nat} (C : bC p s m ([.ref (ad 3), .int (nI k)] : List Value).toArray meth c bS_size 4 "EarleyChart$ItemSets" (some .int)) (hk : wk D cs s) (hA : ∀ q : Nat, s.heap.size ≤ q → A q) (hk9 : k < 9) (h15 : σ 1 5 = nI S) (hS24 : S ≤ 24)   :
    ∀ (n : Nat) (i : Nat), (S - i) < n → (i ≤ S) → ∀ (H : Heap) (locs : List Loc) (ls : Array Slot), wS (wE D cs ad) A s.heap σ H locs → lv_has ls 4 [(0, .ref (ad 3)), (1, .int (nI k)), (2, .int (sizF (σ (k + 19)) i)), (3, .int (nI i))] → W p l e (rmF 1 20) s m ([.ref (ad 3), .int (nI k)] : List Value).toArray below meth c H locs 0 0 (wQi (wE D cs ad) A (fun r τ => r = sizF (σ (k + 19)) S ∧ τ = σ) s below ([.ref (ad 3), .int (nI k)] : List Value).toArray) (F0 m 4 ls []) := by
  obtain ⟨hx, hb, hml, hown, hts, hr, hlocks⟩ := id C
  intro n
  induction n with
  | zero => intro i h; exact absurd h (Nat.not_lt_zero _)
  | succ n ih =>
    intro i hn hi H locs ls hE hl
    refine lv_iload_n hx hb dS_size_4 rfl (lv_at hl 3 rfl) ?_
    refine lv_aload_n hx hb dS_size_5 rfl (lv_at hl 0 rfl) ?_
    refine w_get C hk hE (K := R_S) (T := F_S) (N := 3) (ci := 2) in_S 3 (Nat.le_of_ble_eq_true rfl) rfl rfl 0 (by decide) tw_106 rfl rfl dS_size_6 ?_
    refine w_get C hk hE (K := R_G) (T := F_G) (N := 6) (ci := 0) in_G 1 (Nat.le_of_ble_eq_true rfl) rfl rfl 5 (by decide) tw_48 rfl rfl dS_size_9 ?_
    refine w_top (y := nI S) (h15) ?_
    refine lv_icmp_ge (tgt := 35) hx hb dS_size_12 (by decide) (fun c1 => ?_) (fun c1 => ?_)
    · have c1 : S ≤ i := (nI_leI (by omega) (by omega)).mp c1
      refine lv_iload_n hx hb dS_size_35 rfl (lv_at hl 2 rfl) ?_
      exact w_reti C hE (⟨by rw [show S = i by omega], rfl⟩) dS_size_36
    · have c1 : ¬ (S ≤ i) := fun h => c1 ((nI_leI (by omega) (by omega)).mpr h)
      refine lv_iload_n hx hb dS_size_15 rfl (lv_at hl 2 rfl) ?_
      refine lv_aload_n hx hb dS_size_16 rfl (lv_at hl 0 rfl) ?_
      refine w_get C hk hE (K := R_S) (T := F_S) (N := 3) (ci := 2) in_S 3 (Nat.le_of_ble_eq_true rfl) rfl rfl 1 (by decide) tw_107 rfl rfl dS_size_17 ?_
      refine lv_iload_n hx hb dS_size_20 rfl (lv_at hl 1 rfl) ?_
      refine w_aald C hk hE 11 (Nat.le_of_ble_eq_true rfl) (n := 9) (b := ad (k + 19)) rfl (by omega) (by decide) rfl dS_size_21 ?_
      refine lv_iload_n hx hb dS_size_22 rfl (lv_at hl 3 rfl) ?_
      refine w_iald C hk hE (k + 19) (by show _ < 58; omega) (n := 24) (cE_o (ad := ad) (by omega)) (by omega) (by first | decide | omega) dS_size_23 ?_
      refine w_ci hE hA (w_runS C hk hE hl.1 (As := [.int (σ (k + 19) i)]) (rest := [.int (sizF (σ (k + 19)) i)]) (c_J_bitCount l D cs ad σ (σ (k + 19) i) _) tw_180 tw_181 tw_8 tw_182 (n := 1) (by decide +kernel) rfl rfl (Nat.le_of_ble_eq_true rfl) dS_size_24 ⟨Nat.le_of_ble_eq_true rfl, Nat.le_of_ble_eq_true rfl⟩ ⟨Nat.zero_le _, Nat.zero_le _⟩) (fun r2 τ3 H locs hp hE _ _ => ?_)
      refine w_top hp.1 ?_
      have hE := wS_eq hp.2 hE
      refine lv_iadd hx hb dS_size_27 ?_
      refine lv_istore_n (lv' := [(2, .int ((sizF (σ (k + 19)) i) + (popc (σ (k + 19) i)))), (0, .ref (ad 3)), (1, .int (nI k)), (3, .int (nI i))]) hx hb dS_size_28 rfl hl (by decide) rfl (fun ls hl => ?_)
      refine lv_iinc (v := nI (i + 1)) (lv' := [(3, .int (nI (i + 1))), (2, .int ((sizF (σ (k + 19)) i) + (popc (σ (k + 19) i)))), (0, .ref (ad 3)), (1, .int (nI k))]) hx hb dS_size_29 hl (k := 3) rfl (by exact nI_1 _) (by decide) rfl (fun ls hl => ?_)
      refine lv_goto (tgt := 4) hx hb dS_size_32 (by decide) ?_
      have ev4 : ((sizF (σ (k + 19)) i) + (popc (σ (k + 19) i)) : Int32) = sizF (σ (k + 19)) (i + 1) := by rfl
      rw [ev4] at hl
      exact ih (i + 1) (by omega) (by omega) _ _ ls hE (lv_sub hl [2, 3, 1, 0] rfl)
set_option maxHeartbeats 4000000 in
set_option maxRecDepth 100000 in
theorem c_S_size (l : Launch) (D : va_G) (cs : Nat → ClassId) (ad : Nat → Nat) (σ : Mem) (k S : Nat) (hk9 : k < 9) (h15 : σ 1 5 = nI S) (hS24 : S ≤ 24) : MetI l (wE D cs ad) cs yS_size bS_size 4 (some .int) 1 20 [.ref (ad 3), .int (nI k)] σ (fun r τ => r = sizF (σ (k + 19)) S ∧ τ = σ) := by
  refine MetI.start (by decide) (Nat.le_of_ble_eq_true rfl) ?_
  intro p e s m below meth c A ls C hk hA hE hl
  obtain ⟨hx, hb, hml, hown, hts, hr, hlocks⟩ := id C
  have hl : lv_has ls 4 [(0, .ref (ad 3)), (1, .int (nI k))] := hl
  refine lv_iconst (v := nI 0) hx hb dS_size_0 (by decide) ?_
  refine lv_istore_n (lv' := [(2, .int (nI 0)), (0, .ref (ad 3)), (1, .int (nI k))]) hx hb dS_size_1 rfl hl (by decide) rfl (fun ls hl => ?_)
  refine lv_iconst (v := nI 0) hx hb dS_size_2 (by decide) ?_
  refine lv_istore_n (lv' := [(3, .int (nI 0)), (2, .int (nI 0)), (0, .ref (ad 3)), (1, .int (nI k))]) hx hb dS_size_3 rfl hl (by decide) rfl (fun ls hl => ?_)
  have ev1 : (nI 0 : Int32) = sizF (σ (k + 19)) 0 := by rfl
  rw [ev1] at hl
  exact lp_S_size C hk hA hk9 h15 hS24 _ 0 (Nat.lt_succ_self _) (Nat.zero_le _) _ _ ls hE (lv_sub hl [2, 3, 1, 0] rfl)
set_option maxHeartbeats 4000000 in
set_option maxRecDepth 100000 in
theorem lp_S_gather {p : Program} {l : Launch} {e : Env} {s : State} {m : MethodId} {below : List Frame} {meth : Method} {c : Code} {D : va_G} {cs : Nat → ClassId} {ad : Nat → Nat} {A : Nat → Prop} {σ : Mem} {k P S : Nat} (C : bC p s m ([.ref (ad 3), .int (nI k)] : List Value).toArray meth c bS_gatherWholeOrigins 3 "EarleyChart$ItemSets" none) (hk : wk D cs s) (hA : ∀ q : Nat, s.heap.size ≤ q → A q) (hk9 : k < 9) (hg : gS σ P S)   :
    ∀ (n : Nat) (t : Nat), (S - t) < n → (t ≤ S) → ∀ (H : Heap) (locs : List Loc) (ls : Array Slot), wS (wE D cs ad) A s.heap (mrow σ 12 (gathR σ (σ (k + 19)) t)) H locs → lv_has ls 3 [(0, .ref (ad 3)), (1, .int (nI k)), (2, .int (nI t))] → W p l e (rmF 1 23) s m ([.ref (ad 3), .int (nI k)] : List Value).toArray below meth c H locs 0 0 (wQv (wE D cs ad) A (fun τ => τ = mrow σ 12 (gathR σ (σ (k + 19)) S)) s below ([.ref (ad 3), .int (nI k)] : List Value).toArray) (F0 m 10 ls []) := by
  obtain ⟨hx, hb, hml, hown, hts, hr, hlocks⟩ := id C
  have hP8 := hg.1
  have hS24 := hg.2.1
  intro n
  induction n with
  | zero => intro t h; exact absurd h (Nat.not_lt_zero _)
  | succ n ih =>
    intro t hn hi H locs ls hE hl
    refine lv_iload_n hx hb dS_gatherWholeOrigins_10 rfl (lv_at hl 2 rfl) ?_
    refine lv_aload_n hx hb dS_gatherWholeOrigins_11 rfl (lv_at hl 0 rfl) ?_
    refine w_get C hk hE (K := R_S) (T := F_S) (N := 3) (ci := 2) in_S 3 (Nat.le_of_ble_eq_true rfl) rfl rfl 0 (by decide) tw_106 rfl rfl dS_gatherWholeOrigins_12 ?_
    refine w_get C hk hE (K := R_G) (T := F_G) (N := 6) (ci := 0) in_G 1 (Nat.le_of_ble_eq_true rfl) rfl rfl 5 (by decide) tw_48 rfl rfl dS_gatherWholeOrigins_15 ?_
    refine w_top (y := σ 1 5) (by simp [mset, mrow, upd]) ?_
    refine w_top (y := nI S) (hg.2.2.2.1) ?_
    refine lv_icmp_ge (tgt := 64) hx hb dS_gatherWholeOrigins_18 (by decide) (fun c1 => ?_) (fun c1 => ?_)
    · have c1 : S ≤ t := (nI_leI (by omega) (by omega)).mp c1
      exact w_retv C hE (by rw [show S = t by omega]) dS_gatherWholeOrigins_64
    · have c1 : ¬ (S ≤ t) := fun h => c1 ((nI_leI (by omega) (by omega)).mpr h)
      obtain ⟨h9, h9b, h9c⟩ := hg.2.2.2.2.2.1 t (by omega)
      obtain ⟨h6, h6b, h7, h7b⟩ := hg.2.2.2.2.1 (gp σ t) h9b
      refine lv_aload_n hx hb dS_gatherWholeOrigins_21 rfl (lv_at hl 0 rfl) ?_
      refine w_get C hk hE (K := R_S) (T := F_S) (N := 3) (ci := 2) in_S 3 (Nat.le_of_ble_eq_true rfl) rfl rfl 0 (by decide) tw_106 rfl rfl dS_gatherWholeOrigins_22 ?_
      refine w_get C hk hE (K := R_G) (T := F_G) (N := 6) (ci := 0) in_G 1 (Nat.le_of_ble_eq_true rfl) rfl rfl 2 (by decide) tw_38 rfl rfl dS_gatherWholeOrigins_25 ?_
      refine lv_iload_n hx hb dS_gatherWholeOrigins_28 rfl (lv_at hl 2 rfl) ?_
      refine w_iald C hk hE 8 (by exact Nat.le_of_ble_eq_true rfl) (n := 24) rfl (by omega) (by first | decide | omega) dS_gatherWholeOrigins_29 ?_
      refine w_top (y := σ 8 t) (by simp [mset, mrow, upd]) ?_
      refine lv_iconst (v := (-1)) hx hb dS_gatherWholeOrigins_30 (by decide) ?_
      refine lv_icmp_ne (tgt := 58) hx hb dS_gatherWholeOrigins_31 (by decide) (fun c2 => ?_) (fun c2 => ?_)
      · refine lv_iinc (v := nI (t + 1)) (lv' := [(2, .int (nI (t + 1))), (0, .ref (ad 3)), (1, .int (nI k))]) hx hb dS_gatherWholeOrigins_58 hl (k := 2) rfl (by exact nI_1 _) (by decide) rfl (fun ls hl => ?_)
        refine lv_goto (tgt := 10) hx hb dS_gatherWholeOrigins_61 (by decide) ?_
        exact ih (t + 1) (by omega) (by omega) _ _ ls (wS_eq (show mrow σ 12 (gathR σ (σ (k + 19)) t) = mrow σ 12 (gathR σ (σ (k + 19)) (t + 1)) by simp only [gathR, c2, if_true, if_false]) hE) (lv_sub hl [1, 2, 0] rfl)
      · refine lv_aload_n hx hb dS_gatherWholeOrigins_34 rfl (lv_at hl 0 rfl) ?_
        refine w_get C hk hE (K := R_S) (T := F_S) (N := 3) (ci := 2) in_S 3 (Nat.le_of_ble_eq_true rfl) rfl rfl 2 (by decide) tw_108 rfl rfl dS_gatherWholeOrigins_35 ?_
        refine lv_aload_n hx hb dS_gatherWholeOrigins_38 rfl (lv_at hl 0 rfl) ?_
        refine w_get C hk hE (K := R_S) (T := F_S) (N := 3) (ci := 2) in_S 3 (Nat.le_of_ble_eq_true rfl) rfl rfl 0 (by decide) tw_106 rfl rfl dS_gatherWholeOrigins_39 ?_
        refine lv_iload_n hx hb dS_gatherWholeOrigins_42 rfl (lv_at hl 2 rfl) ?_
        refine w_ci hE hA (w_runV C hk hE hl.1 (As := [.int (nI t)]) (rest := [.ref (ad 12)]) (q := 1) (c_G_leftSideAt l D cs ad (mrow σ 12 (gathR σ (σ (k + 19)) t)) t (gp σ t) (by omega) ((congrFun (mrow_n (by decide)) t).trans h9) (by omega) _) (Nat.le_of_ble_eq_true rfl) (ci := 0) (N := 6) (T := F_G) rfl rfl tw_190 tw_191 tw_192 tw_2 tw_193 (n := 1) (by decide +kernel) rfl rfl (Nat.le_of_ble_eq_true rfl) dS_gatherWholeOrigins_43 ⟨Nat.le_of_ble_eq_true rfl, Nat.le_of_ble_eq_true rfl⟩ ⟨Nat.zero_le _, Nat.zero_le _⟩) (fun r3 τ4 H locs hp hE _ _ => ?_)
        refine w_top (y := nI (gv σ (gp σ t))) (hp.1.trans ((congrFun (mrow_n (by decide)) _).trans h6)) ?_
        have hE := wS_eq hp.2 hE
        refine lv_dup2_11 hx hb dS_gatherWholeOrigins_46 rfl rfl ?_
        refine w_iald C hk hE 12 (by exact Nat.le_of_ble_eq_true rfl) (n := 6) rfl (by omega) (by first | decide | omega) dS_gatherWholeOrigins_47 ?_
        refine w_top (y := (gathR σ (σ (k + 19)) t) (gv σ (gp σ t))) (by simp [mset, mrow, upd]) ?_
        refine lv_aload_n hx hb dS_gatherWholeOrigins_48 rfl (lv_at hl 0 rfl) ?_
        refine w_get C hk hE (K := R_S) (T := F_S) (N := 3) (ci := 2) in_S 3 (Nat.le_of_ble_eq_true rfl) rfl rfl 1 (by decide) tw_107 rfl rfl dS_gatherWholeOrigins_49 ?_
        refine lv_iload_n hx hb dS_gatherWholeOrigins_52 rfl (lv_at hl 1 rfl) ?_
        refine w_aald C hk hE 11 (Nat.le_of_ble_eq_true rfl) (n := 9) (b := ad (k + 19)) rfl (by omega) (by decide) rfl dS_gatherWholeOrigins_53 ?_
        refine lv_iload_n hx hb dS_gatherWholeOrigins_54 rfl (lv_at hl 2 rfl) ?_
        refine w_iald C hk hE (k + 19) (by show _ < 58; omega) (n := 24) (cE_o (ad := ad) (by omega)) (by omega) (by first | decide | omega) dS_gatherWholeOrigins_55 ?_
        refine w_top (y := σ (k + 19) t) (by simp [mset, mrow, upd]) ?_
        refine lv_ior hx hb dS_gatherWholeOrigins_56 ?_
        refine w_iast C hk hE 12 (by exact Nat.le_of_ble_eq_true rfl) (n := 6) (fun _ => rfl) (by omega) (by first | decide | omega) dS_gatherWholeOrigins_57 (fun H locs hE => ?_)
        rw [mset_mrow] at hE
        refine lv_iinc (v := nI (t + 1)) (lv' := [(2, .int (nI (t + 1))), (0, .ref (ad 3)), (1, .int (nI k))]) hx hb dS_gatherWholeOrigins_58 hl (k := 2) rfl (by exact nI_1 _) (by decide) rfl (fun ls hl => ?_)
        refine lv_goto (tgt := 10) hx hb dS_gatherWholeOrigins_61 (by decide) ?_
        exact ih (t + 1) (by omega) (by omega) _ _ ls (wS_eq (show mrow σ 12 (upd (gathR σ (σ (k + 19)) t) (gv σ (gp σ t)) (((gathR σ (σ (k + 19)) t) (gv σ (gp σ t))) ||| (σ (k + 19) t))) = mrow σ 12 (gathR σ (σ (k + 19)) (t + 1)) by simp only [gathR, c2, if_true, if_false]) hE) (lv_sub hl [1, 2, 0] rfl)
set_option maxHeartbeats 4000000 in
set_option maxRecDepth 100000 in
theorem c_S_gatherWholeOrigins (l : Launch) (D : va_G) (cs : Nat → ClassId) (ad : Nat → Nat) (σ : Mem) (k P S : Nat) (hk9 : k < 9) (hg : gS σ P S) : MetV l (wE D cs ad) cs yS_gatherWholeOrigins bS_gatherWholeOrigins 3 1 23 [.ref (ad 3), .int (nI k)] σ (fun τ => τ = mrow σ 12 (gathR σ (σ (k + 19)) S)) := by
  refine MetV.start (by decide) (Nat.le_of_ble_eq_true rfl) ?_
  intro p e s m below meth c A ls C hk hA hE hl
  obtain ⟨hx, hb, hml, hown, hts, hr, hlocks⟩ := id C
  have hl : lv_has ls 3 [(0, .ref (ad 3)), (1, .int (nI k))] := hl
  have hP8 := hg.1
  have hS24 := hg.2.1
  refine lv_aload_n hx hb dS_gatherWholeOrigins_0 rfl (lv_at hl 0 rfl) ?_
  refine w_get C hk hE (K := R_S) (T := F_S) (N := 3) (ci := 2) in_S 3 (Nat.le_of_ble_eq_true rfl) rfl rfl 2 (by decide) tw_108 rfl rfl dS_gatherWholeOrigins_1 ?_
  refine lv_iconst (v := nI 0) hx hb dS_gatherWholeOrigins_4 (by decide) ?_
  refine w_cv hE hA (w_runS C hk hE hl.1 (As := [.ref (ad 12), .int (nI 0)]) (rest := []) (c_J_fill l D cs ad σ 12 6 (nI 0) (by decide) (fun _ => rfl) (by decide) _) tw_161 tw_162 tw_7 tw_163 (n := 2) (by decide +kernel) rfl rfl (Nat.le_of_ble_eq_true rfl) dS_gatherWholeOrigins_5 ⟨Nat.le_of_ble_eq_true rfl, Nat.le_of_ble_eq_true rfl⟩ ⟨Nat.zero_le _, Nat.zero_le _⟩) (fun τ2 H locs hp hE _ _ => ?_)
  have hE := wS_eq hp hE
  refine lv_iconst (v := nI 0) hx hb dS_gatherWholeOrigins_8 (by decide) ?_
  refine lv_istore_n (lv' := [(2, .int (nI 0)), (0, .ref (ad 3)), (1, .int (nI k))]) hx hb dS_gatherWholeOrigins_9 rfl hl (by decide) rfl (fun ls hl => ?_)
  exact lp_S_gather C hk hA hk9 hg _ 0 (Nat.lt_succ_self _) (Nat.zero_le _) _ _ ls (wS_eq (show mrow σ 12 (fillR (σ 12) (nI 0) 6) = mrow σ 12 (gathR σ (σ (k + 19)) 0) by rfl) hE) (lv_sub hl [1, 2, 0] rfl)
set_option maxHeartbeats 4000000 in
set_option maxRecDepth 100000 in
theorem lp_S_grow {p : Program} {l : Launch} {e : Env} {s : State} {m : MethodId} {below : List Frame} {meth : Method} {c : Code} {D : va_G} {cs : Nat → ClassId} {ad : Nat → Nat} {A : Nat → Prop} {σ : Mem} {k P S : Nat} (C : bC p s m ([.ref (ad 3), .int (nI k)] : List Value).toArray meth c bS_grow 4 "EarleyChart$ItemSets" none) (hk : wk D cs s) (hA : ∀ q : Nat, s.heap.size ≤ q → A q) (hk9 : k < 9) (hg : gS σ P S)   :
    ∀ (n : Nat) (t : Nat), (S - 1 - t) < n → (t ≤ S - 1) → ∀ (H : Heap) (locs : List Loc) (ls : Array Slot), wS (wE D cs ad) A s.heap (mrow σ (k + 19) (growR σ k P t)) H locs → lv_has ls 4 [(0, .ref (ad 3)), (1, .int (nI k)), (2, .int (nI t))] → W p l e (rmF 1 24) s m ([.ref (ad 3), .int (nI k)] : List Value).toArray below meth c H locs 0 0 (wQv (wE D cs ad) A (fun τ => τ = mrow σ (k + 19) (growR σ k P (S - 1))) s below ([.ref (ad 3), .int (nI k)] : List Value).toArray) (F0 m 2 ls []) := by
  obtain ⟨hx, hb, hml, hown, hts, hr, hlocks⟩ := id C
  have hP8 := hg.1
  have hS24 := hg.2.1
  intro n
  induction n with
  | zero => intro t h; exact absurd h (Nat.not_lt_zero _)
  | succ n ih =>
    intro t hn hi H locs ls hE hl
    refine lv_iload_n hx hb dS_grow_2 rfl (lv_at hl 2 rfl) ?_
    refine lv_iconst (v := nI 1) hx hb dS_grow_3 (by decide) ?_
    refine lv_iadd hx hb dS_grow_4 ?_
    refine w_top (y := nI (t + 1)) (by first | exact nI_add _ _ | simp only [nI_add, Nat.add_assoc, Nat.add_zero, Nat.zero_add]) ?_
    refine lv_aload_n hx hb dS_grow_5 rfl (lv_at hl 0 rfl) ?_
    refine w_get C hk hE (K := R_S) (T := F_S) (N := 3) (ci := 2) in_S 3 (Nat.le_of_ble_eq_true rfl) rfl rfl 0 (by decide) tw_106 rfl rfl dS_grow_6 ?_
    refine w_get C hk hE (K := R_G) (T := F_G) (N := 6) (ci := 0) in_G 1 (Nat.le_of_ble_eq_true rfl) rfl rfl 5 (by decide) tw_48 rfl rfl dS_grow_9 ?_
    refine w_top (y := σ 1 5) (by simp [mset, mrow, upd]) ?_
    refine w_top (y := nI S) (hg.2.2.2.1) ?_
    refine lv_icmp_ge (tgt := 79) hx hb dS_grow_12 (by decide) (fun c1 => ?_) (fun c1 => ?_)
    · have c1 : S ≤ (t + 1) := (nI_leI (by omega) (by omega)).mp c1
      exact w_retv C hE (by rw [show S - 1 = t by omega]) dS_grow_79
    · have c1 : ¬ (S ≤ (t + 1)) := fun h => c1 ((nI_leI (by omega) (by omega)).mpr h)
      refine lv_aload_n hx hb dS_grow_15 rfl (lv_at hl 0 rfl) ?_
      refine w_get C hk hE (K := R_S) (T := F_S) (N := 3) (ci := 2) in_S 3 (Nat.le_of_ble_eq_true rfl) rfl rfl 0 (by decide) tw_106 rfl rfl dS_grow_16 ?_
      refine w_get C hk hE (K := R_G) (T := F_G) (N := 6) (ci := 0) in_G 1 (Nat.le_of_ble_eq_true rfl) rfl rfl 2 (by decide) tw_38 rfl rfl dS_grow_19 ?_
      refine lv_iload_n hx hb dS_grow_22 rfl (lv_at hl 2 rfl) ?_
      refine w_iald C hk hE 8 (by exact Nat.le_of_ble_eq_true rfl) (n := 24) rfl (by omega) (by first | decide | omega) dS_grow_23 ?_
      refine w_top (y := σ 8 t) (by simp [mset, mrow, upd]) ?_
      refine lv_istore_n (lv' := [(3, .int (σ 8 t)), (0, .ref (ad 3)), (1, .int (nI k)), (2, .int (nI t))]) hx hb dS_grow_24 rfl hl (by decide) rfl (fun ls hl => ?_)
      refine lv_iload_n hx hb dS_grow_25 rfl (lv_at hl 0 rfl) ?_
      refine w_ci hE hA (w_runSN C hk hE hl.1 (As := [.int (σ 8 t)]) (rest := []) (c_E_isVariable l D cs ad (mrow σ (k + 19) (growR σ k P t)) (σ 8 t) _) hk.2.1 tw_199 tw_1 tw_200 (n := 1) (by decide +kernel) rfl rfl (Nat.le_of_ble_eq_true rfl) dS_grow_26 ⟨Nat.le_of_ble_eq_true rfl, Nat.le_of_ble_eq_true rfl⟩ ⟨Nat.zero_le _, Nat.zero_le _⟩) (fun r2 τ3 H locs hp hE _ _ => ?_)
      refine w_top hp.1 ?_
      have hE := wS_eq hp.2 hE
      refine lv_if_eq (tgt := 73) hx hb dS_grow_29 (by decide) (fun c4 => ?_) (fun c4 => ?_)
      · have c4 := zb_eq0 c4
        refine lv_iinc (v := nI (t + 1)) (lv' := [(2, .int (nI (t + 1))), (3, .int (σ 8 t)), (0, .ref (ad 3)), (1, .int (nI k))]) hx hb dS_grow_73 hl (k := 3) rfl (by exact nI_1 _) (by decide) rfl (fun ls hl => ?_)
        refine lv_goto (tgt := 2) hx hb dS_grow_76 (by decide) ?_
        exact ih (t + 1) (by omega) (by omega) _ _ ls (wS_eq (show mrow σ (k + 19) (growR σ k P t) = mrow σ (k + 19) (growR σ k P (t + 1)) by simp only [growR, growS, c4, if_true, if_false, Bool.false_eq_true]) hE) (lv_sub hl [2, 3, 0] rfl)
      · have c4 := zb_ne0 c4
        obtain ⟨h8a, h8, h8b⟩ := gS_var hg (by omega) c4
        refine lv_aload_n hx hb dS_grow_32 rfl (lv_at hl 1 rfl) ?_
        refine w_get C hk hE (K := R_S) (T := F_S) (N := 3) (ci := 2) in_S 3 (Nat.le_of_ble_eq_true rfl) rfl rfl 1 (by decide) tw_107 rfl rfl dS_grow_33 ?_
        refine lv_iload_n hx hb dS_grow_36 rfl (lv_at hl 2 rfl) ?_
        refine w_aald C hk hE 11 (Nat.le_of_ble_eq_true rfl) (n := 9) (b := ad (k + 19)) rfl (by omega) (by decide) rfl dS_grow_37 ?_
        refine lv_iload_n hx hb dS_grow_38 rfl (lv_at hl 3 rfl) ?_
        refine w_iald C hk hE (k + 19) (by show _ < 58; omega) (n := 24) (cE_o (ad := ad) (by omega)) (by omega) (by first | decide | omega) dS_grow_39 ?_
        refine w_top (y := (growR σ k P t) t) (by simp [mset, mrow, upd]) ?_
        refine lv_if_eq (tgt := 49) hx hb dS_grow_40 (by decide) (fun c5 => ?_) (fun c5 => ?_)
        · refine lv_aload_n hx hb dS_grow_49 rfl (lv_at hl 1 rfl) ?_
          refine w_get C hk hE (K := R_S) (T := F_S) (N := 3) (ci := 2) in_S 3 (Nat.le_of_ble_eq_true rfl) rfl rfl 1 (by decide) tw_107 rfl rfl dS_grow_50 ?_
          refine lv_iload_n hx hb dS_grow_53 rfl (lv_at hl 2 rfl) ?_
          refine w_aald C hk hE 11 (Nat.le_of_ble_eq_true rfl) (n := 9) (b := ad (k + 19)) rfl (by omega) (by decide) rfl dS_grow_54 ?_
          refine lv_iload_n hx hb dS_grow_55 rfl (lv_at hl 3 rfl) ?_
          refine lv_iconst (v := nI 1) hx hb dS_grow_56 (by decide) ?_
          refine lv_iadd hx hb dS_grow_57 ?_
          refine w_top (y := nI (t + 1)) (by first | exact nI_add _ _ | simp only [nI_add, Nat.add_assoc, Nat.add_zero, Nat.zero_add]) ?_
          refine lv_dup2_11 hx hb dS_grow_58 rfl rfl ?_
          refine w_iald C hk hE (k + 19) (by show _ < 58; omega) (n := 24) (cE_o (ad := ad) (by omega)) (by omega) (by first | decide | omega) dS_grow_59 ?_
          refine w_top (y := (growR σ k P t) (t + 1)) (by simp [mset, mrow, upd]) ?_
          refine lv_aload_n hx hb dS_grow_60 rfl (lv_at hl 1 rfl) ?_
          refine lv_aload_n hx hb dS_grow_61 rfl (lv_at hl 1 rfl) ?_
          refine w_get C hk hE (K := R_S) (T := F_S) (N := 3) (ci := 2) in_S 3 (Nat.le_of_ble_eq_true rfl) rfl rfl 2 (by decide) tw_108 rfl rfl dS_grow_62 ?_
          refine lv_iload_n hx hb dS_grow_65 rfl (lv_at hl 0 rfl) ?_
          refine w_top (y := nI (gy σ t)) (h8) ?_
          refine w_iald C hk hE 12 (by exact Nat.le_of_ble_eq_true rfl) (n := 6) rfl (by omega) (by first | decide | omega) dS_grow_66 ?_
          refine w_top (y := σ 12 (gy σ t)) (by simp [mset, mrow, upd]) ?_
          refine lv_iload_n hx hb dS_grow_67 rfl (lv_at hl 3 rfl) ?_
          refine w_ci hE hA (w_runV C hk hE hl.1 (As := [.int (σ 12 (gy σ t)), .int (nI t)]) (rest := [.int ((growR σ k P t) (t + 1)), .int (nI (t + 1)), .ref (ad (k + 19))]) (q := 3) (c_S_originsIn l D cs ad (mrow σ (k + 19) (growR σ k P t)) t (σ 12 (gy σ t)) (by omega) _) (Nat.le_of_ble_eq_true rfl) (ci := 2) (N := 3) (T := F_S) rfl rfl tw_201 tw_203 ts_5 tw_5 tw_204 (n := 2) (by decide +kernel) rfl rfl (Nat.le_of_ble_eq_true rfl) dS_grow_68 ⟨Nat.le_of_ble_eq_true rfl, Nat.le_of_ble_eq_true rfl⟩ ⟨Nat.zero_le _, Nat.zero_le _⟩) (fun r6 τ7 H locs hp hE _ _ => ?_)
          refine w_top hp.1 ?_
          have hE := wS_eq hp.2 hE
          refine lv_ior hx hb dS_grow_71 ?_
          refine w_iast C hk hE (k + 19) (by show _ < 58; omega) (n := 24) (fun _ => cE_o (ad := ad) (by omega)) (by omega) (by first | decide | omega) dS_grow_72 (fun H locs hE => ?_)
          rw [mset_mrow] at hE
          refine lv_iinc (v := nI (t + 1)) (lv' := [(2, .int (nI (t + 1))), (3, .int (σ 8 t)), (0, .ref (ad 3)), (1, .int (nI k))]) hx hb dS_grow_73 hl (k := 3) rfl (by exact nI_1 _) (by decide) rfl (fun ls hl => ?_)
          refine lv_goto (tgt := 2) hx hb dS_grow_76 (by decide) ?_
          exact ih (t + 1) (by omega) (by omega) _ _ ls (wS_eq (show mrow σ (k + 19) (upd (growR σ k P t) (t + 1) (((growR σ k P t) (t + 1)) ||| (orgF (mrow σ (k + 19) (growR σ k P t)) (σ 12 (gy σ t)) t 9))) = mrow σ (k + 19) (growR σ k P (t + 1)) by simp only [growR, growS, c4, c5, if_true, if_false, Bool.false_eq_true]) hE) (lv_sub hl [2, 3, 0] rfl)
        · refine lv_aload_n hx hb dS_grow_43 rfl (lv_at hl 1 rfl) ?_
          refine lv_iload_n hx hb dS_grow_44 rfl (lv_at hl 2 rfl) ?_
          refine lv_iload_n hx hb dS_grow_45 rfl (lv_at hl 0 rfl) ?_
          refine w_cv hE hA (w_runV C hk hE hl.1 (As := [.int (nI k), .int (σ 8 t)]) (rest := []) (q := 3) (c_S_predict l D cs ad (mrow σ (k + 19) (growR σ k P t)) k P S (σ 8 t) hk9 (gS_mrow hg (by omega)) _) (Nat.le_of_ble_eq_true rfl) (ci := 2) (N := 3) (T := F_S) rfl rfl tw_168 tw_170 ts_1 tw_5 tw_171 (n := 2) (by decide +kernel) rfl rfl (Nat.le_of_ble_eq_true rfl) dS_grow_46 ⟨Nat.le_of_ble_eq_true rfl, Nat.le_of_ble_eq_true rfl⟩ ⟨Nat.zero_le _, Nat.zero_le _⟩) (fun τ9 H locs hp hE _ _ => ?_)
          have hE := wS_eq (hp.trans (by rw [mrow_mrow, mrow_s, mrow_lo (by decide), show gf (mrow σ (k + 19) (growR σ k P t)) = gf σ by funext z; unfold gf; rw [mrow_lo (by decide)]])) hE
          refine lv_aload_n hx hb dS_grow_49 rfl (lv_at hl 1 rfl) ?_
          refine w_get C hk hE (K := R_S) (T := F_S) (N := 3) (ci := 2) in_S 3 (Nat.le_of_ble_eq_true rfl) rfl rfl 1 (by decide) tw_107 rfl rfl dS_grow_50 ?_
          refine lv_iload_n hx hb dS_grow_53 rfl (lv_at hl 2 rfl) ?_
          refine w_aald C hk hE 11 (Nat.le_of_ble_eq_true rfl) (n := 9) (b := ad (k + 19)) rfl (by omega) (by decide) rfl dS_grow_54 ?_
          refine lv_iload_n hx hb dS_grow_55 rfl (lv_at hl 3 rfl) ?_
          refine lv_iconst (v := nI 1) hx hb dS_grow_56 (by decide) ?_
          refine lv_iadd hx hb dS_grow_57 ?_
          refine w_top (y := nI (t + 1)) (by first | exact nI_add _ _ | simp only [nI_add, Nat.add_assoc, Nat.add_zero, Nat.zero_add]) ?_
          refine lv_dup2_11 hx hb dS_grow_58 rfl rfl ?_
          refine w_iald C hk hE (k + 19) (by show _ < 58; omega) (n := 24) (cE_o (ad := ad) (by omega)) (by omega) (by first | decide | omega) dS_grow_59 ?_
          refine w_top (y := (predR (σ 6) (gf σ) k (σ 8 t) (growR σ k P t) P) (t + 1)) (by simp [mset, mrow, upd]) ?_
          refine lv_aload_n hx hb dS_grow_60 rfl (lv_at hl 1 rfl) ?_
          refine lv_aload_n hx hb dS_grow_61 rfl (lv_at hl 1 rfl) ?_
          refine w_get C hk hE (K := R_S) (T := F_S) (N := 3) (ci := 2) in_S 3 (Nat.le_of_ble_eq_true rfl) rfl rfl 2 (by decide) tw_108 rfl rfl dS_grow_62 ?_
          refine lv_iload_n hx hb dS_grow_65 rfl (lv_at hl 0 rfl) ?_
          refine w_top (y := nI (gy σ t)) (h8) ?_
          refine w_iald C hk hE 12 (by exact Nat.le_of_ble_eq_true rfl) (n := 6) rfl (by omega) (by first | decide | omega) dS_grow_66 ?_
          refine w_top (y := σ 12 (gy σ t)) (by simp [mset, mrow, upd]) ?_
          refine lv_iload_n hx hb dS_grow_67 rfl (lv_at hl 3 rfl) ?_
          refine w_ci hE hA (w_runV C hk hE hl.1 (As := [.int (σ 12 (gy σ t)), .int (nI t)]) (rest := [.int ((predR (σ 6) (gf σ) k (σ 8 t) (growR σ k P t) P) (t + 1)), .int (nI (t + 1)), .ref (ad (k + 19))]) (q := 3) (c_S_originsIn l D cs ad (mrow σ (k + 19) (predR (σ 6) (gf σ) k (σ 8 t) (growR σ k P t) P)) t (σ 12 (gy σ t)) (by omega) _) (Nat.le_of_ble_eq_true rfl) (ci := 2) (N := 3) (T := F_S) rfl rfl tw_201 tw_203 ts_5 tw_5 tw_204 (n := 2) (by decide +kernel) rfl rfl (Nat.le_of_ble_eq_true rfl) dS_grow_68 ⟨Nat.le_of_ble_eq_true rfl, Nat.le_of_ble_eq_true rfl⟩ ⟨Nat.zero_le _, Nat.zero_le _⟩) (fun r10 τ11 H locs hp hE _ _ => ?_)
          refine w_top hp.1 ?_
          have hE := wS_eq hp.2 hE
          refine lv_ior hx hb dS_grow_71 ?_
          refine w_iast C hk hE (k + 19) (by show _ < 58; omega) (n := 24) (fun _ => cE_o (ad := ad) (by omega)) (by omega) (by first | decide | omega) dS_grow_72 (fun H locs hE => ?_)
          rw [mset_mrow] at hE
          refine lv_iinc (v := nI (t + 1)) (lv' := [(2, .int (nI (t + 1))), (3, .int (σ 8 t)), (0, .ref (ad 3)), (1, .int (nI k))]) hx hb dS_grow_73 hl (k := 3) rfl (by exact nI_1 _) (by decide) rfl (fun ls hl => ?_)
          refine lv_goto (tgt := 2) hx hb dS_grow_76 (by decide) ?_
          exact ih (t + 1) (by omega) (by omega) _ _ ls (wS_eq (show mrow σ (k + 19) (upd (predR (σ 6) (gf σ) k (σ 8 t) (growR σ k P t) P) (t + 1) (((predR (σ 6) (gf σ) k (σ 8 t) (growR σ k P t) P) (t + 1)) ||| (orgF (mrow σ (k + 19) (predR (σ 6) (gf σ) k (σ 8 t) (growR σ k P t) P)) (σ 12 (gy σ t)) t 9))) = mrow σ (k + 19) (growR σ k P (t + 1)) by simp only [growR, growS, c4, c5, if_true, if_false, Bool.false_eq_true]) hE) (lv_sub hl [2, 3, 0] rfl)
set_option maxHeartbeats 4000000 in
set_option maxRecDepth 100000 in
theorem c_S_grow (l : Launch) (D : va_G) (cs : Nat → ClassId) (ad : Nat → Nat) (σ : Mem) (k P S : Nat) (hk9 : k < 9) (hg : gS σ P S) : MetV l (wE D cs ad) cs yS_grow bS_grow 4 1 24 [.ref (ad 3), .int (nI k)] σ (fun τ => τ = mrow σ (k + 19) (growR σ k P (S - 1))) := by
  refine MetV.start (by decide) (Nat.le_of_ble_eq_true rfl) ?_
  intro p e s m below meth c A ls C hk hA hE hl
  obtain ⟨hx, hb, hml, hown, hts, hr, hlocks⟩ := id C
  have hl : lv_has ls 4 [(0, .ref (ad 3)), (1, .int (nI k))] := hl
  have hP8 := hg.1
  have hS24 := hg.2.1
  refine lv_iconst (v := nI 0) hx hb dS_grow_0 (by decide) ?_
  refine lv_istore_n (lv' := [(2, .int (nI 0)), (0, .ref (ad 3)), (1, .int (nI k))]) hx hb dS_grow_1 rfl hl (by decide) rfl (fun ls hl => ?_)
  exact lp_S_grow C hk hA hk9 hg _ 0 (Nat.lt_succ_self _) (Nat.zero_le _) _ _ ls (wS_eq (show σ = mrow σ (k + 19) (growR σ k P 0) by rw [growR, mrow_id]) hE) (lv_sub hl [1, 2, 0] rfl)
set_option maxHeartbeats 4000000 in
set_option maxRecDepth 100000 in
theorem lp_S_close {p : Program} {l : Launch} {e : Env} {s : State} {m : MethodId} {below : List Frame} {meth : Method} {c : Code} {D : va_G} {cs : Nat → ClassId} {ad : Nat → Nat} {A : Nat → Prop} {σ : Mem} {k P S : Nat} (C : bC p s m ([.ref (ad 3), .int (nI k)] : List Value).toArray meth c bS_close 5 "EarleyChart$ItemSets" none) (hk : wk D cs s) (hA : ∀ q : Nat, s.heap.size ≤ q → A q) (hk9 : k < 9) (hg : gS σ P S)   :
    ∀ (n : Nat) (i : Nat) (g : Bool) (τ : Mem), (1000 - i) < n → (i ≤ 1000) → (gS τ P S) → ((if g = true then closeM k P S (1000 - i) τ else τ) = closeM k P S 1000 σ) → ∀ (H : Heap) (locs : List Loc) (ls : Array Slot), wS (wE D cs ad) A s.heap τ H locs → lv_has ls 5 [(0, .ref (ad 3)), (1, .int (nI k)), (2, .int (zb g)), (3, .int (nI i))] → W p l e (rmF 2 47) s m ([.ref (ad 3), .int (nI k)] : List Value).toArray below meth c H locs 0 0 (wQv (wE D cs ad) A (fun τ => τ = closeM k P S 1000 σ) s below ([.ref (ad 3), .int (nI k)] : List Value).toArray) (F0 m 4 ls []) := by
  obtain ⟨hx, hb, hml, hown, hts, hr, hlocks⟩ := id C
  have hP8 := hg.1
  have hS24 := hg.2.1
  intro n
  induction n with
  | zero => intro i g τ h; exact absurd h (Nat.not_lt_zero _)
  | succ n ih =>
    intro i g τ hn hi hgτ hres H locs ls hE hl
    refine lv_iload_n hx hb dS_close_4 rfl (lv_at hl 2 rfl) ?_
    refine lv_if_eq (tgt := 54) hx hb dS_close_5 (by decide) (fun c1 => ?_) (fun c1 => ?_)
    · have c1 := zb_eq0 c1
      exact w_retv C hE (by first | (rw [← hres, c1]; rfl) | (rw [← hres, c1, show 1000 - i = 0 by omega]; rfl)) dS_close_54
    · have c1 := zb_ne0 c1
      refine lv_iload_n hx hb dS_close_8 rfl (lv_at hl 3 rfl) ?_
      refine lv_sipush (v := nI 1000) hx hb dS_close_9 (by decide) ?_
      refine lv_icmp_ge (tgt := 54) hx hb dS_close_12 (by decide) (fun c2 => ?_) (fun c2 => ?_)
      · have c2 : 1000 ≤ i := (nI_leI (by omega) (by omega)).mp c2
        exact w_retv C hE (by first | (rw [← hres, c1]; rfl) | (rw [← hres, c1, show 1000 - i = 0 by omega]; rfl)) dS_close_54
      · have c2 : ¬ (1000 ≤ i) := fun h => c2 ((nI_leI (by omega) (by omega)).mpr h)
        refine lv_aload_n hx hb dS_close_15 rfl (lv_at hl 0 rfl) ?_
        refine lv_iload_n hx hb dS_close_16 rfl (lv_at hl 1 rfl) ?_
        refine w_ci hE hA (w_runV C hk hE hl.1 (As := [.int (nI k)]) (rest := []) (q := 3) (c_S_size l D cs ad τ k S hk9 hgτ.2.2.2.1 hS24 _) (Nat.le_of_ble_eq_true rfl) (ci := 2) (N := 3) (T := F_S) rfl rfl tw_176 tw_177 tw_178 tw_5 tw_179 (n := 1) (by decide +kernel) rfl rfl (Nat.le_of_ble_eq_true rfl) dS_close_17 ⟨Nat.le_of_ble_eq_true rfl, Nat.le_of_ble_eq_true rfl⟩ ⟨Nat.zero_le _, Nat.zero_le _⟩) (fun r3 τ4 H locs hp hE _ _ => ?_)
        refine w_top hp.1 ?_
        have hE := wS_eq hp.2 hE
        refine lv_istore (lv' := [(4, .int (sizF (τ (k + 19)) S)), (0, .ref (ad 3)), (1, .int (nI k)), (2, .int (zb g)), (3, .int (nI i))]) hx hb dS_close_20 hl (by decide) rfl (fun ls hl => ?_)
        refine lv_aload_n hx hb dS_close_22 rfl (lv_at hl 1 rfl) ?_
        refine lv_iload_n hx hb dS_close_23 rfl (lv_at hl 2 rfl) ?_
        refine w_cv hE hA (w_runV C hk hE hl.1 (As := [.int (nI k)]) (rest := []) (q := 3) (c_S_gatherWholeOrigins l D cs ad τ k P S hk9 hgτ _) (Nat.le_of_ble_eq_true rfl) (ci := 2) (N := 3) (T := F_S) rfl rfl tw_186 tw_188 ts_3 tw_5 tw_189 (n := 1) (by decide +kernel) rfl rfl (Nat.le_of_ble_eq_true rfl) dS_close_24 ⟨Nat.le_of_ble_eq_true rfl, Nat.le_of_ble_eq_true rfl⟩ ⟨Nat.zero_le _, Nat.zero_le _⟩) (fun τ6 H locs hp hE _ _ => ?_)
        have hE := wS_eq hp hE
        refine lv_aload_n hx hb dS_close_27 rfl (lv_at hl 1 rfl) ?_
        refine lv_iload_n hx hb dS_close_28 rfl (lv_at hl 2 rfl) ?_
        refine w_cv hE hA (w_runV C hk hE hl.1 (As := [.int (nI k)]) (rest := []) (q := 3) (c_S_grow l D cs ad (mrow τ 12 (gathR τ (τ (k + 19)) S)) k P S hk9 (gS_mrow hgτ (by decide)) _) (Nat.le_of_ble_eq_true rfl) (ci := 2) (N := 3) (T := F_S) rfl rfl tw_194 tw_196 ts_4 tw_5 tw_197 (n := 1) (by decide +kernel) rfl rfl (Nat.le_of_ble_eq_true rfl) dS_close_29 ⟨Nat.le_of_ble_eq_true rfl, Nat.le_of_ble_eq_true rfl⟩ ⟨Nat.zero_le _, Nat.zero_le _⟩) (fun τ8 H locs hp hE _ _ => ?_)
        have hE : wS (wE D cs ad) A s.heap (closeS k P S τ) H locs := wS_eq hp hE
        refine lv_aload_n hx hb dS_close_32 rfl (lv_at hl 1 rfl) ?_
        refine lv_iload_n hx hb dS_close_33 rfl (lv_at hl 2 rfl) ?_
        refine w_ci hE hA (w_runV C hk hE hl.1 (As := [.int (nI k)]) (rest := []) (q := 3) (c_S_size l D cs ad (closeS k P S τ) k S hk9 (gS_close hgτ).2.2.2.1 hS24 _) (Nat.le_of_ble_eq_true rfl) (ci := 2) (N := 3) (T := F_S) rfl rfl tw_176 tw_177 tw_178 tw_5 tw_179 (n := 1) (by decide +kernel) rfl rfl (Nat.le_of_ble_eq_true rfl) dS_close_34 ⟨Nat.le_of_ble_eq_true rfl, Nat.le_of_ble_eq_true rfl⟩ ⟨Nat.zero_le _, Nat.zero_le _⟩) (fun r9 τ10 H locs hp hE _ _ => ?_)
        refine w_top hp.1 ?_
        have hE := wS_eq hp.2 hE
        refine lv_iload hx hb dS_close_37 (lv_at hl 0 rfl) ?_
        refine lv_icmp_le (tgt := 46) hx hb dS_close_39 (by decide) (fun c11 => ?_) (fun c11 => ?_)
        · refine lv_iconst (v := nI 0) hx hb dS_close_46 (by decide) ?_
          refine lv_istore_n (lv' := [(2, .int (nI 0)), (4, .int (sizF (τ (k + 19)) S)), (0, .ref (ad 3)), (1, .int (nI k)), (3, .int (nI i))]) hx hb dS_close_47 rfl hl (by decide) rfl (fun ls hl => ?_)
          refine lv_iinc (v := nI (i + 1)) (lv' := [(3, .int (nI (i + 1))), (2, .int (nI 0)), (4, .int (sizF (τ (k + 19)) S)), (0, .ref (ad 3)), (1, .int (nI k))]) hx hb dS_close_48 hl (k := 4) rfl (by exact nI_1 _) (by decide) rfl (fun ls hl => ?_)
          refine lv_goto (tgt := 4) hx hb dS_close_51 (by decide) ?_
          have ev12 : (nI 0 : Int32) = zb false := by rfl
          rw [ev12] at hl
          exact ih (i + 1) false (closeS k P S τ) (by omega) (by omega) (gS_close hgτ) (by rw [← hres, c1]; exact (closeM_f (by omega) (Int32.not_lt.mpr c11)).symm) _ _ ls hE (lv_sub hl [3, 4, 1, 0] rfl)
        · refine lv_iconst (v := nI 1) hx hb dS_close_42 (by decide) ?_
          refine lv_goto (tgt := 47) hx hb dS_close_43 (by decide) ?_
          refine lv_istore_n (lv' := [(2, .int (nI 1)), (4, .int (sizF (τ (k + 19)) S)), (0, .ref (ad 3)), (1, .int (nI k)), (3, .int (nI i))]) hx hb dS_close_47 rfl hl (by decide) rfl (fun ls hl => ?_)
          refine lv_iinc (v := nI (i + 1)) (lv' := [(3, .int (nI (i + 1))), (2, .int (nI 1)), (4, .int (sizF (τ (k + 19)) S)), (0, .ref (ad 3)), (1, .int (nI k))]) hx hb dS_close_48 hl (k := 4) rfl (by exact nI_1 _) (by decide) rfl (fun ls hl => ?_)
          refine lv_goto (tgt := 4) hx hb dS_close_51 (by decide) ?_
          have ev13 : (nI 1 : Int32) = zb true := by rfl
          rw [ev13] at hl
          exact ih (i + 1) true (closeS k P S τ) (by omega) (by omega) (gS_close hgτ) (by rw [← hres, c1]; exact (closeM_t (by omega) (Int32.not_le.mp c11)).symm) _ _ ls hE (lv_sub hl [3, 4, 1, 0] rfl)
set_option maxHeartbeats 4000000 in
set_option maxRecDepth 100000 in
theorem c_S_close (l : Launch) (D : va_G) (cs : Nat → ClassId) (ad : Nat → Nat) (σ : Mem) (k P S : Nat) (hk9 : k < 9) (hg : gS σ P S) : MetV l (wE D cs ad) cs yS_close bS_close 5 2 47 [.ref (ad 3), .int (nI k)] σ (fun τ => τ = closeM k P S 1000 σ) := by
  refine MetV.start (by decide) (Nat.le_of_ble_eq_true rfl) ?_
  intro p e s m below meth c A ls C hk hA hE hl
  obtain ⟨hx, hb, hml, hown, hts, hr, hlocks⟩ := id C
  have hl : lv_has ls 5 [(0, .ref (ad 3)), (1, .int (nI k))] := hl
  have hP8 := hg.1
  have hS24 := hg.2.1
  refine lv_iconst (v := nI 1) hx hb dS_close_0 (by decide) ?_
  refine lv_istore_n (lv' := [(2, .int (nI 1)), (0, .ref (ad 3)), (1, .int (nI k))]) hx hb dS_close_1 rfl hl (by decide) rfl (fun ls hl => ?_)
  refine lv_iconst (v := nI 0) hx hb dS_close_2 (by decide) ?_
  refine lv_istore_n (lv' := [(3, .int (nI 0)), (2, .int (nI 1)), (0, .ref (ad 3)), (1, .int (nI k))]) hx hb dS_close_3 rfl hl (by decide) rfl (fun ls hl => ?_)
  have ev1 : (nI 1 : Int32) = zb true := by rfl
  rw [ev1] at hl
  exact lp_S_close C hk hA hk9 hg _ 0 true σ (Nat.lt_succ_self _) (by decide) (hg) (rfl) _ _ ls hE (lv_sub hl [2, 3, 1, 0] rfl)
set_option maxHeartbeats 4000000 in
set_option maxRecDepth 100000 in
theorem lp_S_makeNext {p : Program} {l : Launch} {e : Env} {s : State} {m : MethodId} {below : List Frame} {meth : Method} {c : Code} {D : va_G} {cs : Nat → ClassId} {ad : Nat → Nat} {A : Nat → Prop} {σ : Mem} {k P S : Nat} {x : Int32} (C : bC p s m ([.ref (ad 3), .int (nI k), .int x] : List Value).toArray meth c bS_makeNext 4 "EarleyChart$ItemSets" none) (hk : wk D cs s) (hA : ∀ q : Nat, s.heap.size ≤ q → A q) (hk9 : k < 9) (hk1 : 1 ≤ k) (hg : gS σ P S)   :
    ∀ (n : Nat) (t : Nat), (S - 1 - t) < n → (t ≤ S - 1) → ∀ (H : Heap) (locs : List Loc) (ls : Array Slot), wS (wE D cs ad) A s.heap (mrow σ (k + 19) (nextR σ k x t)) H locs → lv_has ls 4 [(0, .ref (ad 3)), (1, .int (nI k)), (2, .int x), (3, .int (nI t))] → W p l e (rmF 3 71) s m ([.ref (ad 3), .int (nI k), .int x] : List Value).toArray below meth c H locs 0 0 (wQv (wE D cs ad) A (fun τ => τ = closeM k P S 1000 (mrow σ (k + 19) (nextR σ k x (S - 1)))) s below ([.ref (ad 3), .int (nI k), .int x] : List Value).toArray) (F0 m 12 ls []) := by
  obtain ⟨hx, hb, hml, hown, hts, hr, hlocks⟩ := id C
  have hP8 := hg.1
  have hS24 := hg.2.1
  intro n
  induction n with
  | zero => intro t h; exact absurd h (Nat.not_lt_zero _)
  | succ n ih =>
    intro t hn hi H locs ls hE hl
    refine lv_iload_n hx hb dS_makeNext_12 rfl (lv_at hl 3 rfl) ?_
    refine lv_iconst (v := nI 1) hx hb dS_makeNext_13 (by decide) ?_
    refine lv_iadd hx hb dS_makeNext_14 ?_
    refine w_top (y := nI (t + 1)) (by first | exact nI_add _ _ | simp only [nI_add, Nat.add_assoc, Nat.add_zero, Nat.zero_add]) ?_
    refine lv_aload_n hx hb dS_makeNext_15 rfl (lv_at hl 0 rfl) ?_
    refine w_get C hk hE (K := R_S) (T := F_S) (N := 3) (ci := 2) in_S 3 (Nat.le_of_ble_eq_true rfl) rfl rfl 0 (by decide) tw_106 rfl rfl dS_makeNext_16 ?_
    refine w_get C hk hE (K := R_G) (T := F_G) (N := 6) (ci := 0) in_G 1 (Nat.le_of_ble_eq_true rfl) rfl rfl 5 (by decide) tw_48 rfl rfl dS_makeNext_19 ?_
    refine w_top (y := σ 1 5) (by simp [mset, mrow, upd]) ?_
    refine w_top (y := nI S) (hg.2.2.2.1) ?_
    refine lv_icmp_ge (tgt := 64) hx hb dS_makeNext_22 (by decide) (fun c1 => ?_) (fun c1 => ?_)
    · have c1 : S ≤ (t + 1) := (nI_leI (by omega) (by omega)).mp c1
      refine lv_aload_n hx hb dS_makeNext_64 rfl (lv_at hl 0 rfl) ?_
      refine lv_iload_n hx hb dS_makeNext_65 rfl (lv_at hl 1 rfl) ?_
      refine w_cv hE hA (w_runV C hk hE hl.1 (As := [.int (nI k)]) (rest := []) (q := 3) (c_S_close l D cs ad (mrow σ (k + 19) (nextR σ k x t)) k P S hk9 (gS_mrow hg (by omega)) _) (Nat.le_of_ble_eq_true rfl) (ci := 2) (N := 3) (T := F_S) rfl rfl tw_172 tw_174 ts_2 tw_5 tw_175 (n := 1) (by decide +kernel) rfl rfl (Nat.le_of_ble_eq_true rfl) dS_makeNext_66 ⟨Nat.le_of_ble_eq_true rfl, Nat.le_of_ble_eq_true rfl⟩ ⟨Nat.zero_le _, Nat.zero_le _⟩) (fun τ3 H locs hp hE _ _ => ?_)
      have hE := wS_eq hp hE
      exact w_retv C hE (by rw [show S - 1 = t by omega]) dS_makeNext_69
    · have c1 : ¬ (S ≤ (t + 1)) := fun h => c1 ((nI_leI (by omega) (by omega)).mpr h)
      refine lv_aload_n hx hb dS_makeNext_25 rfl (lv_at hl 0 rfl) ?_
      refine w_get C hk hE (K := R_S) (T := F_S) (N := 3) (ci := 2) in_S 3 (Nat.le_of_ble_eq_true rfl) rfl rfl 0 (by decide) tw_106 rfl rfl dS_makeNext_26 ?_
      refine w_get C hk hE (K := R_G) (T := F_G) (N := 6) (ci := 0) in_G 1 (Nat.le_of_ble_eq_true rfl) rfl rfl 2 (by decide) tw_38 rfl rfl dS_makeNext_29 ?_
      refine lv_iload_n hx hb dS_makeNext_32 rfl (lv_at hl 3 rfl) ?_
      refine w_iald C hk hE 8 (by exact Nat.le_of_ble_eq_true rfl) (n := 24) rfl (by omega) (by first | decide | omega) dS_makeNext_33 ?_
      refine w_top (y := σ 8 t) (by simp [mset, mrow, upd]) ?_
      refine lv_iload_n hx hb dS_makeNext_34 rfl (lv_at hl 2 rfl) ?_
      refine lv_icmp_ne (tgt := 58) hx hb dS_makeNext_35 (by decide) (fun c4 => ?_) (fun c4 => ?_)
      · refine lv_iinc (v := nI (t + 1)) (lv' := [(3, .int (nI (t + 1))), (0, .ref (ad 3)), (1, .int (nI k)), (2, .int x)]) hx hb dS_makeNext_58 hl (k := 3) rfl (by exact nI_1 _) (by decide) rfl (fun ls hl => ?_)
        refine lv_goto (tgt := 12) hx hb dS_makeNext_61 (by decide) ?_
        exact ih (t + 1) (by omega) (by omega) _ _ ls (wS_eq (show mrow σ (k + 19) (nextR σ k x t) = mrow σ (k + 19) (nextR σ k x (t + 1)) by simp only [nextR, c4, if_true, if_false]) hE) (lv_sub hl [1, 2, 3, 0] rfl)
      · refine lv_aload_n hx hb dS_makeNext_38 rfl (lv_at hl 0 rfl) ?_
        refine w_get C hk hE (K := R_S) (T := F_S) (N := 3) (ci := 2) in_S 3 (Nat.le_of_ble_eq_true rfl) rfl rfl 1 (by decide) tw_107 rfl rfl dS_makeNext_39 ?_
        refine lv_iload_n hx hb dS_makeNext_42 rfl (lv_at hl 1 rfl) ?_
        refine w_aald C hk hE 11 (Nat.le_of_ble_eq_true rfl) (n := 9) (b := ad (k + 19)) rfl (by omega) (by decide) rfl dS_makeNext_43 ?_
        refine lv_iload_n hx hb dS_makeNext_44 rfl (lv_at hl 3 rfl) ?_
        refine lv_iconst (v := nI 1) hx hb dS_makeNext_45 (by decide) ?_
        refine lv_iadd hx hb dS_makeNext_46 ?_
        refine w_top (y := nI (t + 1)) (by first | exact nI_add _ _ | simp only [nI_add, Nat.add_assoc, Nat.add_zero, Nat.zero_add]) ?_
        refine lv_aload_n hx hb dS_makeNext_47 rfl (lv_at hl 0 rfl) ?_
        refine w_get C hk hE (K := R_S) (T := F_S) (N := 3) (ci := 2) in_S 3 (Nat.le_of_ble_eq_true rfl) rfl rfl 1 (by decide) tw_107 rfl rfl dS_makeNext_48 ?_
        refine lv_iload_n hx hb dS_makeNext_51 rfl (lv_at hl 1 rfl) ?_
        refine lv_iconst (v := nI 1) hx hb dS_makeNext_52 (by decide) ?_
        refine lv_isub hx hb dS_makeNext_53 ?_
        refine w_top (y := nI (k - 1)) (w_sub (by omega) (by omega)) ?_
        refine w_aald C hk hE 11 (Nat.le_of_ble_eq_true rfl) (n := 9) (b := ad ((k - 1) + 19)) rfl (by omega) (by decide) rfl dS_makeNext_54 ?_
        refine lv_iload_n hx hb dS_makeNext_55 rfl (lv_at hl 3 rfl) ?_
        refine w_iald C hk hE ((k - 1) + 19) (by show _ < 58; omega) (n := 24) (cE_o (ad := ad) (by omega)) (by omega) (by first | decide | omega) dS_makeNext_56 ?_
        refine w_top (y := σ ((k - 1) + 19) t) (by rw [mrow_n (by omega)]) ?_
        refine w_iast C hk hE (k + 19) (by show _ < 58; omega) (n := 24) (fun _ => cE_o (ad := ad) (by omega)) (by omega) (by first | decide | omega) dS_makeNext_57 (fun H locs hE => ?_)
        rw [mset_mrow] at hE
        refine lv_iinc (v := nI (t + 1)) (lv' := [(3, .int (nI (t + 1))), (0, .ref (ad 3)), (1, .int (nI k)), (2, .int x)]) hx hb dS_makeNext_58 hl (k := 3) rfl (by exact nI_1 _) (by decide) rfl (fun ls hl => ?_)
        refine lv_goto (tgt := 12) hx hb dS_makeNext_61 (by decide) ?_
        exact ih (t + 1) (by omega) (by omega) _ _ ls (wS_eq (show mrow σ (k + 19) (upd (nextR σ k x t) (t + 1) (σ ((k - 1) + 19) t)) = mrow σ (k + 19) (nextR σ k x (t + 1)) by simp only [nextR, c4, if_true, if_false]) hE) (lv_sub hl [1, 2, 3, 0] rfl)
set_option maxHeartbeats 4000000 in
set_option maxRecDepth 100000 in
theorem c_S_makeNext (l : Launch) (D : va_G) (cs : Nat → ClassId) (ad : Nat → Nat) (σ : Mem) (k P S : Nat) (x : Int32) (hk9 : k < 9) (hk1 : 1 ≤ k) (hg : gS σ P S) : MetV l (wE D cs ad) cs yS_makeNext bS_makeNext 4 3 71 [.ref (ad 3), .int (nI k), .int x] σ (fun τ => τ = closeM k P S 1000 (mrow σ (k + 19) (nextR σ k x (S - 1)))) := by
  refine MetV.start (by decide) (Nat.le_of_ble_eq_true rfl) ?_
  intro p e s m below meth c A ls C hk hA hE hl
  obtain ⟨hx, hb, hml, hown, hts, hr, hlocks⟩ := id C
  have hl : lv_has ls 4 [(0, .ref (ad 3)), (1, .int (nI k)), (2, .int x)] := hl
  have hP8 := hg.1
  have hS24 := hg.2.1
  refine lv_aload_n hx hb dS_makeNext_0 rfl (lv_at hl 0 rfl) ?_
  refine w_get C hk hE (K := R_S) (T := F_S) (N := 3) (ci := 2) in_S 3 (Nat.le_of_ble_eq_true rfl) rfl rfl 1 (by decide) tw_107 rfl rfl dS_makeNext_1 ?_
  refine lv_iload_n hx hb dS_makeNext_4 rfl (lv_at hl 1 rfl) ?_
  refine w_aald C hk hE 11 (Nat.le_of_ble_eq_true rfl) (n := 9) (b := ad (k + 19)) rfl (by omega) (by decide) rfl dS_makeNext_5 ?_
  refine lv_iconst (v := nI 0) hx hb dS_makeNext_6 (by decide) ?_
  refine w_cv hE hA (w_runS C hk hE hl.1 (As := [.ref (ad (k + 19)), .int (nI 0)]) (rest := []) (c_J_fill l D cs ad σ (k + 19) 24 (nI 0) (by omega) (fun _ => cE_o hk9) (by decide) _) tw_161 tw_162 tw_7 tw_163 (n := 2) (by decide +kernel) rfl rfl (Nat.le_of_ble_eq_true rfl) dS_makeNext_7 ⟨Nat.le_of_ble_eq_true rfl, Nat.le_of_ble_eq_true rfl⟩ ⟨Nat.zero_le _, Nat.zero_le _⟩) (fun τ2 H locs hp hE _ _ => ?_)
  have hE := wS_eq hp hE
  refine lv_iconst (v := nI 0) hx hb dS_makeNext_10 (by decide) ?_
  refine lv_istore_n (lv' := [(3, .int (nI 0)), (0, .ref (ad 3)), (1, .int (nI k)), (2, .int x)]) hx hb dS_makeNext_11 rfl hl (by decide) rfl (fun ls hl => ?_)
  exact lp_S_makeNext C hk hA hk9 hk1 hg _ 0 (Nat.lt_succ_self _) (Nat.zero_le _) _ _ ls (wS_eq (show mrow σ (k + 19) (fillR (σ (k + 19)) (nI 0) 24) = mrow σ (k + 19) (nextR σ k x 0) by rfl) hE) (lv_sub hl [1, 2, 3, 0] rfl)
set_option maxHeartbeats 4000000 in
set_option maxRecDepth 100000 in
theorem c_S_makeFirst (l : Launch) (D : va_G) (cs : Nat → ClassId) (ad : Nat → Nat) (σ : Mem) (P S : Nat) (hg : gS σ P S) : MetV l (wE D cs ad) cs yS_makeFirst bS_makeFirst 1 3 71 [.ref (ad 3)] σ (fun τ => τ = if P = 0 then mrow σ (0 + 19) (fillR (σ (0 + 19)) (nI 0) 24) else closeM 0 P S 1000 (mrow σ (0 + 19) (predR (σ 6) (gf σ) 0 (σ 6 0) (fillR (σ (0 + 19)) (nI 0) 24) P))) := by
  refine MetV.start (by decide) (Nat.le_of_ble_eq_true rfl) ?_
  intro p e s m below meth c A ls C hk hA hE hl
  obtain ⟨hx, hb, hml, hown, hts, hr, hlocks⟩ := id C
  have hl : lv_has ls 1 [(0, .ref (ad 3))] := hl
  have hP8 := hg.1
  have hS24 := hg.2.1
  refine lv_aload_n hx hb dS_makeFirst_0 rfl (lv_at hl 0 rfl) ?_
  refine w_get C hk hE (K := R_S) (T := F_S) (N := 3) (ci := 2) in_S 3 (Nat.le_of_ble_eq_true rfl) rfl rfl 1 (by decide) tw_107 rfl rfl dS_makeFirst_1 ?_
  refine lv_iconst (v := nI 0) hx hb dS_makeFirst_4 (by decide) ?_
  refine w_aald C hk hE 11 (Nat.le_of_ble_eq_true rfl) (n := 9) (b := ad (0 + 19)) rfl (by omega) (by decide) rfl dS_makeFirst_5 ?_
  refine lv_iconst (v := nI 0) hx hb dS_makeFirst_6 (by decide) ?_
  refine w_cv hE hA (w_runS C hk hE hl.1 (As := [.ref (ad (0 + 19)), .int (nI 0)]) (rest := []) (c_J_fill l D cs ad σ (0 + 19) 24 (nI 0) (by decide) (fun _ => rfl) (by decide) _) tw_161 tw_162 tw_7 tw_163 (n := 2) (by decide +kernel) rfl rfl (Nat.le_of_ble_eq_true rfl) dS_makeFirst_7 ⟨Nat.le_of_ble_eq_true rfl, Nat.le_of_ble_eq_true rfl⟩ ⟨Nat.zero_le _, Nat.zero_le _⟩) (fun τ2 H locs hp hE _ _ => ?_)
  have hE := wS_eq hp hE
  refine lv_aload_n hx hb dS_makeFirst_10 rfl (lv_at hl 0 rfl) ?_
  refine w_get C hk hE (K := R_S) (T := F_S) (N := 3) (ci := 2) in_S 3 (Nat.le_of_ble_eq_true rfl) rfl rfl 0 (by decide) tw_106 rfl rfl dS_makeFirst_11 ?_
  refine w_get C hk hE (K := R_G) (T := F_G) (N := 6) (ci := 0) in_G 1 (Nat.le_of_ble_eq_true rfl) rfl rfl 4 (by decide) tw_44 rfl rfl dS_makeFirst_14 ?_
  refine w_top (y := σ 1 4) (by simp [mset, mrow, upd]) ?_
  refine w_top (y := nI P) (hg.2.2.1) ?_
  refine lv_if_le (tgt := 37) hx hb dS_makeFirst_17 (by decide) (fun c3 => ?_) (fun c3 => ?_)
  · have c3 := w_le0 (by omega) c3
    exact w_retv C hE (by first | rw [if_pos (by omega)] | rw [if_neg (by omega)]) dS_makeFirst_37
  · have c3 := w_nle0 (by omega) c3
    refine lv_aload_n hx hb dS_makeFirst_20 rfl (lv_at hl 0 rfl) ?_
    refine lv_iconst (v := nI 0) hx hb dS_makeFirst_21 (by decide) ?_
    refine lv_aload_n hx hb dS_makeFirst_22 rfl (lv_at hl 0 rfl) ?_
    refine w_get C hk hE (K := R_S) (T := F_S) (N := 3) (ci := 2) in_S 3 (Nat.le_of_ble_eq_true rfl) rfl rfl 0 (by decide) tw_106 rfl rfl dS_makeFirst_23 ?_
    refine w_ci hE hA (w_runV C hk hE hl.1 (As := []) (rest := [.int (nI 0), .ref (ad 3)]) (q := 1) (c_G_start l D cs ad (mrow σ (0 + 19) (fillR (σ (0 + 19)) (nI 0) 24)) _) (Nat.le_of_ble_eq_true rfl) (ci := 0) (N := 6) (T := F_G) rfl rfl tw_164 tw_165 tw_166 tw_2 tw_167 (n := 0) (by decide +kernel) rfl rfl (Nat.le_of_ble_eq_true rfl) dS_makeFirst_26 ⟨Nat.le_of_ble_eq_true rfl, Nat.le_of_ble_eq_true rfl⟩ ⟨Nat.zero_le _, Nat.zero_le _⟩) (fun r4 τ5 H locs hp hE _ _ => ?_)
    refine w_top (y := σ 6 0) (hp.1.trans (congrFun (mrow_n (by decide)) _)) ?_
    have hE := wS_eq hp.2 hE
    refine w_cv hE hA (w_runV C hk hE hl.1 (As := [.int (nI 0), .int (σ 6 0)]) (rest := []) (q := 3) (c_S_predict l D cs ad (mrow σ (0 + 19) (fillR (σ (0 + 19)) (nI 0) 24)) 0 P S (σ 6 0) (by decide) (gS_mrow hg (by decide)) _) (Nat.le_of_ble_eq_true rfl) (ci := 2) (N := 3) (T := F_S) rfl rfl tw_168 tw_170 ts_1 tw_5 tw_171 (n := 2) (by decide +kernel) rfl rfl (Nat.le_of_ble_eq_true rfl) dS_makeFirst_29 ⟨Nat.le_of_ble_eq_true rfl, Nat.le_of_ble_eq_true rfl⟩ ⟨Nat.zero_le _, Nat.zero_le _⟩) (fun τ7 H locs hp hE _ _ => ?_)
    have hE := wS_eq (hp.trans (by rw [mrow_mrow, mrow_s, mrow_n (by decide), show gf (mrow σ (0 + 19) (fillR (σ (0 + 19)) (nI 0) 24)) = gf σ by funext z; unfold gf; rw [mrow_n (by decide)]])) hE
    refine lv_aload_n hx hb dS_makeFirst_32 rfl (lv_at hl 0 rfl) ?_
    refine lv_iconst (v := nI 0) hx hb dS_makeFirst_33 (by decide) ?_
    refine w_cv hE hA (w_runV C hk hE hl.1 (As := [.int (nI 0)]) (rest := []) (q := 3) (c_S_close l D cs ad (mrow σ (0 + 19) (predR (σ 6) (gf σ) 0 (σ 6 0) (fillR (σ (0 + 19)) (nI 0) 24) P)) 0 P S (by decide) (gS_mrow hg (by decide)) _) (Nat.le_of_ble_eq_true rfl) (ci := 2) (N := 3) (T := F_S) rfl rfl tw_172 tw_174 ts_2 tw_5 tw_175 (n := 1) (by decide +kernel) rfl rfl (Nat.le_of_ble_eq_true rfl) dS_makeFirst_34 ⟨Nat.le_of_ble_eq_true rfl, Nat.le_of_ble_eq_true rfl⟩ ⟨Nat.zero_le _, Nat.zero_le _⟩) (fun τ9 H locs hp hE _ _ => ?_)
    have hE := wS_eq hp hE
    exact w_retv C hE (by first | rw [if_pos (by omega)] | rw [if_neg (by omega)]) dS_makeFirst_37
set_option maxHeartbeats 4000000 in
set_option maxRecDepth 100000 in
theorem lp_S_hold {p : Program} {l : Launch} {e : Env} {s : State} {m : MethodId} {below : List Frame} {meth : Method} {c : Code} {D : va_G} {cs : Nat → ClassId} {ad : Nat → Nat} {A : Nat → Prop} {σ : Mem} {k P S : Nat} (C : bC p s m ([.ref (ad 3), .int (nI k)] : List Value).toArray meth c bS_holdWholeStart 3 "EarleyChart$ItemSets" (some .boolean)) (hk : wk D cs s) (hA : ∀ q : Nat, s.heap.size ≤ q → A q) (hk9 : k < 9) (hg : gS σ P S)   :
    ∀ (n : Nat) (t : Nat), (S - t) < n → (t ≤ S) → (holdF σ (σ (k + 19)) t = false) → ∀ (H : Heap) (locs : List Loc) (ls : Array Slot), wS (wE D cs ad) A s.heap σ H locs → lv_has ls 3 [(0, .ref (ad 3)), (1, .int (nI k)), (2, .int (nI t))] → W p l e (rmF 1 21) s m ([.ref (ad 3), .int (nI k)] : List Value).toArray below meth c H locs 0 0 (wQi (wE D cs ad) A (fun r τ => r = zb (holdF σ (σ (k + 19)) S) ∧ τ = σ) s below ([.ref (ad 3), .int (nI k)] : List Value).toArray) (F0 m 2 ls []) := by
  obtain ⟨hx, hb, hml, hown, hts, hr, hlocks⟩ := id C
  have hP8 := hg.1
  have hS24 := hg.2.1
  intro n
  induction n with
  | zero => intro t h; exact absurd h (Nat.not_lt_zero _)
  | succ n ih =>
    intro t hn hi hF H locs ls hE hl
    refine lv_iload_n hx hb dS_holdWholeStart_2 rfl (lv_at hl 2 rfl) ?_
    refine lv_aload_n hx hb dS_holdWholeStart_3 rfl (lv_at hl 0 rfl) ?_
    refine w_get C hk hE (K := R_S) (T := F_S) (N := 3) (ci := 2) in_S 3 (Nat.le_of_ble_eq_true rfl) rfl rfl 0 (by decide) tw_106 rfl rfl dS_holdWholeStart_4 ?_
    refine w_get C hk hE (K := R_G) (T := F_G) (N := 6) (ci := 0) in_G 1 (Nat.le_of_ble_eq_true rfl) rfl rfl 5 (by decide) tw_48 rfl rfl dS_holdWholeStart_7 ?_
    refine w_top (y := nI S) (hg.2.2.2.1) ?_
    refine lv_icmp_ge (tgt := 65) hx hb dS_holdWholeStart_10 (by decide) (fun c1 => ?_) (fun c1 => ?_)
    · have c1 : S ≤ t := (nI_leI (by omega) (by omega)).mp c1
      refine lv_iconst (v := nI 0) hx hb dS_holdWholeStart_65 (by decide) ?_
      exact w_retz C hE (Or.inl rfl) (⟨by rw [show S = t by omega, hF]; rfl, rfl⟩) dS_holdWholeStart_66
    · have c1 : ¬ (S ≤ t) := fun h => c1 ((nI_leI (by omega) (by omega)).mpr h)
      obtain ⟨h9, h9b, h9c⟩ := hg.2.2.2.2.2.1 t (by omega)
      refine lv_aload_n hx hb dS_holdWholeStart_13 rfl (lv_at hl 0 rfl) ?_
      refine w_get C hk hE (K := R_S) (T := F_S) (N := 3) (ci := 2) in_S 3 (Nat.le_of_ble_eq_true rfl) rfl rfl 0 (by decide) tw_106 rfl rfl dS_holdWholeStart_14 ?_
      refine w_get C hk hE (K := R_G) (T := F_G) (N := 6) (ci := 0) in_G 1 (Nat.le_of_ble_eq_true rfl) rfl rfl 2 (by decide) tw_38 rfl rfl dS_holdWholeStart_17 ?_
      refine lv_iload_n hx hb dS_holdWholeStart_20 rfl (lv_at hl 2 rfl) ?_
      refine w_iald C hk hE 8 (by exact Nat.le_of_ble_eq_true rfl) (n := 24) rfl (by omega) (by first | decide | omega) dS_holdWholeStart_21 ?_
      refine lv_iconst (v := (-1)) hx hb dS_holdWholeStart_22 (by decide) ?_
      refine lv_icmp_ne (tgt := 59) hx hb dS_holdWholeStart_23 (by decide) (fun c2 => ?_) (fun c2 => ?_)
      · refine lv_iinc (v := nI (t + 1)) (lv' := [(2, .int (nI (t + 1))), (0, .ref (ad 3)), (1, .int (nI k))]) hx hb dS_holdWholeStart_59 hl (k := 2) rfl (by exact nI_1 _) (by decide) rfl (fun ls hl => ?_)
        refine lv_goto (tgt := 2) hx hb dS_holdWholeStart_62 (by decide) ?_
        exact ih (t + 1) (by omega) (by omega) (by rw [holdF, hF]; simp [holdB, *]) _ _ ls hE (lv_sub hl [1, 2, 0] rfl)
      · refine lv_aload_n hx hb dS_holdWholeStart_26 rfl (lv_at hl 0 rfl) ?_
        refine w_get C hk hE (K := R_S) (T := F_S) (N := 3) (ci := 2) in_S 3 (Nat.le_of_ble_eq_true rfl) rfl rfl 0 (by decide) tw_106 rfl rfl dS_holdWholeStart_27 ?_
        refine lv_iload_n hx hb dS_holdWholeStart_30 rfl (lv_at hl 2 rfl) ?_
        refine w_ci hE hA (w_runV C hk hE hl.1 (As := [.int (nI t)]) (rest := []) (q := 1) (c_G_leftSideAt l D cs ad σ t (gp σ t) (by omega) h9 (by omega) _) (Nat.le_of_ble_eq_true rfl) (ci := 0) (N := 6) (T := F_G) rfl rfl tw_190 tw_191 tw_192 tw_2 tw_193 (n := 1) (by decide +kernel) rfl rfl (Nat.le_of_ble_eq_true rfl) dS_holdWholeStart_31 ⟨Nat.le_of_ble_eq_true rfl, Nat.le_of_ble_eq_true rfl⟩ ⟨Nat.zero_le _, Nat.zero_le _⟩) (fun r3 τ4 H locs hp hE _ _ => ?_)
        refine w_top hp.1 ?_
        have hE := wS_eq hp.2 hE
        refine lv_aload_n hx hb dS_holdWholeStart_34 rfl (lv_at hl 0 rfl) ?_
        refine w_get C hk hE (K := R_S) (T := F_S) (N := 3) (ci := 2) in_S 3 (Nat.le_of_ble_eq_true rfl) rfl rfl 0 (by decide) tw_106 rfl rfl dS_holdWholeStart_35 ?_
        refine w_ci hE hA (w_runV C hk hE hl.1 (As := []) (rest := [.int (σ 6 (gp σ t))]) (q := 1) (c_G_start l D cs ad σ _) (Nat.le_of_ble_eq_true rfl) (ci := 0) (N := 6) (T := F_G) rfl rfl tw_164 tw_165 tw_166 tw_2 tw_167 (n := 0) (by decide +kernel) rfl rfl (Nat.le_of_ble_eq_true rfl) dS_holdWholeStart_38 ⟨Nat.le_of_ble_eq_true rfl, Nat.le_of_ble_eq_true rfl⟩ ⟨Nat.zero_le _, Nat.zero_le _⟩) (fun r5 τ6 H locs hp hE _ _ => ?_)
        refine w_top hp.1 ?_
        have hE := wS_eq hp.2 hE
        refine lv_icmp_ne (tgt := 59) hx hb dS_holdWholeStart_41 (by decide) (fun c7 => ?_) (fun c7 => ?_)
        · refine lv_iinc (v := nI (t + 1)) (lv' := [(2, .int (nI (t + 1))), (0, .ref (ad 3)), (1, .int (nI k))]) hx hb dS_holdWholeStart_59 hl (k := 2) rfl (by exact nI_1 _) (by decide) rfl (fun ls hl => ?_)
          refine lv_goto (tgt := 2) hx hb dS_holdWholeStart_62 (by decide) ?_
          exact ih (t + 1) (by omega) (by omega) (by rw [holdF, hF]; simp [holdB, *]) _ _ ls hE (lv_sub hl [1, 2, 0] rfl)
        · refine lv_aload_n hx hb dS_holdWholeStart_44 rfl (lv_at hl 0 rfl) ?_
          refine w_get C hk hE (K := R_S) (T := F_S) (N := 3) (ci := 2) in_S 3 (Nat.le_of_ble_eq_true rfl) rfl rfl 1 (by decide) tw_107 rfl rfl dS_holdWholeStart_45 ?_
          refine lv_iload_n hx hb dS_holdWholeStart_48 rfl (lv_at hl 1 rfl) ?_
          refine w_aald C hk hE 11 (Nat.le_of_ble_eq_true rfl) (n := 9) (b := ad (k + 19)) rfl (by omega) (by decide) rfl dS_holdWholeStart_49 ?_
          refine lv_iload_n hx hb dS_holdWholeStart_50 rfl (lv_at hl 2 rfl) ?_
          refine w_iald C hk hE (k + 19) (by show _ < 58; omega) (n := 24) (cE_o (ad := ad) (by omega)) (by omega) (by first | decide | omega) dS_holdWholeStart_51 ?_
          refine lv_iconst (v := nI 1) hx hb dS_holdWholeStart_52 (by decide) ?_
          refine lv_iand hx hb dS_holdWholeStart_53 ?_
          refine lv_if_eq (tgt := 59) hx hb dS_holdWholeStart_54 (by decide) (fun c8 => ?_) (fun c8 => ?_)
          · refine lv_iinc (v := nI (t + 1)) (lv' := [(2, .int (nI (t + 1))), (0, .ref (ad 3)), (1, .int (nI k))]) hx hb dS_holdWholeStart_59 hl (k := 2) rfl (by exact nI_1 _) (by decide) rfl (fun ls hl => ?_)
            refine lv_goto (tgt := 2) hx hb dS_holdWholeStart_62 (by decide) ?_
            exact ih (t + 1) (by omega) (by omega) (by rw [holdF, hF]; simp [holdB, *]) _ _ ls hE (lv_sub hl [1, 2, 0] rfl)
          · refine lv_iconst (v := nI 1) hx hb dS_holdWholeStart_57 (by decide) ?_
            exact w_retz C hE (Or.inr rfl) (⟨by rw [holdF_t (t := t) (by simp [holdB, *]) S (by omega)]; rfl, rfl⟩) dS_holdWholeStart_58
set_option maxHeartbeats 4000000 in
set_option maxRecDepth 100000 in
theorem c_S_holdWholeStart (l : Launch) (D : va_G) (cs : Nat → ClassId) (ad : Nat → Nat) (σ : Mem) (k P S : Nat) (hk9 : k < 9) (hg : gS σ P S) : MetI l (wE D cs ad) cs yS_holdWholeStart bS_holdWholeStart 3 (some .boolean) 1 21 [.ref (ad 3), .int (nI k)] σ (fun r τ => r = zb (holdF σ (σ (k + 19)) S) ∧ τ = σ) := by
  refine MetI.start (by decide) (Nat.le_of_ble_eq_true rfl) ?_
  intro p e s m below meth c A ls C hk hA hE hl
  obtain ⟨hx, hb, hml, hown, hts, hr, hlocks⟩ := id C
  have hl : lv_has ls 3 [(0, .ref (ad 3)), (1, .int (nI k))] := hl
  have hP8 := hg.1
  have hS24 := hg.2.1
  refine lv_iconst (v := nI 0) hx hb dS_holdWholeStart_0 (by decide) ?_
  refine lv_istore_n (lv' := [(2, .int (nI 0)), (0, .ref (ad 3)), (1, .int (nI k))]) hx hb dS_holdWholeStart_1 rfl hl (by decide) rfl (fun ls hl => ?_)
  exact lp_S_hold C hk hA hk9 hg _ 0 (Nat.lt_succ_self _) (Nat.zero_le _) (rfl) _ _ ls hE (lv_sub hl [1, 2, 0] rfl)
set_option maxHeartbeats 4000000 in
set_option maxRecDepth 100000 in
theorem lp_S_originAt {p : Program} {l : Launch} {e : Env} {s : State} {m : MethodId} {below : List Frame} {meth : Method} {c : Code} {D : va_G} {cs : Nat → ClassId} {ad : Nat → Nat} {A : Nat → Prop} {σ : Mem} {x b : Int32} (C : bC p s m ([.int x, .int b] : List Value).toArray meth c bS_originAt 4 "EarleyChart$ItemSets" (some .int)) (hk : wk D cs s) (hA : ∀ q : Nat, s.heap.size ≤ q → A q)    :
    ∀ (n : Nat) (o : Nat) (a : Int32), (9 - o) < n → (o ≤ 9) → (orgAt x (9 - o) o a = orgAt x 9 0 b) → ∀ (H : Heap) (locs : List Loc) (ls : Array Slot), wS (wE D cs ad) A s.heap σ H locs → lv_has ls 4 [(0, .int x), (1, .int b), (2, .int a), (3, .int (nI o))] → W p l e (rmF 0 0) s m ([.int x, .int b] : List Value).toArray below meth c H locs 0 0 (wQi (wE D cs ad) A (fun r τ => r = orgAt x 9 0 b ∧ τ = σ) s below ([.int x, .int b] : List Value).toArray) (F0 m 4 ls []) := by
  obtain ⟨hx, hb, hml, hown, hts, hr, hlocks⟩ := id C
  intro n
  induction n with
  | zero => intro o a h; exact absurd h (Nat.not_lt_zero _)
  | succ n ih =>
    intro o a hn ho hB H locs ls hE hl
    refine lv_iload_n hx hb dS_originAt_4 rfl (lv_at hl 3 rfl) ?_
    refine lv_bipush (v := nI 9) hx hb dS_originAt_5 (by decide) ?_
    refine lv_icmp_ge (tgt := 33) hx hb dS_originAt_7 (by decide) (fun c1 => ?_) (fun c1 => ?_)
    · have c1 : 9 ≤ o := (nI_leI (by omega) (by omega)).mp c1
      refine lv_iconst (v := nI 0) hx hb dS_originAt_33 (by decide) ?_
      exact w_reti C hE (⟨by rw [← hB, show 9 - o = 0 by omega]; rfl, rfl⟩) dS_originAt_34
    · have c1 : ¬ (9 ≤ o) := fun h => c1 ((nI_leI (by omega) (by omega)).mpr h)
      refine lv_iload_n hx hb dS_originAt_10 rfl (lv_at hl 0 rfl) ?_
      refine lv_iload_n hx hb dS_originAt_11 rfl (lv_at hl 3 rfl) ?_
      refine lv_ishr hx hb dS_originAt_12 ?_
      refine lv_iconst (v := nI 1) hx hb dS_originAt_13 (by decide) ?_
      refine lv_iand hx hb dS_originAt_14 ?_
      refine lv_if_eq (tgt := 27) hx hb dS_originAt_15 (by decide) (fun c2 => ?_) (fun c2 => ?_)
      · refine lv_iinc (v := nI (o + 1)) (lv' := [(3, .int (nI (o + 1))), (0, .int x), (1, .int b), (2, .int a)]) hx hb dS_originAt_27 hl (k := 3) rfl (by exact nI_1 _) (by decide) rfl (fun ls hl => ?_)
        refine lv_goto (tgt := 4) hx hb dS_originAt_30 (by decide) ?_
        exact ih (o + 1) a (by omega) (by omega) (by rw [← hB, show 9 - o = (9 - (o + 1)) + 1 by omega, orgAt]; simp only [bitJ, *, if_true, if_false]) _ _ ls hE (lv_sub hl [1, 2, 3, 0] rfl)
      · refine lv_iload_n hx hb dS_originAt_18 rfl (lv_at hl 2 rfl) ?_
        refine lv_if_ne (tgt := 24) hx hb dS_originAt_19 (by decide) (fun c3 => ?_) (fun c3 => ?_)
        · refine lv_iinc (v := a + (-1)) (lv' := [(2, .int (a + (-1))), (0, .int x), (1, .int b), (3, .int (nI o))]) hx hb dS_originAt_24 hl (k := 2) rfl (rfl) (by decide) rfl (fun ls hl => ?_)
          refine lv_iinc (v := nI (o + 1)) (lv' := [(3, .int (nI (o + 1))), (2, .int (a + (-1))), (0, .int x), (1, .int b)]) hx hb dS_originAt_27 hl (k := 3) rfl (by exact nI_1 _) (by decide) rfl (fun ls hl => ?_)
          refine lv_goto (tgt := 4) hx hb dS_originAt_30 (by decide) ?_
          exact ih (o + 1) (a + (-1)) (by omega) (by omega) (by rw [← hB, show 9 - o = (9 - (o + 1)) + 1 by omega, orgAt]; simp only [bitJ, *, if_true, if_false]) _ _ ls hE (lv_sub hl [2, 3, 1, 0] rfl)
        · refine lv_iload_n hx hb dS_originAt_22 rfl (lv_at hl 3 rfl) ?_
          exact w_reti C hE (⟨by rw [← hB, show 9 - o = (9 - (o + 1)) + 1 by omega, orgAt, if_neg (by simpa [bitJ] using c2), if_pos c3], rfl⟩) dS_originAt_23
set_option maxHeartbeats 4000000 in
set_option maxRecDepth 100000 in
theorem c_S_originAt (l : Launch) (D : va_G) (cs : Nat → ClassId) (ad : Nat → Nat) (σ : Mem) (x b : Int32)  : MetI l (wE D cs ad) cs yS_originAt bS_originAt 4 (some .int) 0 0 [.int x, .int b] σ (fun r τ => r = orgAt x 9 0 b ∧ τ = σ) := by
  refine MetI.start (by decide) (Nat.le_of_ble_eq_true rfl) ?_
  intro p e s m below meth c A ls C hk hA hE hl
  obtain ⟨hx, hb, hml, hown, hts, hr, hlocks⟩ := id C
  have hl : lv_has ls 4 [(0, .int x), (1, .int b)] := hl
  refine lv_iload_n hx hb dS_originAt_0 rfl (lv_at hl 1 rfl) ?_
  refine lv_istore_n (lv' := [(2, .int b), (0, .int x), (1, .int b)]) hx hb dS_originAt_1 rfl hl (by decide) rfl (fun ls hl => ?_)
  refine lv_iconst (v := nI 0) hx hb dS_originAt_2 (by decide) ?_
  refine lv_istore_n (lv' := [(3, .int (nI 0)), (2, .int b), (0, .int x), (1, .int b)]) hx hb dS_originAt_3 rfl hl (by decide) rfl (fun ls hl => ?_)
  exact lp_S_originAt C hk hA  _ 0 b (Nat.lt_succ_self _) (by decide) (rfl) _ _ ls hE (lv_sub hl [2, 3, 1, 0] rfl)
set_option maxHeartbeats 4000000 in
set_option maxRecDepth 100000 in
theorem lp_S_codeOf {p : Program} {l : Launch} {e : Env} {s : State} {m : MethodId} {below : List Frame} {meth : Method} {c : Code} {D : va_G} {cs : Nat → ClassId} {ad : Nat → Nat} {A : Nat → Prop} {σ : Mem} {k P S : Nat} {b : Int32} (C : bC p s m ([.ref (ad 3), .int (nI k), .int b] : List Value).toArray meth c bS_codeOf 6 "EarleyChart$ItemSets" (some .int)) (hk : wk D cs s) (hA : ∀ q : Nat, s.heap.size ≤ q → A q) (hk9 : k < 9) (hg : gS σ P S)   :
    ∀ (n : Nat) (t : Nat) (a : Int32), (S - t) < n → (t ≤ S) → (codeF σ (σ (k + 19)) (S - t) t a = codeF σ (σ (k + 19)) S 0 b) → ∀ (H : Heap) (locs : List Loc) (ls : Array Slot), wS (wE D cs ad) A s.heap σ H locs → lv_has ls 6 [(0, .ref (ad 3)), (1, .int (nI k)), (2, .int b), (3, .int a), (4, .int (nI t))] → W p l e (rmF 1 23) s m ([.ref (ad 3), .int (nI k), .int b] : List Value).toArray below meth c H locs 0 0 (wQi (wE D cs ad) A (fun r τ => r = codeF σ (σ (k + 19)) S 0 b ∧ τ = σ) s below ([.ref (ad 3), .int (nI k), .int b] : List Value).toArray) (F0 m 5 ls []) := by
  obtain ⟨hx, hb, hml, hown, hts, hr, hlocks⟩ := id C
  have hP8 := hg.1
  have hS24 := hg.2.1
  intro n
  induction n with
  | zero => intro t a h; exact absurd h (Nat.not_lt_zero _)
  | succ n ih =>
    intro t a hn hi hB H locs ls hE hl
    refine lv_iload hx hb dS_codeOf_5 (lv_at hl 4 rfl) ?_
    refine lv_aload_n hx hb dS_codeOf_7 rfl (lv_at hl 0 rfl) ?_
    refine w_get C hk hE (K := R_S) (T := F_S) (N := 3) (ci := 2) in_S 3 (Nat.le_of_ble_eq_true rfl) rfl rfl 0 (by decide) tw_106 rfl rfl dS_codeOf_8 ?_
    refine w_get C hk hE (K := R_G) (T := F_G) (N := 6) (ci := 0) in_G 1 (Nat.le_of_ble_eq_true rfl) rfl rfl 5 (by decide) tw_48 rfl rfl dS_codeOf_11 ?_
    refine w_top (y := nI S) (hg.2.2.2.1) ?_
    refine lv_icmp_ge (tgt := 90) hx hb dS_codeOf_14 (by decide) (fun c1 => ?_) (fun c1 => ?_)
    · have c1 : S ≤ t := (nI_leI (by omega) (by omega)).mp c1
      refine lv_iconst (v := nI 0) hx hb dS_codeOf_90 (by decide) ?_
      exact w_reti C hE (⟨by rw [← hB, show S - t = 0 by omega]; rfl, rfl⟩) dS_codeOf_91
    · have c1 : ¬ (S ≤ t) := fun h => c1 ((nI_leI (by omega) (by omega)).mpr h)
      obtain ⟨h9, h9b, h9c⟩ := hg.2.2.2.2.2.1 t (by omega)
      obtain ⟨h6, h6b, h7, h7b⟩ := hg.2.2.2.2.1 (gp σ t) h9b
      refine lv_aload_n hx hb dS_codeOf_17 rfl (lv_at hl 0 rfl) ?_
      refine w_get C hk hE (K := R_S) (T := F_S) (N := 3) (ci := 2) in_S 3 (Nat.le_of_ble_eq_true rfl) rfl rfl 1 (by decide) tw_107 rfl rfl dS_codeOf_18 ?_
      refine lv_iload_n hx hb dS_codeOf_21 rfl (lv_at hl 1 rfl) ?_
      refine w_aald C hk hE 11 (Nat.le_of_ble_eq_true rfl) (n := 9) (b := ad (k + 19)) rfl (by omega) (by decide) rfl dS_codeOf_22 ?_
      refine lv_iload hx hb dS_codeOf_23 (lv_at hl 4 rfl) ?_
      refine w_iald C hk hE (k + 19) (by show _ < 58; omega) (n := 24) (cE_o (ad := ad) (by omega)) (by omega) (by first | decide | omega) dS_codeOf_25 ?_
      refine w_ci hE hA (w_runS C hk hE hl.1 (As := [.int (σ (k + 19) t)]) (rest := []) (c_J_bitCount l D cs ad σ (σ (k + 19) t) _) tw_180 tw_181 tw_8 tw_182 (n := 1) (by decide +kernel) rfl rfl (Nat.le_of_ble_eq_true rfl) dS_codeOf_26 ⟨Nat.le_of_ble_eq_true rfl, Nat.le_of_ble_eq_true rfl⟩ ⟨Nat.zero_le _, Nat.zero_le _⟩) (fun r2 τ3 H locs hp hE _ _ => ?_)
      refine w_top hp.1 ?_
      have hE := wS_eq hp.2 hE
      refine lv_istore (lv' := [(5, .int (popc (σ (k + 19) t))), (0, .ref (ad 3)), (1, .int (nI k)), (2, .int b), (3, .int a), (4, .int (nI t))]) hx hb dS_codeOf_29 hl (by decide) rfl (fun ls hl => ?_)
      refine lv_iload_n hx hb dS_codeOf_31 rfl (lv_at hl 4 rfl) ?_
      refine lv_iload hx hb dS_codeOf_32 (lv_at hl 0 rfl) ?_
      refine lv_icmp_ge (tgt := 79) hx hb dS_codeOf_34 (by decide) (fun c4 => ?_) (fun c4 => ?_)
      · refine lv_iload_n hx hb dS_codeOf_79 rfl (lv_at hl 4 rfl) ?_
        refine lv_iload hx hb dS_codeOf_80 (lv_at hl 0 rfl) ?_
        refine lv_isub hx hb dS_codeOf_82 ?_
        refine lv_istore_n (lv' := [(3, .int (a - (popc (σ (k + 19) t)))), (5, .int (popc (σ (k + 19) t))), (0, .ref (ad 3)), (1, .int (nI k)), (2, .int b), (4, .int (nI t))]) hx hb dS_codeOf_83 rfl hl (by decide) rfl (fun ls hl => ?_)
        refine lv_iinc (v := nI (t + 1)) (lv' := [(4, .int (nI (t + 1))), (3, .int (a - (popc (σ (k + 19) t)))), (5, .int (popc (σ (k + 19) t))), (0, .ref (ad 3)), (1, .int (nI k)), (2, .int b)]) hx hb dS_codeOf_84 hl (k := 5) rfl (by exact nI_1 _) (by decide) rfl (fun ls hl => ?_)
        refine lv_goto (tgt := 5) hx hb dS_codeOf_87 (by decide) ?_
        exact ih (t + 1) (a - (popc (σ (k + 19) t))) (by omega) (by omega) (by rw [← hB, show S - t = (S - (t + 1)) + 1 by omega, codeF, if_neg (Int32.not_lt.mpr c4)]) _ _ ls hE (lv_sub hl [3, 4, 5, 1, 0] rfl)
      · refine lv_sipush (v := nI 1000) hx hb dS_codeOf_37 (by decide) ?_
        refine lv_aload_n hx hb dS_codeOf_40 rfl (lv_at hl 1 rfl) ?_
        refine w_get C hk hE (K := R_S) (T := F_S) (N := 3) (ci := 2) in_S 3 (Nat.le_of_ble_eq_true rfl) rfl rfl 0 (by decide) tw_106 rfl rfl dS_codeOf_41 ?_
        refine w_get C hk hE (K := R_G) (T := F_G) (N := 6) (ci := 0) in_G 1 (Nat.le_of_ble_eq_true rfl) rfl rfl 3 (by decide) tw_42 rfl rfl dS_codeOf_44 ?_
        refine lv_iload hx hb dS_codeOf_47 (lv_at hl 5 rfl) ?_
        refine w_iald C hk hE 9 (by exact Nat.le_of_ble_eq_true rfl) (n := 24) rfl (by omega) (by first | decide | omega) dS_codeOf_49 ?_
        refine lv_imul hx hb dS_codeOf_50 ?_
        refine lv_bipush (v := nI 100) hx hb dS_codeOf_51 (by decide) ?_
        refine lv_aload_n hx hb dS_codeOf_53 rfl (lv_at hl 1 rfl) ?_
        refine w_get C hk hE (K := R_S) (T := F_S) (N := 3) (ci := 2) in_S 3 (Nat.le_of_ble_eq_true rfl) rfl rfl 0 (by decide) tw_106 rfl rfl dS_codeOf_54 ?_
        refine lv_iload hx hb dS_codeOf_57 (lv_at hl 5 rfl) ?_
        refine w_ci hE hA (w_runV C hk hE hl.1 (As := [.int (nI t)]) (rest := [.int (nI 100), .int ((nI 1000) * (σ 9 t))]) (q := 1) (c_G_dotAt l D cs ad σ t (gp σ t) (gf σ (gp σ t)) (by omega) h9 (by omega) h7 h9c _) (Nat.le_of_ble_eq_true rfl) (ci := 0) (N := 6) (T := F_G) rfl rfl tw_556 tw_241 tw_242 tw_2 tw_243 (n := 1) (by decide +kernel) rfl rfl (Nat.le_of_ble_eq_true rfl) dS_codeOf_59 ⟨Nat.le_of_ble_eq_true rfl, Nat.le_of_ble_eq_true rfl⟩ ⟨Nat.zero_le _, Nat.zero_le _⟩) (fun r5 τ6 H locs hp hE _ _ => ?_)
        refine w_top hp.1 ?_
        have hE := wS_eq hp.2 hE
        refine lv_imul hx hb dS_codeOf_62 ?_
        refine lv_iadd hx hb dS_codeOf_63 ?_
        refine lv_aload_n hx hb dS_codeOf_64 rfl (lv_at hl 1 rfl) ?_
        refine w_get C hk hE (K := R_S) (T := F_S) (N := 3) (ci := 2) in_S 3 (Nat.le_of_ble_eq_true rfl) rfl rfl 1 (by decide) tw_107 rfl rfl dS_codeOf_65 ?_
        refine lv_iload_n hx hb dS_codeOf_68 rfl (lv_at hl 2 rfl) ?_
        refine w_aald C hk hE 11 (Nat.le_of_ble_eq_true rfl) (n := 9) (b := ad (k + 19)) rfl (by omega) (by decide) rfl dS_codeOf_69 ?_
        refine lv_iload hx hb dS_codeOf_70 (lv_at hl 5 rfl) ?_
        refine w_iald C hk hE (k + 19) (by show _ < 58; omega) (n := 24) (cE_o (ad := ad) (by omega)) (by omega) (by first | decide | omega) dS_codeOf_72 ?_
        refine lv_iload_n hx hb dS_codeOf_73 rfl (lv_at hl 4 rfl) ?_
        refine w_ci hE hA (w_runS C hk hE hl.1 (As := [.int (σ (k + 19) t), .int a]) (rest := [.int (((nI 1000) * (σ 9 t)) + ((nI 100) * (nI (t - gf σ (gp σ t)))))]) (c_S_originAt l D cs ad σ (σ (k + 19) t) a _) tw_557 tw_558 tw_5 tw_559 (n := 2) (by decide +kernel) rfl rfl (Nat.le_of_ble_eq_true rfl) dS_codeOf_74 ⟨Nat.le_of_ble_eq_true rfl, Nat.le_of_ble_eq_true rfl⟩ ⟨Nat.zero_le _, Nat.zero_le _⟩) (fun r7 τ8 H locs hp hE _ _ => ?_)
        refine w_top hp.1 ?_
        have hE := wS_eq hp.2 hE
        refine lv_iadd hx hb dS_codeOf_77 ?_
        exact w_reti C hE (⟨by rw [← hB, show S - t = (S - (t + 1)) + 1 by omega, codeF, if_pos (Int32.not_le.mp c4)], rfl⟩) dS_codeOf_78
set_option maxHeartbeats 4000000 in
set_option maxRecDepth 100000 in
theorem c_S_codeOf (l : Launch) (D : va_G) (cs : Nat → ClassId) (ad : Nat → Nat) (σ : Mem) (k P S : Nat) (b : Int32) (hk9 : k < 9) (hg : gS σ P S) : MetI l (wE D cs ad) cs yS_codeOf bS_codeOf 6 (some .int) 1 23 [.ref (ad 3), .int (nI k), .int b] σ (fun r τ => r = codeF σ (σ (k + 19)) S 0 b ∧ τ = σ) := by
  refine MetI.start (by decide) (Nat.le_of_ble_eq_true rfl) ?_
  intro p e s m below meth c A ls C hk hA hE hl
  obtain ⟨hx, hb, hml, hown, hts, hr, hlocks⟩ := id C
  have hl : lv_has ls 6 [(0, .ref (ad 3)), (1, .int (nI k)), (2, .int b)] := hl
  have hP8 := hg.1
  have hS24 := hg.2.1
  refine lv_iload_n hx hb dS_codeOf_0 rfl (lv_at hl 2 rfl) ?_
  refine lv_istore_n (lv' := [(3, .int b), (0, .ref (ad 3)), (1, .int (nI k)), (2, .int b)]) hx hb dS_codeOf_1 rfl hl (by decide) rfl (fun ls hl => ?_)
  refine lv_iconst (v := nI 0) hx hb dS_codeOf_2 (by decide) ?_
  refine lv_istore (lv' := [(4, .int (nI 0)), (3, .int b), (0, .ref (ad 3)), (1, .int (nI k)), (2, .int b)]) hx hb dS_codeOf_3 hl (by decide) rfl (fun ls hl => ?_)
  exact lp_S_codeOf C hk hA hk9 hg _ 0 b (Nat.lt_succ_self _) (Nat.zero_le _) (rfl) _ _ ls hE (lv_sub hl [2, 3, 4, 1, 0] rfl)
