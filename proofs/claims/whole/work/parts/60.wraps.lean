set_option maxRecDepth 4000 in
theorem c_L_addProd (l : Launch) {a0 : Array Value} {s0 : State} (hx0 : x0 a0 s0) (D : va_G) (cs : Nat → ClassId) (ad : Nat → Nat) (μ : Mem) (x : Int32) {post : Int32 → Mem → Prop} {tp : String → Prop} (hM : MetX l s0 (wE D cs ad) cs yE_addProd bE_addProd 2 (some .int) 7 168 [.ref (ad 0), .int x] (msub 0 μ) post tp) (hJ : ∀ K, tp K → K = "java/lang/IllegalStateException" ∨ K = "java/lang/IllegalArgumentException") : MetL l s0 (wL D cs ad) cs yL_addProd bL_addProd 4 [(0, 9, 12, 13), (0, 9, 15, 15)] 8 189 [.ref (ad 0), .int x, .ref (ad 68)] μ (fun r τ => (∃ v σ1, post v σ1 ∧ r = nI 0 ∧ τ = mset (mput 0 58 μ σ1) 68 0 v) ∨ (tp "java/lang/IllegalStateException" ∧ r = nI 1 ∧ τ = μ) ∨ (tp "java/lang/IllegalArgumentException" ∧ r = nI 2 ∧ τ = μ)) := by
  refine MetL.start (by decide) (Nat.le_of_ble_eq_true rfl) ?_
  intro p e s m below meth c A ls C hk hA hE hl hX hAs htb
  obtain ⟨hx, hb, hml, hown, hts, hr, hlocks⟩ := id C
  have hl : lv_has ls 4 [(0, .ref (ad 0)), (1, .int x), (2, .ref (ad 68))] := hl
  refine lv_aload_n hx hb dL_addProd_0 rfl (lv_at hl 2 rfl) ?_
  refine lv_iconst (v := nI 0) hx hb dL_addProd_1 (by decide) ?_
  refine lv_aload_n hx hb dL_addProd_2 rfl (lv_at hl 0 rfl) ?_
  refine lv_iload_n hx hb dL_addProd_3 rfl (lv_at hl 1 rfl) ?_
  refine x_wrap2 C hk hE hA hx0 hX hAs sub_E hl.1 (q := 0) (As := [.int x]) (rest := [.int (nI 0), .ref (ad 68)]) hM (Nat.le_of_ble_eq_true rfl) (ci := 5) (N := 7) (T := F_E) rfl rfl tw_308 tw_309 tw_310 tw_1 tw_311 (n := 1) (by decide +kernel) rfl rfl (Nat.le_of_ble_eq_true rfl) dL_addProd_4 ⟨Nat.le_of_ble_eq_true rfl, Nat.le_of_ble_eq_true rfl⟩ ⟨Nat.le_of_ble_eq_true rfl, Nat.le_of_ble_eq_true rfl⟩ htb ⟨by decide, by decide⟩ (by decide) ⟨by decide, by decide⟩ (by decide) hJ tw_306 tw_307 (by decide +kernel) (by decide +kernel) (by decide +kernel) (fun r τ H locs hp hE => ?_) (fun xa H locs ht hE => ?_) (fun xa H locs ht hE => ?_)
  · refine lv_i2l (v := r.toInt64) hx hb dL_addProd_7 rfl ?_
    refine w_last C hk hE 68 (Nat.le_of_ble_eq_true rfl) (n := 1) (i := 0) (fun _ => rfl) (by decide) (by decide) dL_addProd_8 (fun H locs hE => ?_)
    refine lv_goto (tgt := 18) hx hb dL_addProd_9 (by decide) ?_
    refine lv_iconst (v := nI 0) hx hb dL_addProd_18 (by decide) ?_
    exact x_retL C hE (Or.inl ⟨_, τ, hp, rfl, rfl⟩) dL_addProd_19
  · refine lv_astore_n (lv' := [(3, .ref xa)]) hx hb dL_addProd_12 rfl (lv_sub hl [] rfl) (by decide) rfl (fun ls hl => ?_)
    refine lv_iconst (v := nI 1) hx hb dL_addProd_13 (by decide) ?_
    exact x_retL C hE (Or.inr (Or.inl ⟨ht, rfl, rfl⟩)) dL_addProd_14
  · refine lv_astore_n (lv' := [(3, .ref xa)]) hx hb dL_addProd_15 rfl (lv_sub hl [] rfl) (by decide) rfl (fun ls hl => ?_)
    refine lv_iconst (v := nI 2) hx hb dL_addProd_16 (by decide) ?_
    exact x_retL C hE (Or.inr (Or.inr ⟨ht, rfl, rfl⟩)) dL_addProd_17
set_option maxRecDepth 4000 in
theorem c_L_addRhs (l : Launch) {a0 : Array Value} {s0 : State} (hx0 : x0 a0 s0) (D : va_G) (cs : Nat → ClassId) (ad : Nat → Nat) (μ : Mem) (x : Int32) {post : Int32 → Mem → Prop} {tp : String → Prop} (hM : MetX l s0 (wE D cs ad) cs yE_addRhs bE_addRhs 2 (some .int) 7 168 [.ref (ad 0), .int x] (msub 0 μ) post tp) (hJ : ∀ K, tp K → K = "java/lang/IllegalStateException" ∨ K = "java/lang/IllegalArgumentException") : MetL l s0 (wL D cs ad) cs yL_addRhs bL_addRhs 4 [(0, 9, 12, 13), (0, 9, 15, 15)] 8 189 [.ref (ad 0), .int x, .ref (ad 68)] μ (fun r τ => (∃ v σ1, post v σ1 ∧ r = nI 0 ∧ τ = mset (mput 0 58 μ σ1) 68 0 v) ∨ (tp "java/lang/IllegalStateException" ∧ r = nI 1 ∧ τ = μ) ∨ (tp "java/lang/IllegalArgumentException" ∧ r = nI 2 ∧ τ = μ)) := by
  refine MetL.start (by decide) (Nat.le_of_ble_eq_true rfl) ?_
  intro p e s m below meth c A ls C hk hA hE hl hX hAs htb
  obtain ⟨hx, hb, hml, hown, hts, hr, hlocks⟩ := id C
  have hl : lv_has ls 4 [(0, .ref (ad 0)), (1, .int x), (2, .ref (ad 68))] := hl
  refine lv_aload_n hx hb dL_addRhs_0 rfl (lv_at hl 2 rfl) ?_
  refine lv_iconst (v := nI 0) hx hb dL_addRhs_1 (by decide) ?_
  refine lv_aload_n hx hb dL_addRhs_2 rfl (lv_at hl 0 rfl) ?_
  refine lv_iload_n hx hb dL_addRhs_3 rfl (lv_at hl 1 rfl) ?_
  refine x_wrap2 C hk hE hA hx0 hX hAs sub_E hl.1 (q := 0) (As := [.int x]) (rest := [.int (nI 0), .ref (ad 68)]) hM (Nat.le_of_ble_eq_true rfl) (ci := 5) (N := 7) (T := F_E) rfl rfl tw_412 tw_413 tw_414 tw_1 tw_415 (n := 1) (by decide +kernel) rfl rfl (Nat.le_of_ble_eq_true rfl) dL_addRhs_4 ⟨Nat.le_of_ble_eq_true rfl, Nat.le_of_ble_eq_true rfl⟩ ⟨Nat.le_of_ble_eq_true rfl, Nat.le_of_ble_eq_true rfl⟩ htb ⟨by decide, by decide⟩ (by decide) ⟨by decide, by decide⟩ (by decide) hJ tw_306 tw_307 (by decide +kernel) (by decide +kernel) (by decide +kernel) (fun r τ H locs hp hE => ?_) (fun xa H locs ht hE => ?_) (fun xa H locs ht hE => ?_)
  · refine lv_i2l (v := r.toInt64) hx hb dL_addRhs_7 rfl ?_
    refine w_last C hk hE 68 (Nat.le_of_ble_eq_true rfl) (n := 1) (i := 0) (fun _ => rfl) (by decide) (by decide) dL_addRhs_8 (fun H locs hE => ?_)
    refine lv_goto (tgt := 18) hx hb dL_addRhs_9 (by decide) ?_
    refine lv_iconst (v := nI 0) hx hb dL_addRhs_18 (by decide) ?_
    exact x_retL C hE (Or.inl ⟨_, τ, hp, rfl, rfl⟩) dL_addRhs_19
  · refine lv_astore_n (lv' := [(3, .ref xa)]) hx hb dL_addRhs_12 rfl (lv_sub hl [] rfl) (by decide) rfl (fun ls hl => ?_)
    refine lv_iconst (v := nI 1) hx hb dL_addRhs_13 (by decide) ?_
    exact x_retL C hE (Or.inr (Or.inl ⟨ht, rfl, rfl⟩)) dL_addRhs_14
  · refine lv_astore_n (lv' := [(3, .ref xa)]) hx hb dL_addRhs_15 rfl (lv_sub hl [] rfl) (by decide) rfl (fun ls hl => ?_)
    refine lv_iconst (v := nI 2) hx hb dL_addRhs_16 (by decide) ?_
    exact x_retL C hE (Or.inr (Or.inr ⟨ht, rfl, rfl⟩)) dL_addRhs_17
set_option maxRecDepth 4000 in
theorem c_L_feed (l : Launch) {a0 : Array Value} {s0 : State} (hx0 : x0 a0 s0) (D : va_G) (cs : Nat → ClassId) (ad : Nat → Nat) (μ : Mem) (x : Int32) {post : Int32 → Mem → Prop} {tp : String → Prop} (hM : MetX l s0 (wE D cs ad) cs yE_feed bE_feed 2 (some .int) 7 170 [.ref (ad 0), .int x] (msub 0 μ) post tp) (hJ : ∀ K, tp K → K = "java/lang/IllegalStateException" ∨ K = "java/lang/IllegalArgumentException") : MetL l s0 (wL D cs ad) cs yL_feed bL_feed 4 [(0, 9, 12, 13), (0, 9, 15, 15)] 8 191 [.ref (ad 0), .int x, .ref (ad 68)] μ (fun r τ => (∃ v σ1, post v σ1 ∧ r = nI 0 ∧ τ = mset (mput 0 58 μ σ1) 68 0 v) ∨ (tp "java/lang/IllegalStateException" ∧ r = nI 1 ∧ τ = μ) ∨ (tp "java/lang/IllegalArgumentException" ∧ r = nI 2 ∧ τ = μ)) := by
  refine MetL.start (by decide) (Nat.le_of_ble_eq_true rfl) ?_
  intro p e s m below meth c A ls C hk hA hE hl hX hAs htb
  obtain ⟨hx, hb, hml, hown, hts, hr, hlocks⟩ := id C
  have hl : lv_has ls 4 [(0, .ref (ad 0)), (1, .int x), (2, .ref (ad 68))] := hl
  refine lv_aload_n hx hb dL_feed_0 rfl (lv_at hl 2 rfl) ?_
  refine lv_iconst (v := nI 0) hx hb dL_feed_1 (by decide) ?_
  refine lv_aload_n hx hb dL_feed_2 rfl (lv_at hl 0 rfl) ?_
  refine lv_iload_n hx hb dL_feed_3 rfl (lv_at hl 1 rfl) ?_
  refine x_wrap2 C hk hE hA hx0 hX hAs sub_E hl.1 (q := 0) (As := [.int x]) (rest := [.int (nI 0), .ref (ad 68)]) hM (Nat.le_of_ble_eq_true rfl) (ci := 5) (N := 7) (T := F_E) rfl rfl tw_439 tw_440 tw_441 tw_1 tw_442 (n := 1) (by decide +kernel) rfl rfl (Nat.le_of_ble_eq_true rfl) dL_feed_4 ⟨Nat.le_of_ble_eq_true rfl, Nat.le_of_ble_eq_true rfl⟩ ⟨Nat.le_of_ble_eq_true rfl, Nat.le_of_ble_eq_true rfl⟩ htb ⟨by decide, by decide⟩ (by decide) ⟨by decide, by decide⟩ (by decide) hJ tw_306 tw_307 (by decide +kernel) (by decide +kernel) (by decide +kernel) (fun r τ H locs hp hE => ?_) (fun xa H locs ht hE => ?_) (fun xa H locs ht hE => ?_)
  · refine lv_i2l (v := r.toInt64) hx hb dL_feed_7 rfl ?_
    refine w_last C hk hE 68 (Nat.le_of_ble_eq_true rfl) (n := 1) (i := 0) (fun _ => rfl) (by decide) (by decide) dL_feed_8 (fun H locs hE => ?_)
    refine lv_goto (tgt := 18) hx hb dL_feed_9 (by decide) ?_
    refine lv_iconst (v := nI 0) hx hb dL_feed_18 (by decide) ?_
    exact x_retL C hE (Or.inl ⟨_, τ, hp, rfl, rfl⟩) dL_feed_19
  · refine lv_astore_n (lv' := [(3, .ref xa)]) hx hb dL_feed_12 rfl (lv_sub hl [] rfl) (by decide) rfl (fun ls hl => ?_)
    refine lv_iconst (v := nI 1) hx hb dL_feed_13 (by decide) ?_
    exact x_retL C hE (Or.inr (Or.inl ⟨ht, rfl, rfl⟩)) dL_feed_14
  · refine lv_astore_n (lv' := [(3, .ref xa)]) hx hb dL_feed_15 rfl (lv_sub hl [] rfl) (by decide) rfl (fun ls hl => ?_)
    refine lv_iconst (v := nI 2) hx hb dL_feed_16 (by decide) ?_
    exact x_retL C hE (Or.inr (Or.inr ⟨ht, rfl, rfl⟩)) dL_feed_17
set_option maxRecDepth 4000 in
theorem c_L_extract (l : Launch) {a0 : Array Value} {s0 : State} (hx0 : x0 a0 s0) (D : va_G) (cs : Nat → ClassId) (ad : Nat → Nat) (μ : Mem)  {post : Int32 → Mem → Prop} {tp : String → Prop} (hM : MetX l s0 (wE D cs ad) cs yE_extract bE_extract 1 (some .int) 6 145 [.ref (ad 0)] (msub 0 μ) post tp) (hJ : ∀ K, tp K → K = "java/util/NoSuchElementException") : MetL l s0 (wL D cs ad) cs yL_extract bL_extract 3 [(0, 8, 11, 27)] 7 165 [.ref (ad 0), .ref (ad 68)] μ (fun r τ => (∃ v σ1, post v σ1 ∧ r = nI 0 ∧ τ = mset (mput 0 58 μ σ1) 68 0 v) ∨ (tp "java/util/NoSuchElementException" ∧ r = nI 1 ∧ τ = μ)) := by
  refine MetL.start (by decide) (Nat.le_of_ble_eq_true rfl) ?_
  intro p e s m below meth c A ls C hk hA hE hl hX hAs htb
  obtain ⟨hx, hb, hml, hown, hts, hr, hlocks⟩ := id C
  have hl : lv_has ls 3 [(0, .ref (ad 0)), (1, .ref (ad 68))] := hl
  refine lv_aload_n hx hb dL_extract_0 rfl (lv_at hl 1 rfl) ?_
  refine lv_iconst (v := nI 0) hx hb dL_extract_1 (by decide) ?_
  refine lv_aload_n hx hb dL_extract_2 rfl (lv_at hl 0 rfl) ?_
  refine x_wrap1 C hk hE hA hx0 hX hAs sub_E hl.1 (q := 0) (As := []) (rest := [.int (nI 0), .ref (ad 68)]) hM (Nat.le_of_ble_eq_true rfl) (ci := 5) (N := 7) (T := F_E) rfl rfl tw_462 tw_463 tw_464 tw_1 tw_465 (n := 0) (by decide +kernel) rfl rfl (Nat.le_of_ble_eq_true rfl) dL_extract_3 ⟨Nat.le_of_ble_eq_true rfl, Nat.le_of_ble_eq_true rfl⟩ ⟨Nat.le_of_ble_eq_true rfl, Nat.le_of_ble_eq_true rfl⟩ htb ⟨by decide, by decide⟩ (by decide) hJ tw_461 (by decide +kernel) (fun r τ H locs hp hE => ?_) (fun xa H locs ht hE => ?_)
  · refine lv_i2l (v := r.toInt64) hx hb dL_extract_6 rfl ?_
    refine w_last C hk hE 68 (Nat.le_of_ble_eq_true rfl) (n := 1) (i := 0) (fun _ => rfl) (by decide) (by decide) dL_extract_7 (fun H locs hE => ?_)
    refine lv_goto (tgt := 14) hx hb dL_extract_8 (by decide) ?_
    refine lv_iconst (v := nI 0) hx hb dL_extract_14 (by decide) ?_
    exact x_retL C hE (Or.inl ⟨_, τ, hp, rfl, rfl⟩) dL_extract_15
  · refine lv_astore_n (lv' := [(2, .ref xa)]) hx hb dL_extract_11 rfl (lv_sub hl [] rfl) (by decide) rfl (fun ls hl => ?_)
    refine lv_iconst (v := nI 1) hx hb dL_extract_12 (by decide) ?_
    exact x_retL C hE (Or.inr ⟨ht, rfl, rfl⟩) dL_extract_13
set_option maxRecDepth 4000 in
theorem c_L_wit (l : Launch) {a0 : Array Value} {s0 : State} (hx0 : x0 a0 s0) (D : va_G) (cs : Nat → ClassId) (ad : Nat → Nat) (μ : Mem) (x : Int32) {post : Int32 → Mem → Prop} {tp : String → Prop} (hM : MetX l s0 (wE D cs ad) cs yE_wit bE_wit 2 (some .int) 6 82 [.ref (ad 0), .int x] (msub 0 μ) post tp) (hJ : ∀ K, tp K → K = "java/lang/IndexOutOfBoundsException") : MetL l s0 (wL D cs ad) cs yL_wit bL_wit 4 [(0, 9, 12, 32)] 7 103 [.ref (ad 0), .int x, .ref (ad 68)] μ (fun r τ => (∃ v σ1, post v σ1 ∧ r = nI 0 ∧ τ = mset (mput 0 58 μ σ1) 68 0 v) ∨ (tp "java/lang/IndexOutOfBoundsException" ∧ r = nI 1 ∧ τ = μ)) := by
  refine MetL.start (by decide) (Nat.le_of_ble_eq_true rfl) ?_
  intro p e s m below meth c A ls C hk hA hE hl hX hAs htb
  obtain ⟨hx, hb, hml, hown, hts, hr, hlocks⟩ := id C
  have hl : lv_has ls 4 [(0, .ref (ad 0)), (1, .int x), (2, .ref (ad 68))] := hl
  refine lv_aload_n hx hb dL_wit_0 rfl (lv_at hl 2 rfl) ?_
  refine lv_iconst (v := nI 0) hx hb dL_wit_1 (by decide) ?_
  refine lv_aload_n hx hb dL_wit_2 rfl (lv_at hl 0 rfl) ?_
  refine lv_iload_n hx hb dL_wit_3 rfl (lv_at hl 1 rfl) ?_
  refine x_wrap1 C hk hE hA hx0 hX hAs sub_E hl.1 (q := 0) (As := [.int x]) (rest := [.int (nI 0), .ref (ad 68)]) hM (Nat.le_of_ble_eq_true rfl) (ci := 5) (N := 7) (T := F_E) rfl rfl tw_512 tw_513 tw_514 tw_1 tw_515 (n := 1) (by decide +kernel) rfl rfl (Nat.le_of_ble_eq_true rfl) dL_wit_4 ⟨Nat.le_of_ble_eq_true rfl, Nat.le_of_ble_eq_true rfl⟩ ⟨Nat.le_of_ble_eq_true rfl, Nat.le_of_ble_eq_true rfl⟩ htb ⟨by decide, by decide⟩ (by decide) hJ tw_511 (by decide +kernel) (fun r τ H locs hp hE => ?_) (fun xa H locs ht hE => ?_)
  · refine lv_i2l (v := r.toInt64) hx hb dL_wit_7 rfl ?_
    refine w_last C hk hE 68 (Nat.le_of_ble_eq_true rfl) (n := 1) (i := 0) (fun _ => rfl) (by decide) (by decide) dL_wit_8 (fun H locs hE => ?_)
    refine lv_goto (tgt := 15) hx hb dL_wit_9 (by decide) ?_
    refine lv_iconst (v := nI 0) hx hb dL_wit_15 (by decide) ?_
    exact x_retL C hE (Or.inl ⟨_, τ, hp, rfl, rfl⟩) dL_wit_16
  · refine lv_astore_n (lv' := [(3, .ref xa)]) hx hb dL_wit_12 rfl (lv_sub hl [] rfl) (by decide) rfl (fun ls hl => ?_)
    refine lv_iconst (v := nI 1) hx hb dL_wit_13 (by decide) ?_
    exact x_retL C hE (Or.inr ⟨ht, rfl, rfl⟩) dL_wit_14
set_option maxRecDepth 4000 in
theorem c_L_items (l : Launch) {a0 : Array Value} {s0 : State} (hx0 : x0 a0 s0) (D : va_G) (cs : Nat → ClassId) (ad : Nat → Nat) (μ : Mem) (x : Int32) {post : Int32 → Mem → Prop} {tp : String → Prop} (hM : MetX l s0 (wE D cs ad) cs yE_items bE_items 2 (some .int) 6 82 [.ref (ad 0), .int x] (msub 0 μ) post tp) (hJ : ∀ K, tp K → K = "java/lang/IndexOutOfBoundsException") : MetL l s0 (wL D cs ad) cs yL_items bL_items 4 [(0, 9, 12, 32)] 7 103 [.ref (ad 0), .int x, .ref (ad 68)] μ (fun r τ => (∃ v σ1, post v σ1 ∧ r = nI 0 ∧ τ = mset (mput 0 58 μ σ1) 68 0 v) ∨ (tp "java/lang/IndexOutOfBoundsException" ∧ r = nI 1 ∧ τ = μ)) := by
  refine MetL.start (by decide) (Nat.le_of_ble_eq_true rfl) ?_
  intro p e s m below meth c A ls C hk hA hE hl hX hAs htb
  obtain ⟨hx, hb, hml, hown, hts, hr, hlocks⟩ := id C
  have hl : lv_has ls 4 [(0, .ref (ad 0)), (1, .int x), (2, .ref (ad 68))] := hl
  refine lv_aload_n hx hb dL_items_0 rfl (lv_at hl 2 rfl) ?_
  refine lv_iconst (v := nI 0) hx hb dL_items_1 (by decide) ?_
  refine lv_aload_n hx hb dL_items_2 rfl (lv_at hl 0 rfl) ?_
  refine lv_iload_n hx hb dL_items_3 rfl (lv_at hl 1 rfl) ?_
  refine x_wrap1 C hk hE hA hx0 hX hAs sub_E hl.1 (q := 0) (As := [.int x]) (rest := [.int (nI 0), .ref (ad 68)]) hM (Nat.le_of_ble_eq_true rfl) (ci := 5) (N := 7) (T := F_E) rfl rfl tw_535 tw_536 tw_537 tw_1 tw_538 (n := 1) (by decide +kernel) rfl rfl (Nat.le_of_ble_eq_true rfl) dL_items_4 ⟨Nat.le_of_ble_eq_true rfl, Nat.le_of_ble_eq_true rfl⟩ ⟨Nat.le_of_ble_eq_true rfl, Nat.le_of_ble_eq_true rfl⟩ htb ⟨by decide, by decide⟩ (by decide) hJ tw_511 (by decide +kernel) (fun r τ H locs hp hE => ?_) (fun xa H locs ht hE => ?_)
  · refine lv_i2l (v := r.toInt64) hx hb dL_items_7 rfl ?_
    refine w_last C hk hE 68 (Nat.le_of_ble_eq_true rfl) (n := 1) (i := 0) (fun _ => rfl) (by decide) (by decide) dL_items_8 (fun H locs hE => ?_)
    refine lv_goto (tgt := 15) hx hb dL_items_9 (by decide) ?_
    refine lv_iconst (v := nI 0) hx hb dL_items_15 (by decide) ?_
    exact x_retL C hE (Or.inl ⟨_, τ, hp, rfl, rfl⟩) dL_items_16
  · refine lv_astore_n (lv' := [(3, .ref xa)]) hx hb dL_items_12 rfl (lv_sub hl [] rfl) (by decide) rfl (fun ls hl => ?_)
    refine lv_iconst (v := nI 1) hx hb dL_items_13 (by decide) ?_
    exact x_retL C hE (Or.inr ⟨ht, rfl, rfl⟩) dL_items_14
set_option maxRecDepth 4000 in
theorem c_L_item (l : Launch) {a0 : Array Value} {s0 : State} (hx0 : x0 a0 s0) (D : va_G) (cs : Nat → ClassId) (ad : Nat → Nat) (μ : Mem) (x z : Int32) {post : Int32 → Mem → Prop} {tp : String → Prop} (hM : MetX l s0 (wE D cs ad) cs yE_item bE_item 3 (some .int) 6 82 [.ref (ad 0), .int x, .int z] (msub 0 μ) post tp) (hJ : ∀ K, tp K → K = "java/lang/IndexOutOfBoundsException") : MetL l s0 (wL D cs ad) cs yL_item bL_item 5 [(0, 10, 13, 32)] 7 104 [.ref (ad 0), .int x, .int z, .ref (ad 68)] μ (fun r τ => (∃ v σ1, post v σ1 ∧ r = nI 0 ∧ τ = mset (mput 0 58 μ σ1) 68 0 v) ∨ (tp "java/lang/IndexOutOfBoundsException" ∧ r = nI 1 ∧ τ = μ)) := by
  refine MetL.start (by decide) (Nat.le_of_ble_eq_true rfl) ?_
  intro p e s m below meth c A ls C hk hA hE hl hX hAs htb
  obtain ⟨hx, hb, hml, hown, hts, hr, hlocks⟩ := id C
  have hl : lv_has ls 5 [(0, .ref (ad 0)), (1, .int x), (2, .int z), (3, .ref (ad 68))] := hl
  refine lv_aload_n hx hb dL_item_0 rfl (lv_at hl 3 rfl) ?_
  refine lv_iconst (v := nI 0) hx hb dL_item_1 (by decide) ?_
  refine lv_aload_n hx hb dL_item_2 rfl (lv_at hl 0 rfl) ?_
  refine lv_iload_n hx hb dL_item_3 rfl (lv_at hl 1 rfl) ?_
  refine lv_iload_n hx hb dL_item_4 rfl (lv_at hl 2 rfl) ?_
  refine x_wrap1 C hk hE hA hx0 hX hAs sub_E hl.1 (q := 0) (As := [.int x, .int z]) (rest := [.int (nI 0), .ref (ad 68)]) hM (Nat.le_of_ble_eq_true rfl) (ci := 5) (N := 7) (T := F_E) rfl rfl tw_547 tw_548 tw_549 tw_1 tw_550 (n := 2) (by decide +kernel) rfl rfl (Nat.le_of_ble_eq_true rfl) dL_item_5 ⟨Nat.le_of_ble_eq_true rfl, Nat.le_of_ble_eq_true rfl⟩ ⟨Nat.le_of_ble_eq_true rfl, Nat.le_of_ble_eq_true rfl⟩ htb ⟨by decide, by decide⟩ (by decide) hJ tw_511 (by decide +kernel) (fun r τ H locs hp hE => ?_) (fun xa H locs ht hE => ?_)
  · refine lv_i2l (v := r.toInt64) hx hb dL_item_8 rfl ?_
    refine w_last C hk hE 68 (Nat.le_of_ble_eq_true rfl) (n := 1) (i := 0) (fun _ => rfl) (by decide) (by decide) dL_item_9 (fun H locs hE => ?_)
    refine lv_goto (tgt := 17) hx hb dL_item_10 (by decide) ?_
    refine lv_iconst (v := nI 0) hx hb dL_item_17 (by decide) ?_
    exact x_retL C hE (Or.inl ⟨_, τ, hp, rfl, rfl⟩) dL_item_18
  · refine lv_astore (lv' := [(4, .ref xa)]) hx hb dL_item_13 (lv_sub hl [] rfl) (by decide) rfl (fun ls hl => ?_)
    refine lv_iconst (v := nI 1) hx hb dL_item_15 (by decide) ?_
    exact x_retL C hE (Or.inr ⟨ht, rfl, rfl⟩) dL_item_16
set_option maxRecDepth 4000 in
theorem c_L_steps (l : Launch) {a0 : Array Value} {s0 : State} (hx0 : x0 a0 s0) (D : va_G) (cs : Nat → ClassId) (ad : Nat → Nat) (μ : Mem) (x z u : Int32) {post : Int32 → Mem → Prop} {tp : String → Prop} (hM : MetX l s0 (wE D cs ad) cs yE_steps bE_steps 4 (some .int) 6 82 [.ref (ad 0), .int x, .int z, .int u] (msub 0 μ) post tp) (hJ : ∀ K, tp K → K = "java/lang/IllegalArgumentException" ∨ K = "java/lang/IndexOutOfBoundsException") : MetL l s0 (wL D cs ad) cs yL_steps bL_steps 6 [(0, 12, 15, 15), (0, 12, 19, 32)] 7 105 [.ref (ad 0), .int x, .int z, .int u, .ref (ad 68)] μ (fun r τ => (∃ v σ1, post v σ1 ∧ r = nI 0 ∧ τ = mset (mput 0 58 μ σ1) 68 0 v) ∨ (tp "java/lang/IllegalArgumentException" ∧ r = nI 1 ∧ τ = μ) ∨ (tp "java/lang/IndexOutOfBoundsException" ∧ r = nI 2 ∧ τ = μ)) := by
  refine MetL.start (by decide) (Nat.le_of_ble_eq_true rfl) ?_
  intro p e s m below meth c A ls C hk hA hE hl hX hAs htb
  obtain ⟨hx, hb, hml, hown, hts, hr, hlocks⟩ := id C
  have hl : lv_has ls 6 [(0, .ref (ad 0)), (1, .int x), (2, .int z), (3, .int u), (4, .ref (ad 68))] := hl
  refine lv_aload hx hb dL_steps_0 (lv_at hl 4 rfl) ?_
  refine lv_iconst (v := nI 0) hx hb dL_steps_2 (by decide) ?_
  refine lv_aload_n hx hb dL_steps_3 rfl (lv_at hl 0 rfl) ?_
  refine lv_iload_n hx hb dL_steps_4 rfl (lv_at hl 1 rfl) ?_
  refine lv_iload_n hx hb dL_steps_5 rfl (lv_at hl 2 rfl) ?_
  refine lv_iload_n hx hb dL_steps_6 rfl (lv_at hl 3 rfl) ?_
  refine x_wrap2 C hk hE hA hx0 hX hAs sub_E hl.1 (q := 0) (As := [.int x, .int z, .int u]) (rest := [.int (nI 0), .ref (ad 68)]) hM (Nat.le_of_ble_eq_true rfl) (ci := 5) (N := 7) (T := F_E) rfl rfl tw_563 tw_564 tw_565 tw_1 tw_566 (n := 3) (by decide +kernel) rfl rfl (Nat.le_of_ble_eq_true rfl) dL_steps_7 ⟨Nat.le_of_ble_eq_true rfl, Nat.le_of_ble_eq_true rfl⟩ ⟨Nat.le_of_ble_eq_true rfl, Nat.le_of_ble_eq_true rfl⟩ htb ⟨by decide, by decide⟩ (by decide) ⟨by decide, by decide⟩ (by decide) hJ tw_307 tw_511 (by decide +kernel) (by decide +kernel) (by decide +kernel) (fun r τ H locs hp hE => ?_) (fun xa H locs ht hE => ?_) (fun xa H locs ht hE => ?_)
  · refine lv_i2l (v := r.toInt64) hx hb dL_steps_10 rfl ?_
    refine w_last C hk hE 68 (Nat.le_of_ble_eq_true rfl) (n := 1) (i := 0) (fun _ => rfl) (by decide) (by decide) dL_steps_11 (fun H locs hE => ?_)
    refine lv_goto (tgt := 23) hx hb dL_steps_12 (by decide) ?_
    refine lv_iconst (v := nI 0) hx hb dL_steps_23 (by decide) ?_
    exact x_retL C hE (Or.inl ⟨_, τ, hp, rfl, rfl⟩) dL_steps_24
  · refine lv_astore (lv' := [(5, .ref xa)]) hx hb dL_steps_15 (lv_sub hl [] rfl) (by decide) rfl (fun ls hl => ?_)
    refine lv_iconst (v := nI 1) hx hb dL_steps_17 (by decide) ?_
    exact x_retL C hE (Or.inr (Or.inl ⟨ht, rfl, rfl⟩)) dL_steps_18
  · refine lv_astore (lv' := [(5, .ref xa)]) hx hb dL_steps_19 (lv_sub hl [] rfl) (by decide) rfl (fun ls hl => ?_)
    refine lv_iconst (v := nI 2) hx hb dL_steps_21 (by decide) ?_
    exact x_retL C hE (Or.inr (Or.inr ⟨ht, rfl, rfl⟩)) dL_steps_22
set_option maxRecDepth 4000 in
theorem c_L_nullable (l : Launch) {a0 : Array Value} {s0 : State} (hx0 : x0 a0 s0) (D : va_G) (cs : Nat → ClassId) (ad : Nat → Nat) (μ : Mem) (x : Int32) {post : Int32 → Mem → Prop} {tp : String → Prop} (hM : MetX l s0 (wE D cs ad) cs yE_nullable bE_nullable 2 (some .boolean) 6 82 [.ref (ad 0), .int x] (msub 0 μ) post tp) (hJ : ∀ K, tp K → K = "java/lang/IllegalArgumentException") (h01 : ∀ v σ1, post v σ1 → v = 0 ∨ v = 1) : MetL l s0 (wL D cs ad) cs yL_nullable bL_nullable 4 [(0, 16, 19, 15)] 7 103 [.ref (ad 0), .int x, .ref (ad 68)] μ (fun r τ => (∃ v σ1, post v σ1 ∧ r = nI 0 ∧ τ = mset (mput 0 58 μ σ1) 68 0 v) ∨ (tp "java/lang/IllegalArgumentException" ∧ r = nI 1 ∧ τ = μ)) := by
  refine MetL.start (by decide) (Nat.le_of_ble_eq_true rfl) ?_
  intro p e s m below meth c A ls C hk hA hE hl hX hAs htb
  obtain ⟨hx, hb, hml, hown, hts, hr, hlocks⟩ := id C
  have hl : lv_has ls 4 [(0, .ref (ad 0)), (1, .int x), (2, .ref (ad 68))] := hl
  refine lv_aload_n hx hb dL_nullable_0 rfl (lv_at hl 2 rfl) ?_
  refine lv_iconst (v := nI 0) hx hb dL_nullable_1 (by decide) ?_
  refine lv_aload_n hx hb dL_nullable_2 rfl (lv_at hl 0 rfl) ?_
  refine lv_iload_n hx hb dL_nullable_3 rfl (lv_at hl 1 rfl) ?_
  refine x_wrap1 C hk hE hA hx0 hX hAs sub_E hl.1 (q := 0) (As := [.int x]) (rest := [.int (nI 0), .ref (ad 68)]) hM (Nat.le_of_ble_eq_true rfl) (ci := 5) (N := 7) (T := F_E) rfl rfl tw_572 tw_573 tw_574 tw_1 tw_575 (n := 1) (by decide +kernel) rfl rfl (Nat.le_of_ble_eq_true rfl) dL_nullable_4 ⟨Nat.le_of_ble_eq_true rfl, Nat.le_of_ble_eq_true rfl⟩ ⟨Nat.le_of_ble_eq_true rfl, Nat.le_of_ble_eq_true rfl⟩ htb ⟨by decide, by decide⟩ (by decide) hJ tw_307 (by decide +kernel) (fun r τ H locs hp hE => ?_) (fun xa H locs ht hE => ?_)
  · refine lv_if_eq (tgt := 14) hx hb dL_nullable_7 (by decide) (fun hv => ?_) (fun hv => ?_)
    · have hv : r = nI 0 := hv
      refine lv_lconst (v := (nI 0).toInt64) hx hb dL_nullable_14 (by decide) ?_
      refine w_last C hk hE 68 (Nat.le_of_ble_eq_true rfl) (n := 1) (i := 0) (fun _ => rfl) (by decide) (by decide) dL_nullable_15 (fun H locs hE => ?_)
      refine lv_goto (tgt := 22) hx hb dL_nullable_16 (by decide) ?_
      refine lv_iconst (v := nI 0) hx hb dL_nullable_22 (by decide) ?_
      exact x_retL C hE (Or.inl ⟨_, τ, hv ▸ hp, rfl, rfl⟩) dL_nullable_23
    · have hv : r = nI 1 := (h01 r τ hp).resolve_left hv
      refine lv_lconst (v := (nI 1).toInt64) hx hb dL_nullable_10 (by decide) ?_
      refine lv_goto (tgt := 15) hx hb dL_nullable_11 (by decide) ?_
      refine w_last C hk hE 68 (Nat.le_of_ble_eq_true rfl) (n := 1) (i := 0) (fun _ => rfl) (by decide) (by decide) dL_nullable_15 (fun H locs hE => ?_)
      refine lv_goto (tgt := 22) hx hb dL_nullable_16 (by decide) ?_
      refine lv_iconst (v := nI 0) hx hb dL_nullable_22 (by decide) ?_
      exact x_retL C hE (Or.inl ⟨_, τ, hv ▸ hp, rfl, rfl⟩) dL_nullable_23
  · refine lv_astore_n (lv' := [(3, .ref xa)]) hx hb dL_nullable_19 rfl (lv_sub hl [] rfl) (by decide) rfl (fun ls hl => ?_)
    refine lv_iconst (v := nI 1) hx hb dL_nullable_20 (by decide) ?_
    exact x_retL C hE (Or.inr ⟨ht, rfl, rfl⟩) dL_nullable_21
