set_option maxHeartbeats 4000000 in
set_option maxRecDepth 100000 in
theorem case_addProd {p : Program} {l : Launch} {e : Env} {s : State} {m : MethodId} {below : List Frame} {meth : Method} {c : Code} {H : Heap} {locs : List Loc} {cells slots : Nat} {Q : State → Prop} {ls : Array Slot} {b L i : Nat} {xs : Nat → Int32} {D : va_G} {cs : Nat → ClassId} {ad : Nat → Nat} {μ : Mem} (hC : LC p l s m meth c b L xs D cs) (h : LSt s D cs ad b i μ H locs ls) (hi : i + 3 < L) (hcel : cells + 1 ≤ room_1.cells ∧ slots + 6 ≤ room_1.slots)
    (K : ∀ (μ : Mem) (H : Heap) (locs : List Loc) (ls : Array Slot), LSt s D cs ad b i μ H locs ls → W p l e room_1 s m #[.ref b] below meth c H locs (cells + 1) (slots + 6) Q (F0 m 745 ls [])) : W p l e room_1 s m #[.ref b] below meth c H locs cells slots Q (F0 m 132 ls []) := by
  have hC0 := hC
  obtain ⟨C, hk, hx0, hXs, hbl, hl0, hL⟩ := hC
  obtain ⟨hx, hb, hml, hown, hts, hr, hlocks⟩ := id C
  obtain ⟨hE, ⟨tok, P, S, n, V, T, s9, r9, hREL⟩, hl⟩ := h
  have hbA : ¬ lA s b := Nat.not_le.mpr hbl
  refine lv_aload_n hx hb dL_law_132 rfl (lv_at hl 1 rfl) ?_
  refine lv_aload_n hx hb dL_law_133 rfl (lv_at hl 0 rfl) ?_
  refine lv_iload hx hb dL_law_134 (lv_at hl 4 rfl) ?_
  refine lv_iconst (v := nI 1) hx hb dL_law_136 (by decide) ?_
  refine lv_iadd hx hb dL_law_137 ?_
  refine w_top (y := nI (i + 1)) (by exact nI_add _ _) ?_
  refine l_sld hx hb hXs hbl hbA hE.2.2 (by omega) (by omega) dL_law_138 ?_
  refine lv_aload_n hx hb dL_law_139 rfl (lv_at hl 3 rfl) ?_
  refine l_callL C hk hE (fun _ h => h) hx0 xK_rf (fun _ h => h) hl.1 (As := [.ref (ad 0), .int (xs (i + 1)), .ref (ad 68)]) (rest := []) (c_L_addProd l hx0 D cs ad μ (xs (i + 1)) (c_E_addProd l D cs ad (msub 0 μ) P S n V T (xs (i + 1)) hl0 hx0 hREL.1.1) (fun K h => h.elim (fun q => Or.inl q.2) (fun q => Or.inr q.2.2))) tw_303 tw_304 tw_0 (List.mem_of_getElem? (i := 305) (by decide +kernel)) (n := 3) (by decide +kernel) rfl rfl (Nat.le_of_ble_eq_true rfl) dL_law_140 ⟨Nat.le_of_ble_eq_true rfl, Nat.le_of_ble_eq_true rfl⟩ hcel (fun r τ H locs hp hE => ?_)
  refine lv_istore (lv' := (5, .int r) :: lB b ad i) hx hb dL_law_143 hl (by decide) rfl (fun ls hl => ?_)
  have hR2 : REL tok (msub 0 μ) (msub 58 τ) P S n V T s9 r9 := rel_cong hREL (fun q hq => rfl) (fun q hq => wp_58a hp hq)
  refine lv_aload_n hx hb dL_law_145 rfl (lv_at hl 3 rfl) ?_
  refine lv_aload_n hx hb dL_law_146 rfl (lv_at hl 1 rfl) ?_
  refine lv_iload hx hb dL_law_147 (lv_at hl 5 rfl) ?_
  refine lv_iconst (v := nI 1) hx hb dL_law_149 (by decide) ?_
  refine lv_iadd hx hb dL_law_150 ?_
  refine w_top (y := nI (i + 1)) (by exact nI_add _ _) ?_
  refine l_sld hx hb hXs hbl hbA hE.2.2 (by omega) (by omega) dL_law_151 ?_
  refine s_ci hE sub_M (fun _ h => h) (s_runV C hk hE sub_M hl.1 (As := [.int (xs (i + 1))]) (rest := []) (q := 0) (c_M_addProd l D cs (fun j => ad (j + 58)) (msub 58 τ) P n V T (xs (i + 1)) hR2.2.1.1 _) (Nat.le_of_ble_eq_true rfl) (ci := 6) (N := 17) (T := F_M) rfl rfl tw_639 tw_640 tw_641 tw_9 tw_642 (n := 1) (by decide +kernel) rfl rfl (Nat.le_of_ble_eq_true rfl) dL_law_152 ⟨Nat.le_of_ble_eq_true rfl, Nat.le_of_ble_eq_true rfl⟩ hcel) (fun b2 μ1 H locs hp2 hE _ => ?_)
  have hop := op_addProd hR2 hp2
  have hw : wpR τ μ1 r b2 := wp_res2 hp hop.1 (fun h => hop.2.1 (h.elim (fun q => q.1) (fun q => absurd q.2.2 (by decide)))) (fun h => hop.2.2 (h.elim (fun q => absurd q.2 (by decide)) (fun q => ⟨q.1, q.2.1⟩)))
  exact l_tail hC0 hE hl hw hcel dL_law_155 dL_law_157 dL_law_158 dL_law_161 dL_law_163 dL_law_168 dL_law_170 dL_law_173 dL_law_174 dL_law_175 dL_law_176 dL_law_178 dL_law_179 dL_law_180 dL_law_185 (by decide) K
set_option maxHeartbeats 4000000 in
set_option maxRecDepth 100000 in
theorem case_addRhs {p : Program} {l : Launch} {e : Env} {s : State} {m : MethodId} {below : List Frame} {meth : Method} {c : Code} {H : Heap} {locs : List Loc} {cells slots : Nat} {Q : State → Prop} {ls : Array Slot} {b L i : Nat} {xs : Nat → Int32} {D : va_G} {cs : Nat → ClassId} {ad : Nat → Nat} {μ : Mem} (hC : LC p l s m meth c b L xs D cs) (h : LSt s D cs ad b i μ H locs ls) (hi : i + 3 < L) (hcel : cells + 1 ≤ room_1.cells ∧ slots + 6 ≤ room_1.slots)
    (K : ∀ (μ : Mem) (H : Heap) (locs : List Loc) (ls : Array Slot), LSt s D cs ad b i μ H locs ls → W p l e room_1 s m #[.ref b] below meth c H locs (cells + 1) (slots + 6) Q (F0 m 745 ls [])) : W p l e room_1 s m #[.ref b] below meth c H locs cells slots Q (F0 m 188 ls []) := by
  have hC0 := hC
  obtain ⟨C, hk, hx0, hXs, hbl, hl0, hL⟩ := hC
  obtain ⟨hx, hb, hml, hown, hts, hr, hlocks⟩ := id C
  obtain ⟨hE, ⟨tok, P, S, n, V, T, s9, r9, hREL⟩, hl⟩ := h
  have hbA : ¬ lA s b := Nat.not_le.mpr hbl
  refine lv_aload_n hx hb dL_law_188 rfl (lv_at hl 1 rfl) ?_
  refine lv_aload_n hx hb dL_law_189 rfl (lv_at hl 0 rfl) ?_
  refine lv_iload hx hb dL_law_190 (lv_at hl 4 rfl) ?_
  refine lv_iconst (v := nI 1) hx hb dL_law_192 (by decide) ?_
  refine lv_iadd hx hb dL_law_193 ?_
  refine w_top (y := nI (i + 1)) (by exact nI_add _ _) ?_
  refine l_sld hx hb hXs hbl hbA hE.2.2 (by omega) (by omega) dL_law_194 ?_
  refine lv_aload_n hx hb dL_law_195 rfl (lv_at hl 3 rfl) ?_
  refine l_callL C hk hE (fun _ h => h) hx0 xK_rf (fun _ h => h) hl.1 (As := [.ref (ad 0), .int (xs (i + 1)), .ref (ad 68)]) (rest := []) (c_L_addRhs l hx0 D cs ad μ (xs (i + 1)) (c_E_addRhs l D cs ad (msub 0 μ) P S n V T (xs (i + 1)) hl0 hx0 hREL.1.1) (fun K h => h.elim (fun q => Or.inl q.2) (fun q => Or.inr q.2.2.2))) tw_409 tw_410 tw_0 (List.mem_of_getElem? (i := 411) (by decide +kernel)) (n := 3) (by decide +kernel) rfl rfl (Nat.le_of_ble_eq_true rfl) dL_law_196 ⟨Nat.le_of_ble_eq_true rfl, Nat.le_of_ble_eq_true rfl⟩ hcel (fun r τ H locs hp hE => ?_)
  refine lv_istore (lv' := (5, .int r) :: lB b ad i) hx hb dL_law_199 hl (by decide) rfl (fun ls hl => ?_)
  have hR2 : REL tok (msub 0 μ) (msub 58 τ) P S n V T s9 r9 := rel_cong hREL (fun q hq => rfl) (fun q hq => wp_58a hp hq)
  refine lv_aload_n hx hb dL_law_201 rfl (lv_at hl 3 rfl) ?_
  refine lv_aload_n hx hb dL_law_202 rfl (lv_at hl 1 rfl) ?_
  refine lv_iload hx hb dL_law_203 (lv_at hl 5 rfl) ?_
  refine lv_iconst (v := nI 1) hx hb dL_law_205 (by decide) ?_
  refine lv_iadd hx hb dL_law_206 ?_
  refine w_top (y := nI (i + 1)) (by exact nI_add _ _) ?_
  refine l_sld hx hb hXs hbl hbA hE.2.2 (by omega) (by omega) dL_law_207 ?_
  refine s_ci hE sub_M (fun _ h => h) (s_runV C hk hE sub_M hl.1 (As := [.int (xs (i + 1))]) (rest := []) (q := 0) (c_M_addRhs l D cs (fun j => ad (j + 58)) (msub 58 τ) P n V T (xs (i + 1)) hR2.2.1.1 _) (Nat.le_of_ble_eq_true rfl) (ci := 6) (N := 17) (T := F_M) rfl rfl tw_675 tw_676 tw_677 tw_9 tw_678 (n := 1) (by decide +kernel) rfl rfl (Nat.le_of_ble_eq_true rfl) dL_law_208 ⟨Nat.le_of_ble_eq_true rfl, Nat.le_of_ble_eq_true rfl⟩ hcel) (fun b2 μ1 H locs hp2 hE _ => ?_)
  have hop := op_addRhs hR2 hp2
  have hw : wpR τ μ1 r b2 := wp_res2 hp hop.1 (fun h => hop.2.1 (h.elim (fun q => q.1) (fun q => absurd q.2.2.2 (by decide)))) (fun h => hop.2.2 (h.elim (fun q => absurd q.2 (by decide)) (fun q => ⟨q.1, q.2.1, q.2.2.1⟩)))
  exact l_tail hC0 hE hl hw hcel dL_law_211 dL_law_213 dL_law_214 dL_law_217 dL_law_219 dL_law_224 dL_law_226 dL_law_229 dL_law_230 dL_law_231 dL_law_232 dL_law_234 dL_law_235 dL_law_236 dL_law_241 (by decide) K
set_option maxHeartbeats 4000000 in
set_option maxRecDepth 100000 in
theorem case_feed {p : Program} {l : Launch} {e : Env} {s : State} {m : MethodId} {below : List Frame} {meth : Method} {c : Code} {H : Heap} {locs : List Loc} {cells slots : Nat} {Q : State → Prop} {ls : Array Slot} {b L i : Nat} {xs : Nat → Int32} {D : va_G} {cs : Nat → ClassId} {ad : Nat → Nat} {μ : Mem} (hC : LC p l s m meth c b L xs D cs) (h : LSt s D cs ad b i μ H locs ls) (hi : i + 3 < L) (hcel : cells + 1 ≤ room_1.cells ∧ slots + 6 ≤ room_1.slots)
    (K : ∀ (μ : Mem) (H : Heap) (locs : List Loc) (ls : Array Slot), LSt s D cs ad b i μ H locs ls → W p l e room_1 s m #[.ref b] below meth c H locs (cells + 1) (slots + 6) Q (F0 m 745 ls [])) : W p l e room_1 s m #[.ref b] below meth c H locs cells slots Q (F0 m 244 ls []) := by
  have hC0 := hC
  obtain ⟨C, hk, hx0, hXs, hbl, hl0, hL⟩ := hC
  obtain ⟨hx, hb, hml, hown, hts, hr, hlocks⟩ := id C
  obtain ⟨hE, ⟨tok, P, S, n, V, T, s9, r9, hREL⟩, hl⟩ := h
  have hbA : ¬ lA s b := Nat.not_le.mpr hbl
  refine lv_aload_n hx hb dL_law_244 rfl (lv_at hl 1 rfl) ?_
  refine lv_aload_n hx hb dL_law_245 rfl (lv_at hl 0 rfl) ?_
  refine lv_iload hx hb dL_law_246 (lv_at hl 4 rfl) ?_
  refine lv_iconst (v := nI 1) hx hb dL_law_248 (by decide) ?_
  refine lv_iadd hx hb dL_law_249 ?_
  refine w_top (y := nI (i + 1)) (by exact nI_add _ _) ?_
  refine l_sld hx hb hXs hbl hbA hE.2.2 (by omega) (by omega) dL_law_250 ?_
  refine lv_aload_n hx hb dL_law_251 rfl (lv_at hl 3 rfl) ?_
  refine l_callL C hk hE (fun _ h => h) hx0 xK_rf (fun _ h => h) hl.1 (As := [.ref (ad 0), .int (xs (i + 1)), .ref (ad 68)]) (rest := []) (c_L_feed l hx0 D cs ad μ (xs (i + 1)) (c_E_feed l D cs ad (msub 0 μ) P S n V T (xs (i + 1)) hl0 hx0 hREL.1.1) (fun K h => h.elim (fun q => Or.inl q.2) (fun q => Or.inr q.2.2))) tw_436 tw_437 tw_0 (List.mem_of_getElem? (i := 438) (by decide +kernel)) (n := 3) (by decide +kernel) rfl rfl (Nat.le_of_ble_eq_true rfl) dL_law_252 ⟨Nat.le_of_ble_eq_true rfl, Nat.le_of_ble_eq_true rfl⟩ hcel (fun r τ H locs hp hE => ?_)
  refine lv_istore (lv' := (5, .int r) :: lB b ad i) hx hb dL_law_255 hl (by decide) rfl (fun ls hl => ?_)
  have hR2 : REL tok (msub 0 μ) (msub 58 τ) P S n V T s9 r9 := rel_cong hREL (fun q hq => rfl) (fun q hq => wp_58a hp hq)
  refine lv_aload_n hx hb dL_law_257 rfl (lv_at hl 3 rfl) ?_
  refine lv_aload_n hx hb dL_law_258 rfl (lv_at hl 1 rfl) ?_
  refine lv_iload hx hb dL_law_259 (lv_at hl 5 rfl) ?_
  refine lv_iconst (v := nI 1) hx hb dL_law_261 (by decide) ?_
  refine lv_iadd hx hb dL_law_262 ?_
  refine w_top (y := nI (i + 1)) (by exact nI_add _ _) ?_
  refine l_sld hx hb hXs hbl hbA hE.2.2 (by omega) (by omega) dL_law_263 ?_
  refine s_ci hE sub_M (fun _ h => h) (s_runV C hk hE sub_M hl.1 (As := [.int (xs (i + 1))]) (rest := []) (q := 0) (c_M_feed l D cs (fun j => ad (j + 58)) (msub 58 τ) P n V T (xs (i + 1)) hR2.2.1.1 _) (Nat.le_of_ble_eq_true rfl) (ci := 6) (N := 17) (T := F_M) rfl rfl tw_687 tw_688 tw_689 tw_9 tw_690 (n := 1) (by decide +kernel) rfl rfl (Nat.le_of_ble_eq_true rfl) dL_law_264 ⟨Nat.le_of_ble_eq_true rfl, Nat.le_of_ble_eq_true rfl⟩ hcel) (fun b2 μ1 H locs hp2 hE _ => ?_)
  have hop := op_feed hR2 hp2
  have hw : wpR τ μ1 r b2 := wp_res2 hp hop.1 (fun h => hop.2.1 (h.elim (fun q => q.1) (fun q => absurd q.2.2 (by decide)))) (fun h => hop.2.2 (h.elim (fun q => absurd q.2 (by decide)) (fun q => ⟨q.1, q.2.1⟩)))
  exact l_tail hC0 hE hl hw hcel dL_law_267 dL_law_269 dL_law_270 dL_law_273 dL_law_275 dL_law_280 dL_law_282 dL_law_285 dL_law_286 dL_law_287 dL_law_288 dL_law_290 dL_law_291 dL_law_292 dL_law_297 (by decide) K
set_option maxHeartbeats 4000000 in
set_option maxRecDepth 100000 in
theorem case_extract {p : Program} {l : Launch} {e : Env} {s : State} {m : MethodId} {below : List Frame} {meth : Method} {c : Code} {H : Heap} {locs : List Loc} {cells slots : Nat} {Q : State → Prop} {ls : Array Slot} {b L i : Nat} {xs : Nat → Int32} {D : va_G} {cs : Nat → ClassId} {ad : Nat → Nat} {μ : Mem} (hC : LC p l s m meth c b L xs D cs) (h : LSt s D cs ad b i μ H locs ls) (hi : i + 3 < L) (hcel : cells + 1 ≤ room_1.cells ∧ slots + 6 ≤ room_1.slots)
    (K : ∀ (μ : Mem) (H : Heap) (locs : List Loc) (ls : Array Slot), LSt s D cs ad b i μ H locs ls → W p l e room_1 s m #[.ref b] below meth c H locs (cells + 1) (slots + 6) Q (F0 m 745 ls [])) : W p l e room_1 s m #[.ref b] below meth c H locs cells slots Q (F0 m 326 ls []) := by
  have hC0 := hC
  obtain ⟨C, hk, hx0, hXs, hbl, hl0, hL⟩ := hC
  obtain ⟨hx, hb, hml, hown, hts, hr, hlocks⟩ := id C
  obtain ⟨hE, ⟨tok, P, S, n, V, T, s9, r9, hREL⟩, hl⟩ := h
  have hbA : ¬ lA s b := Nat.not_le.mpr hbl
  refine lv_aload_n hx hb dL_law_326 rfl (lv_at hl 1 rfl) ?_
  refine lv_aload_n hx hb dL_law_327 rfl (lv_at hl 3 rfl) ?_
  refine l_callL C hk hE (fun _ h => h) hx0 xK_rf (fun _ h => h) hl.1 (As := [.ref (ad 0), .ref (ad 68)]) (rest := []) (c_L_extract l hx0 D cs ad μ  (c_E_extract l D cs ad (msub 0 μ) P S n V T hl0 hx0 hREL.1.1) (fun K h => h.2)) tw_458 tw_459 tw_0 (List.mem_of_getElem? (i := 460) (by decide +kernel)) (n := 2) (by decide +kernel) rfl rfl (Nat.le_of_ble_eq_true rfl) dL_law_328 ⟨Nat.le_of_ble_eq_true rfl, Nat.le_of_ble_eq_true rfl⟩ hcel (fun r τ H locs hp hE => ?_)
  refine lv_istore (lv' := (5, .int r) :: lB b ad i) hx hb dL_law_331 hl (by decide) rfl (fun ls hl => ?_)
  have hR2 : REL tok (msub 0 μ) (msub 58 τ) P S n V T s9 r9 := rel_cong hREL (fun q hq => rfl) (fun q hq => wp_58b hp hq)
  refine lv_aload_n hx hb dL_law_333 rfl (lv_at hl 3 rfl) ?_
  refine s_ci hE sub_M (fun _ h => h) (s_runV C hk hE sub_M hl.1 (As := []) (rest := []) (q := 0) (MetI_mem (rel_msr hR2) (c_M_extract l D cs (fun j => ad (j + 58)) (msub 58 τ) s9 r9 P n V T tok (rel_mJ hR2) hR2.2.1.2.1 hR2.2.1.2.2.2.2.2 (fun h => rel_gd hR2 (by rw [← rel_msr hR2] at h; exact h))) _) (Nat.le_of_ble_eq_true rfl) (ci := 6) (N := 17) (T := F_M) rfl rfl tw_728 tw_729 tw_730 tw_9 tw_731 (n := 0) (by decide +kernel) rfl rfl (Nat.le_of_ble_eq_true rfl) dL_law_334 ⟨Nat.le_of_ble_eq_true rfl, Nat.le_of_ble_eq_true rfl⟩ hcel) (fun b2 μ1 H locs hp2 hE _ => ?_)
  have hop := op_extract hR2 (by rw [← rel_msr hR2] at hp2; exact hp2)
  have hw : wpR τ μ1 r b2 := wp_res1 hp hop.1 (fun h => hop.2 (h.1))
  exact l_tail hC0 hE hl hw hcel dL_law_337 dL_law_339 dL_law_340 dL_law_343 dL_law_345 dL_law_350 dL_law_352 dL_law_355 dL_law_356 dL_law_357 dL_law_358 dL_law_360 dL_law_361 dL_law_362 dL_law_367 (by decide) K
set_option maxHeartbeats 4000000 in
set_option maxRecDepth 100000 in
theorem case_wit {p : Program} {l : Launch} {e : Env} {s : State} {m : MethodId} {below : List Frame} {meth : Method} {c : Code} {H : Heap} {locs : List Loc} {cells slots : Nat} {Q : State → Prop} {ls : Array Slot} {b L i : Nat} {xs : Nat → Int32} {D : va_G} {cs : Nat → ClassId} {ad : Nat → Nat} {μ : Mem} (hC : LC p l s m meth c b L xs D cs) (h : LSt s D cs ad b i μ H locs ls) (hi : i + 3 < L) (hcel : cells + 1 ≤ room_1.cells ∧ slots + 6 ≤ room_1.slots)
    (K : ∀ (μ : Mem) (H : Heap) (locs : List Loc) (ls : Array Slot), LSt s D cs ad b i μ H locs ls → W p l e room_1 s m #[.ref b] below meth c H locs (cells + 1) (slots + 6) Q (F0 m 745 ls [])) : W p l e room_1 s m #[.ref b] below meth c H locs cells slots Q (F0 m 383 ls []) := by
  have hC0 := hC
  obtain ⟨C, hk, hx0, hXs, hbl, hl0, hL⟩ := hC
  obtain ⟨hx, hb, hml, hown, hts, hr, hlocks⟩ := id C
  obtain ⟨hE, ⟨tok, P, S, n, V, T, s9, r9, hREL⟩, hl⟩ := h
  have hbA : ¬ lA s b := Nat.not_le.mpr hbl
  obtain ⟨c9, hc1, hc2, hc3, hc4⟩ := hREL.2.2
  refine lv_aload_n hx hb dL_law_383 rfl (lv_at hl 1 rfl) ?_
  refine lv_aload_n hx hb dL_law_384 rfl (lv_at hl 0 rfl) ?_
  refine lv_iload hx hb dL_law_385 (lv_at hl 4 rfl) ?_
  refine lv_iconst (v := nI 1) hx hb dL_law_387 (by decide) ?_
  refine lv_iadd hx hb dL_law_388 ?_
  refine w_top (y := nI (i + 1)) (by exact nI_add _ _) ?_
  refine l_sld hx hb hXs hbl hbA hE.2.2 (by omega) (by omega) dL_law_389 ?_
  refine lv_aload_n hx hb dL_law_390 rfl (lv_at hl 3 rfl) ?_
  refine l_callL C hk hE (fun _ h => h) hx0 xK_rf (fun _ h => h) hl.1 (As := [.ref (ad 0), .int (xs (i + 1)), .ref (ad 68)]) (rest := []) (c_L_wit l hx0 D cs ad μ (xs (i + 1)) (c_E_wit l D cs ad (msub 0 μ) c9 (xs (i + 1)) hl0 hx0 hc2 hc1) (fun K h => h.2)) tw_508 tw_509 tw_0 (List.mem_of_getElem? (i := 510) (by decide +kernel)) (n := 3) (by decide +kernel) rfl rfl (Nat.le_of_ble_eq_true rfl) dL_law_391 ⟨Nat.le_of_ble_eq_true rfl, Nat.le_of_ble_eq_true rfl⟩ hcel (fun r τ H locs hp hE => ?_)
  refine lv_istore (lv' := (5, .int r) :: lB b ad i) hx hb dL_law_394 hl (by decide) rfl (fun ls hl => ?_)
  have hR2 : REL tok (msub 0 μ) (msub 58 τ) P S n V T s9 r9 := rel_cong hREL (fun q hq => rfl) (fun q hq => wp_58b hp hq)
  have hc14 : msub 58 τ 0 14 = nI c9 := by rw [wp_58b hp (by decide)]; exact hc3
  refine lv_aload_n hx hb dL_law_396 rfl (lv_at hl 3 rfl) ?_
  refine lv_aload_n hx hb dL_law_397 rfl (lv_at hl 1 rfl) ?_
  refine lv_iload hx hb dL_law_398 (lv_at hl 5 rfl) ?_
  refine lv_iconst (v := nI 1) hx hb dL_law_400 (by decide) ?_
  refine lv_iadd hx hb dL_law_401 ?_
  refine w_top (y := nI (i + 1)) (by exact nI_add _ _) ?_
  refine l_sld hx hb hXs hbl hbA hE.2.2 (by omega) (by omega) dL_law_402 ?_
  refine s_ci hE sub_M (fun _ h => h) (s_runV C hk hE sub_M hl.1 (As := [.int (xs (i + 1))]) (rest := []) (q := 0) (c_M_wit l D cs (fun j => ad (j + 58)) (msub 58 τ) c9 (xs (i + 1)) hc14 hc1 _) (Nat.le_of_ble_eq_true rfl) (ci := 6) (N := 17) (T := F_M) rfl rfl tw_740 tw_741 tw_742 tw_9 tw_743 (n := 1) (by decide +kernel) rfl rfl (Nat.le_of_ble_eq_true rfl) dL_law_403 ⟨Nat.le_of_ble_eq_true rfl, Nat.le_of_ble_eq_true rfl⟩ hcel) (fun b2 μ1 H locs hp2 hE _ => ?_)
  have hop := op_wit hR2 hc1 hc2 hc14 hp2
  have hw : wpR τ μ1 r b2 := wp_res1 hp hop.1 (fun h => hop.2 (h))
  exact l_tail hC0 hE hl hw hcel dL_law_406 dL_law_408 dL_law_409 dL_law_412 dL_law_414 dL_law_419 dL_law_421 dL_law_424 dL_law_425 dL_law_426 dL_law_427 dL_law_429 dL_law_430 dL_law_431 dL_law_436 (by decide) K
set_option maxHeartbeats 4000000 in
set_option maxRecDepth 100000 in
theorem case_items {p : Program} {l : Launch} {e : Env} {s : State} {m : MethodId} {below : List Frame} {meth : Method} {c : Code} {H : Heap} {locs : List Loc} {cells slots : Nat} {Q : State → Prop} {ls : Array Slot} {b L i : Nat} {xs : Nat → Int32} {D : va_G} {cs : Nat → ClassId} {ad : Nat → Nat} {μ : Mem} (hC : LC p l s m meth c b L xs D cs) (h : LSt s D cs ad b i μ H locs ls) (hi : i + 3 < L) (hcel : cells + 1 ≤ room_1.cells ∧ slots + 6 ≤ room_1.slots)
    (K : ∀ (μ : Mem) (H : Heap) (locs : List Loc) (ls : Array Slot), LSt s D cs ad b i μ H locs ls → W p l e room_1 s m #[.ref b] below meth c H locs (cells + 1) (slots + 6) Q (F0 m 745 ls [])) : W p l e room_1 s m #[.ref b] below meth c H locs cells slots Q (F0 m 465 ls []) := by
  have hC0 := hC
  obtain ⟨C, hk, hx0, hXs, hbl, hl0, hL⟩ := hC
  obtain ⟨hx, hb, hml, hown, hts, hr, hlocks⟩ := id C
  obtain ⟨hE, ⟨tok, P, S, n, V, T, s9, r9, hREL⟩, hl⟩ := h
  have hbA : ¬ lA s b := Nat.not_le.mpr hbl
  refine lv_aload_n hx hb dL_law_465 rfl (lv_at hl 1 rfl) ?_
  refine lv_aload_n hx hb dL_law_466 rfl (lv_at hl 0 rfl) ?_
  refine lv_iload hx hb dL_law_467 (lv_at hl 4 rfl) ?_
  refine lv_iconst (v := nI 1) hx hb dL_law_469 (by decide) ?_
  refine lv_iadd hx hb dL_law_470 ?_
  refine w_top (y := nI (i + 1)) (by exact nI_add _ _) ?_
  refine l_sld hx hb hXs hbl hbA hE.2.2 (by omega) (by omega) dL_law_471 ?_
  refine lv_aload_n hx hb dL_law_472 rfl (lv_at hl 3 rfl) ?_
  refine l_callL C hk hE (fun _ h => h) hx0 xK_rf (fun _ h => h) hl.1 (As := [.ref (ad 0), .int (xs (i + 1)), .ref (ad 68)]) (rest := []) (c_L_items l hx0 D cs ad μ (xs (i + 1)) (c_E_items l D cs ad (msub 0 μ) P S n V T (xs (i + 1)) hl0 hx0 hREL.1.1) (fun K h => h.2)) tw_532 tw_533 tw_0 (List.mem_of_getElem? (i := 534) (by decide +kernel)) (n := 3) (by decide +kernel) rfl rfl (Nat.le_of_ble_eq_true rfl) dL_law_473 ⟨Nat.le_of_ble_eq_true rfl, Nat.le_of_ble_eq_true rfl⟩ hcel (fun r τ H locs hp hE => ?_)
  refine lv_istore (lv' := (5, .int r) :: lB b ad i) hx hb dL_law_476 hl (by decide) rfl (fun ls hl => ?_)
  have hR2 : REL tok (msub 0 μ) (msub 58 τ) P S n V T s9 r9 := rel_cong hREL (fun q hq => rfl) (fun q hq => wp_58b hp hq)
  refine lv_aload_n hx hb dL_law_478 rfl (lv_at hl 3 rfl) ?_
  refine lv_aload_n hx hb dL_law_479 rfl (lv_at hl 1 rfl) ?_
  refine lv_iload hx hb dL_law_480 (lv_at hl 5 rfl) ?_
  refine lv_iconst (v := nI 1) hx hb dL_law_482 (by decide) ?_
  refine lv_iadd hx hb dL_law_483 ?_
  refine w_top (y := nI (i + 1)) (by exact nI_add _ _) ?_
  refine l_sld hx hb hXs hbl hbA hE.2.2 (by omega) (by omega) dL_law_484 ?_
  refine s_ci hE sub_M (fun _ h => h) (s_runV C hk hE sub_M hl.1 (As := [.int (xs (i + 1))]) (rest := []) (q := 0) (c_M_items l D cs (fun j => ad (j + 58)) (msub 58 τ) P n V T (xs (i + 1)) hR2.2.1.1 _) (Nat.le_of_ble_eq_true rfl) (ci := 6) (N := 17) (T := F_M) rfl rfl tw_752 tw_753 tw_754 tw_9 tw_755 (n := 1) (by decide +kernel) rfl rfl (Nat.le_of_ble_eq_true rfl) dL_law_485 ⟨Nat.le_of_ble_eq_true rfl, Nat.le_of_ble_eq_true rfl⟩ hcel) (fun b2 μ1 H locs hp2 hE _ => ?_)
  have hop := op_items hR2 hp2
  have hw : wpR τ μ1 r b2 := wp_res1 hp hop.1 (fun h => hop.2 (h))
  exact l_tail hC0 hE hl hw hcel dL_law_488 dL_law_490 dL_law_491 dL_law_494 dL_law_496 dL_law_501 dL_law_503 dL_law_506 dL_law_507 dL_law_508 dL_law_509 dL_law_511 dL_law_512 dL_law_513 dL_law_518 (by decide) K
set_option maxHeartbeats 4000000 in
set_option maxRecDepth 100000 in
theorem case_item {p : Program} {l : Launch} {e : Env} {s : State} {m : MethodId} {below : List Frame} {meth : Method} {c : Code} {H : Heap} {locs : List Loc} {cells slots : Nat} {Q : State → Prop} {ls : Array Slot} {b L i : Nat} {xs : Nat → Int32} {D : va_G} {cs : Nat → ClassId} {ad : Nat → Nat} {μ : Mem} (hC : LC p l s m meth c b L xs D cs) (h : LSt s D cs ad b i μ H locs ls) (hi : i + 3 < L) (hcel : cells + 1 ≤ room_1.cells ∧ slots + 6 ≤ room_1.slots)
    (K : ∀ (μ : Mem) (H : Heap) (locs : List Loc) (ls : Array Slot), LSt s D cs ad b i μ H locs ls → W p l e room_1 s m #[.ref b] below meth c H locs (cells + 1) (slots + 6) Q (F0 m 745 ls [])) : W p l e room_1 s m #[.ref b] below meth c H locs cells slots Q (F0 m 521 ls []) := by
  have hC0 := hC
  obtain ⟨C, hk, hx0, hXs, hbl, hl0, hL⟩ := hC
  obtain ⟨hx, hb, hml, hown, hts, hr, hlocks⟩ := id C
  obtain ⟨hE, ⟨tok, P, S, n, V, T, s9, r9, hREL⟩, hl⟩ := h
  have hbA : ¬ lA s b := Nat.not_le.mpr hbl
  refine lv_aload_n hx hb dL_law_521 rfl (lv_at hl 1 rfl) ?_
  refine lv_aload_n hx hb dL_law_522 rfl (lv_at hl 0 rfl) ?_
  refine lv_iload hx hb dL_law_523 (lv_at hl 4 rfl) ?_
  refine lv_iconst (v := nI 1) hx hb dL_law_525 (by decide) ?_
  refine lv_iadd hx hb dL_law_526 ?_
  refine w_top (y := nI (i + 1)) (by exact nI_add _ _) ?_
  refine l_sld hx hb hXs hbl hbA hE.2.2 (by omega) (by omega) dL_law_527 ?_
  refine lv_aload_n hx hb dL_law_528 rfl (lv_at hl 0 rfl) ?_
  refine lv_iload hx hb dL_law_529 (lv_at hl 4 rfl) ?_
  refine lv_iconst (v := nI 2) hx hb dL_law_531 (by decide) ?_
  refine lv_iadd hx hb dL_law_532 ?_
  refine w_top (y := nI (i + 2)) (by exact nI_add _ _) ?_
  refine l_sld hx hb hXs hbl hbA hE.2.2 (by omega) (by omega) dL_law_533 ?_
  refine lv_aload_n hx hb dL_law_534 rfl (lv_at hl 3 rfl) ?_
  refine l_callL C hk hE (fun _ h => h) hx0 xK_rf (fun _ h => h) hl.1 (As := [.ref (ad 0), .int (xs (i + 1)), .int (xs (i + 2)), .ref (ad 68)]) (rest := []) (c_L_item l hx0 D cs ad μ (xs (i + 1)) (xs (i + 2)) (c_E_item l D cs ad (msub 0 μ) P S n V T (xs (i + 1)) (xs (i + 2)) hl0 hx0 hREL.1.1) (fun K h => h.2)) tw_544 tw_545 tw_0 (List.mem_of_getElem? (i := 546) (by decide +kernel)) (n := 4) (by decide +kernel) rfl rfl (Nat.le_of_ble_eq_true rfl) dL_law_535 ⟨Nat.le_of_ble_eq_true rfl, Nat.le_of_ble_eq_true rfl⟩ hcel (fun r τ H locs hp hE => ?_)
  refine lv_istore (lv' := (5, .int r) :: lB b ad i) hx hb dL_law_538 hl (by decide) rfl (fun ls hl => ?_)
  have hR2 : REL tok (msub 0 μ) (msub 58 τ) P S n V T s9 r9 := rel_cong hREL (fun q hq => rfl) (fun q hq => wp_58b hp hq)
  refine lv_aload_n hx hb dL_law_540 rfl (lv_at hl 3 rfl) ?_
  refine lv_aload_n hx hb dL_law_541 rfl (lv_at hl 1 rfl) ?_
  refine lv_iload hx hb dL_law_542 (lv_at hl 5 rfl) ?_
  refine lv_iconst (v := nI 1) hx hb dL_law_544 (by decide) ?_
  refine lv_iadd hx hb dL_law_545 ?_
  refine w_top (y := nI (i + 1)) (by exact nI_add _ _) ?_
  refine l_sld hx hb hXs hbl hbA hE.2.2 (by omega) (by omega) dL_law_546 ?_
  refine lv_aload_n hx hb dL_law_547 rfl (lv_at hl 1 rfl) ?_
  refine lv_iload hx hb dL_law_548 (lv_at hl 5 rfl) ?_
  refine lv_iconst (v := nI 2) hx hb dL_law_550 (by decide) ?_
  refine lv_iadd hx hb dL_law_551 ?_
  refine w_top (y := nI (i + 2)) (by exact nI_add _ _) ?_
  refine l_sld hx hb hXs hbl hbA hE.2.2 (by omega) (by omega) dL_law_552 ?_
  refine s_ci hE sub_M (fun _ h => h) (s_runV C hk hE sub_M hl.1 (As := [.int (xs (i + 1)), .int (xs (i + 2))]) (rest := []) (q := 0) (c_M_item l D cs (fun j => ad (j + 58)) (msub 58 τ) P n V T (xs (i + 1)) (xs (i + 2)) hR2.2.1.1 _) (Nat.le_of_ble_eq_true rfl) (ci := 6) (N := 17) (T := F_M) rfl rfl tw_756 tw_757 tw_758 tw_9 tw_759 (n := 2) (by decide +kernel) rfl rfl (Nat.le_of_ble_eq_true rfl) dL_law_553 ⟨Nat.le_of_ble_eq_true rfl, Nat.le_of_ble_eq_true rfl⟩ hcel) (fun b2 μ1 H locs hp2 hE _ => ?_)
  have hop := op_item hR2 hp2
  have hw : wpR τ μ1 r b2 := wp_res1 hp hop.1 (fun h => hop.2 (h))
  exact l_tail hC0 hE hl hw hcel dL_law_556 dL_law_558 dL_law_559 dL_law_562 dL_law_564 dL_law_569 dL_law_571 dL_law_574 dL_law_575 dL_law_576 dL_law_577 dL_law_579 dL_law_580 dL_law_581 dL_law_586 (by decide) K
set_option maxHeartbeats 4000000 in
set_option maxRecDepth 100000 in
theorem case_steps {p : Program} {l : Launch} {e : Env} {s : State} {m : MethodId} {below : List Frame} {meth : Method} {c : Code} {H : Heap} {locs : List Loc} {cells slots : Nat} {Q : State → Prop} {ls : Array Slot} {b L i : Nat} {xs : Nat → Int32} {D : va_G} {cs : Nat → ClassId} {ad : Nat → Nat} {μ : Mem} (hC : LC p l s m meth c b L xs D cs) (h : LSt s D cs ad b i μ H locs ls) (hi : i + 3 < L) (hcel : cells + 1 ≤ room_1.cells ∧ slots + 6 ≤ room_1.slots)
    (K : ∀ (μ : Mem) (H : Heap) (locs : List Loc) (ls : Array Slot), LSt s D cs ad b i μ H locs ls → W p l e room_1 s m #[.ref b] below meth c H locs (cells + 1) (slots + 6) Q (F0 m 745 ls [])) : W p l e room_1 s m #[.ref b] below meth c H locs cells slots Q (F0 m 589 ls []) := by
  have hC0 := hC
  obtain ⟨C, hk, hx0, hXs, hbl, hl0, hL⟩ := hC
  obtain ⟨hx, hb, hml, hown, hts, hr, hlocks⟩ := id C
  obtain ⟨hE, ⟨tok, P, S, n, V, T, s9, r9, hREL⟩, hl⟩ := h
  have hbA : ¬ lA s b := Nat.not_le.mpr hbl
  refine lv_aload_n hx hb dL_law_589 rfl (lv_at hl 1 rfl) ?_
  refine lv_aload_n hx hb dL_law_590 rfl (lv_at hl 0 rfl) ?_
  refine lv_iload hx hb dL_law_591 (lv_at hl 4 rfl) ?_
  refine lv_iconst (v := nI 1) hx hb dL_law_593 (by decide) ?_
  refine lv_iadd hx hb dL_law_594 ?_
  refine w_top (y := nI (i + 1)) (by exact nI_add _ _) ?_
  refine l_sld hx hb hXs hbl hbA hE.2.2 (by omega) (by omega) dL_law_595 ?_
  refine lv_aload_n hx hb dL_law_596 rfl (lv_at hl 0 rfl) ?_
  refine lv_iload hx hb dL_law_597 (lv_at hl 4 rfl) ?_
  refine lv_iconst (v := nI 2) hx hb dL_law_599 (by decide) ?_
  refine lv_iadd hx hb dL_law_600 ?_
  refine w_top (y := nI (i + 2)) (by exact nI_add _ _) ?_
  refine l_sld hx hb hXs hbl hbA hE.2.2 (by omega) (by omega) dL_law_601 ?_
  refine lv_aload_n hx hb dL_law_602 rfl (lv_at hl 0 rfl) ?_
  refine lv_iload hx hb dL_law_603 (lv_at hl 4 rfl) ?_
  refine lv_iconst (v := nI 3) hx hb dL_law_605 (by decide) ?_
  refine lv_iadd hx hb dL_law_606 ?_
  refine w_top (y := nI (i + 3)) (by exact nI_add _ _) ?_
  refine l_sld hx hb hXs hbl hbA hE.2.2 (by omega) (by omega) dL_law_607 ?_
  refine lv_aload_n hx hb dL_law_608 rfl (lv_at hl 3 rfl) ?_
  refine l_callL C hk hE (fun _ h => h) hx0 xK_rf (fun _ h => h) hl.1 (As := [.ref (ad 0), .int (xs (i + 1)), .int (xs (i + 2)), .int (xs (i + 3)), .ref (ad 68)]) (rest := []) (c_L_steps l hx0 D cs ad μ (xs (i + 1)) (xs (i + 2)) (xs (i + 3)) (c_E_steps l D cs ad (msub 0 μ) P S n V T (xs (i + 1)) (xs (i + 2)) (xs (i + 3)) hl0 hx0 hREL.1.1) (fun K h => h.elim (fun q => Or.inl q.2) (fun q => Or.inr q.2.2))) tw_560 tw_561 tw_0 (List.mem_of_getElem? (i := 562) (by decide +kernel)) (n := 5) (by decide +kernel) rfl rfl (Nat.le_of_ble_eq_true rfl) dL_law_609 ⟨Nat.le_of_ble_eq_true rfl, Nat.le_of_ble_eq_true rfl⟩ hcel (fun r τ H locs hp hE => ?_)
  refine lv_istore (lv' := (5, .int r) :: lB b ad i) hx hb dL_law_612 hl (by decide) rfl (fun ls hl => ?_)
  have hR2 : REL tok (msub 0 μ) (msub 58 τ) P S n V T s9 r9 := rel_cong hREL (fun q hq => rfl) (fun q hq => wp_58a hp hq)
  refine lv_aload_n hx hb dL_law_614 rfl (lv_at hl 3 rfl) ?_
  refine lv_aload_n hx hb dL_law_615 rfl (lv_at hl 1 rfl) ?_
  refine lv_iload hx hb dL_law_616 (lv_at hl 5 rfl) ?_
  refine lv_iconst (v := nI 1) hx hb dL_law_618 (by decide) ?_
  refine lv_iadd hx hb dL_law_619 ?_
  refine w_top (y := nI (i + 1)) (by exact nI_add _ _) ?_
  refine l_sld hx hb hXs hbl hbA hE.2.2 (by omega) (by omega) dL_law_620 ?_
  refine lv_aload_n hx hb dL_law_621 rfl (lv_at hl 1 rfl) ?_
  refine lv_iload hx hb dL_law_622 (lv_at hl 5 rfl) ?_
  refine lv_iconst (v := nI 2) hx hb dL_law_624 (by decide) ?_
  refine lv_iadd hx hb dL_law_625 ?_
  refine w_top (y := nI (i + 2)) (by exact nI_add _ _) ?_
  refine l_sld hx hb hXs hbl hbA hE.2.2 (by omega) (by omega) dL_law_626 ?_
  refine lv_aload_n hx hb dL_law_627 rfl (lv_at hl 1 rfl) ?_
  refine lv_iload hx hb dL_law_628 (lv_at hl 5 rfl) ?_
  refine lv_iconst (v := nI 3) hx hb dL_law_630 (by decide) ?_
  refine lv_iadd hx hb dL_law_631 ?_
  refine w_top (y := nI (i + 3)) (by exact nI_add _ _) ?_
  refine l_sld hx hb hXs hbl hbA hE.2.2 (by omega) (by omega) dL_law_632 ?_
  refine s_ci hE sub_M (fun _ h => h) (s_runV C hk hE sub_M hl.1 (As := [.int (xs (i + 1)), .int (xs (i + 2)), .int (xs (i + 3))]) (rest := []) (q := 0) (MetI_mem (rel_msr hR2) (c_M_steps l D cs (fun j => ad (j + 58)) (msub 58 τ) s9 r9 P n V T (xs (i + 1)) (xs (i + 2)) (xs (i + 3)) (rel_mJ hR2)) _) (Nat.le_of_ble_eq_true rfl) (ci := 6) (N := 17) (T := F_M) rfl rfl tw_707 tw_708 tw_709 tw_9 tw_710 (n := 3) (by decide +kernel) rfl rfl (Nat.le_of_ble_eq_true rfl) dL_law_633 ⟨Nat.le_of_ble_eq_true rfl, Nat.le_of_ble_eq_true rfl⟩ hcel) (fun b2 μ1 H locs hp2 hE _ => ?_)
  have hop := op_steps hR2 hp2
  have hw : wpR τ μ1 r b2 := wp_res2 hp hop.1 (fun h => hop.2.1 (h.elim (fun q => q.1) (fun q => absurd q.2.2 (by decide)))) (fun h => hop.2.2 (h.elim (fun q => absurd q.2 (by decide)) (fun q => ⟨q.1, q.2.1⟩)))
  exact l_tail hC0 hE hl hw hcel dL_law_636 dL_law_638 dL_law_639 dL_law_642 dL_law_644 dL_law_649 dL_law_651 dL_law_654 dL_law_655 dL_law_656 dL_law_657 dL_law_659 dL_law_660 dL_law_661 dL_law_666 (by decide) K
set_option maxHeartbeats 4000000 in
set_option maxRecDepth 100000 in
theorem case_nullable {p : Program} {l : Launch} {e : Env} {s : State} {m : MethodId} {below : List Frame} {meth : Method} {c : Code} {H : Heap} {locs : List Loc} {cells slots : Nat} {Q : State → Prop} {ls : Array Slot} {b L i : Nat} {xs : Nat → Int32} {D : va_G} {cs : Nat → ClassId} {ad : Nat → Nat} {μ : Mem} (hC : LC p l s m meth c b L xs D cs) (h : LSt s D cs ad b i μ H locs ls) (hi : i + 3 < L) (hcel : cells + 1 ≤ room_1.cells ∧ slots + 6 ≤ room_1.slots)
    (K : ∀ (μ : Mem) (H : Heap) (locs : List Loc) (ls : Array Slot), LSt s D cs ad b i μ H locs ls → W p l e room_1 s m #[.ref b] below meth c H locs (cells + 1) (slots + 6) Q (F0 m 745 ls [])) : W p l e room_1 s m #[.ref b] below meth c H locs cells slots Q (F0 m 669 ls []) := by
  have hC0 := hC
  obtain ⟨C, hk, hx0, hXs, hbl, hl0, hL⟩ := hC
  obtain ⟨hx, hb, hml, hown, hts, hr, hlocks⟩ := id C
  obtain ⟨hE, ⟨tok, P, S, n, V, T, s9, r9, hREL⟩, hl⟩ := h
  have hbA : ¬ lA s b := Nat.not_le.mpr hbl
  refine lv_aload_n hx hb dL_law_669 rfl (lv_at hl 1 rfl) ?_
  refine lv_aload_n hx hb dL_law_670 rfl (lv_at hl 0 rfl) ?_
  refine lv_iload hx hb dL_law_671 (lv_at hl 4 rfl) ?_
  refine lv_iconst (v := nI 1) hx hb dL_law_673 (by decide) ?_
  refine lv_iadd hx hb dL_law_674 ?_
  refine w_top (y := nI (i + 1)) (by exact nI_add _ _) ?_
  refine l_sld hx hb hXs hbl hbA hE.2.2 (by omega) (by omega) dL_law_675 ?_
  refine lv_aload_n hx hb dL_law_676 rfl (lv_at hl 3 rfl) ?_
  refine l_callL C hk hE (fun _ h => h) hx0 xK_rf (fun _ h => h) hl.1 (As := [.ref (ad 0), .int (xs (i + 1)), .ref (ad 68)]) (rest := []) (c_L_nullable l hx0 D cs ad μ (xs (i + 1)) (c_E_nullable l D cs ad (msub 0 μ) P S n V T (xs (i + 1)) hl0 hx0 hREL.1.1) (fun K h => h.2) (fun v σ1 h => by rw [h.2.1]; exact zb_01 _)) tw_569 tw_570 tw_0 (List.mem_of_getElem? (i := 571) (by decide +kernel)) (n := 3) (by decide +kernel) rfl rfl (Nat.le_of_ble_eq_true rfl) dL_law_677 ⟨Nat.le_of_ble_eq_true rfl, Nat.le_of_ble_eq_true rfl⟩ hcel (fun r τ H locs hp hE => ?_)
  refine lv_istore (lv' := (5, .int r) :: lB b ad i) hx hb dL_law_680 hl (by decide) rfl (fun ls hl => ?_)
  have hR2 : REL tok (msub 0 μ) (msub 58 τ) P S n V T s9 r9 := rel_cong hREL (fun q hq => rfl) (fun q hq => wp_58b hp hq)
  refine lv_aload_n hx hb dL_law_682 rfl (lv_at hl 3 rfl) ?_
  refine lv_aload_n hx hb dL_law_683 rfl (lv_at hl 1 rfl) ?_
  refine lv_iload hx hb dL_law_684 (lv_at hl 5 rfl) ?_
  refine lv_iconst (v := nI 1) hx hb dL_law_686 (by decide) ?_
  refine lv_iadd hx hb dL_law_687 ?_
  refine w_top (y := nI (i + 1)) (by exact nI_add _ _) ?_
  refine l_sld hx hb hXs hbl hbA hE.2.2 (by omega) (by omega) dL_law_688 ?_
  refine s_ci hE sub_M (fun _ h => h) (s_runV C hk hE sub_M hl.1 (As := [.int (xs (i + 1))]) (rest := []) (q := 0) (MetI_mem (rel_msr hR2) (c_M_nullable l D cs (fun j => ad (j + 58)) (msub 58 τ) s9 r9 P n V T (xs (i + 1)) (rel_mJ hR2)) _) (Nat.le_of_ble_eq_true rfl) (ci := 6) (N := 17) (T := F_M) rfl rfl tw_724 tw_725 tw_726 tw_9 tw_727 (n := 1) (by decide +kernel) rfl rfl (Nat.le_of_ble_eq_true rfl) dL_law_689 ⟨Nat.le_of_ble_eq_true rfl, Nat.le_of_ble_eq_true rfl⟩ hcel) (fun b2 μ1 H locs hp2 hE _ => ?_)
  have hop := op_nullable hR2 hp2
  have hw : wpR τ μ1 r b2 := wp_res1 hp hop.1 (fun h => hop.2 (h.1))
  have hb01 : b2 = 0 ∨ b2 = 1 := by
    rcases hp2 with ⟨-, h, -⟩ | ⟨-, κ, s1, r1, -, -, -, h⟩
    · exact Or.inl h
    · rw [h]; exact zb_01 _
  have hend : ∀ (H : Heap) (locs : List Loc) (ls : Array Slot), wS (wL D cs ad) (lA s) s.heap (mput 58 10 τ μ1) H locs → lv_has ls 7 (lB b ad i) → W p l e room_1 s m #[.ref b] below meth c H locs (cells + 1) (slots + 6) Q (F0 m 729 ls []) := fun H locs ls hE hl => lv_goto (tgt := 745) hx hb dL_law_729 (by decide) (K _ H locs ls ⟨hE, hw.2.2, hl⟩)
  refine l_thr hC0 hE hl hw hcel dL_law_692 dL_law_694 dL_law_695 dL_law_698 dL_law_700 dL_law_705 dL_law_707 (tgt := 729) (by decide) (fun H locs ls hE hl h68 => ?_) hend
  refine lv_aload_n hx hb dL_law_710 rfl (lv_at hl 5 rfl) ?_
  refine lv_iconst (v := nI 0) hx hb dL_law_711 (by decide) ?_
  refine w_lald C hk hE 68 (Nat.le_of_ble_eq_true rfl) (n := 1) rfl (by decide) (by decide) dL_law_712 ?_
  refine lv_iload hx hb dL_law_713 (lv_at hl 0 rfl) ?_
  rw [show mput 58 10 τ μ1 68 0 = b2 from h68]
  have hfin : ∀ {z : Int64}, b2.toInt64 = z → W p l e room_1 s m #[.ref b] below meth c H locs (cells + 1) (slots + 6) Q (F0 m 723 ls [.long z, .long b2.toInt64]) := fun hz => by
    refine W.lcmp hx hb dL_law_723 ?_
    refine lv_if_eq (tgt := 729) hx hb dL_law_724 (by decide) (fun _ => hend _ _ ls hE (lv_sub hl [2, 3, 4, 5, 6] rfl)) (fun h => absurd (by rw [hz]; simp [lg_cmp]) h)
  refine lv_if_eq (tgt := 722) hx hb dL_law_715 (by decide) (fun h => ?_) (fun h => ?_)
  · refine lv_lconst (v := 0) hx hb dL_law_722 (by decide) ?_
    exact hfin (by rw [h]; rfl)
  · refine lv_lconst (v := 1) hx hb dL_law_718 (by decide) ?_
    refine lv_goto (tgt := 723) hx hb dL_law_719 (by decide) ?_
    exact hfin (by rw [hb01.resolve_left h]; rfl)
