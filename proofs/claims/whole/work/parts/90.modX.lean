set_option maxHeartbeats 4000000 in
set_option maxRecDepth 100000 in
theorem lp_M_ex4 {p : Program} {l : Launch} {e : Env} {s : State} {m : MethodId} {below : List Frame} {meth : Method} {c : Code} {D : va_G} {cs : Nat → ClassId} {ad : Nat → Nat} {A : Nat → Prop} {Q : State → Prop} {σ : Mem} {s9 r9 : Nat → Nat} {P n9 V9 T9 : Nat} {tok : Nat → Nat} (C : bC p s m ([.ref (ad 0)] : List Value).toArray meth c bM_extract 10 "EarleyChartModel" (some .int)) (hk : wk D cs s) (hA : ∀ q : Nat, s.heap.size ≤ q → A q) (hJ : mJ σ P n9 V9 T9 s9 r9) (hmk : MK σ tok n9) (hkn : ¬ σ 0 12 = 0 → TM (Gm σ P) tok n9 s9) (hacc : accF (msr σ s9 r9) n9 P = true → 0 < P ∧ gd (Gm σ P) tok n9 (ml σ 0, 0, n9)) (κ1 : Mem) (s1 : Nat → Nat) (r3 : Nat → Nat) (g : Gl) (m8 : Nat) (c8 : Nat) (y9 : Nat)  (K : ∀ (κ5 : Mem), (XI (Gm σ P) tok n9 P κ1 [(ml σ 0, 0, n9)] κ5 (m8 + y9) c8) → ∀ (H : Heap) (locs : List Loc) (ls : Array Slot), wS (wM D cs ad) A s.heap (msr κ5 s1 r3) H locs → lv_has ls 10 [(0, .ref (ad 0)), (1, .int (nI m8)), (2, .int (nI g.1)), (3, .int (nI g.2.1)), (4, .int (nI g.2.2)), (5, .int (nI (chp (Gm σ P) tok g))), (6, .int (nI y9))] → W p l e (rmF 3 76) s m ([.ref (ad 0)] : List Value).toArray below meth c H locs 0 0 Q (F0 m 355 ls [])) :
    ∀ (n : Nat) (κ : Mem) (k9 : Nat), (5 - k9) < n → (k9 ≤ y9 / 2) → (XRv (Gm σ P) tok n9 P κ1 [(ml σ 0, 0, n9)] κ m8 c8 g y9 k9) → ∀ (H : Heap) (locs : List Loc) (ls : Array Slot), wS (wM D cs ad) A s.heap (msr κ s1 r3) H locs → lv_has ls 10 [(0, .ref (ad 0)), (1, .int (nI m8)), (2, .int (nI g.1)), (3, .int (nI g.2.1)), (4, .int (nI g.2.2)), (5, .int (nI (chp (Gm σ P) tok g))), (6, .int (nI y9)), (8, .int (nI k9))] → W p l e (rmF 3 76) s m ([.ref (ad 0)] : List Value).toArray below meth c H locs 0 0 Q (F0 m 290 ls []) := by
  obtain ⟨hx, hb, hml, hown, hts, hr, hlocks⟩ := id C
  obtain ⟨hI, hs9, hr9⟩ := id hJ
  obtain ⟨hgσ, hn8, hn7, hvb, -, hV0, -, hT0⟩ := mI_of_msr hI
  obtain ⟨hg, -, -, -, hV6, hV, hT6, hT⟩ := id hI
  have hP8 := hg.1
  intro n
  induction n with
  | zero => intro κ k9 h; exact absurd h (Nat.not_lt_zero _)
  | succ n ih =>
    intro κ k9 hn hk2 hXR H locs ls hE hl
    have hm159 := hXR.1.2.2.2.2.2.2
    have hy4 := hXR.2.1
    refine lv_iload hx hb dM_extract_290 (lv_at hl 7 rfl) ?_
    refine lv_iload hx hb dM_extract_292 (lv_at hl 6 rfl) ?_
    refine lv_iconst (v := nI 2) hx hb dM_extract_294 (by decide) ?_
    refine lv_idiv hx hb dM_extract_295 (by decide) ?_
    refine w_top (y := nI (y9 / 2)) (by exact pk_div (by omega) (by decide) (by decide)) ?_
    refine lv_icmp_ge (tgt := 355) hx hb dM_extract_296 (by decide) (fun c1 => ?_) (fun c1 => ?_)
    · have c1 : (y9 / 2) ≤ k9 := (nI_leI (by omega) (by omega)).mp c1
      exact K κ (XRv_end hn8 hXR (by omega) hk2) _ _ ls hE (lv_sub hl [0, 1, 2, 3, 4, 5, 6] rfl)
    · have c1 : ¬ ((y9 / 2) ≤ k9) := fun h => c1 ((nI_leI (by omega) (by omega)).mpr h)
      refine lv_aload_n hx hb dM_extract_299 rfl (lv_at hl 0 rfl) ?_
      refine w_get C hk hE (K := R_M) (T := F_M) (N := 17) (ci := 6) in_M 0 (Nat.le_of_ble_eq_true rfl) rfl rfl 16 (by decide) tw_598 rfl rfl dM_extract_300 ?_
      refine lv_iload_n hx hb dM_extract_303 rfl (lv_at hl 1 rfl) ?_
      refine lv_iload hx hb dM_extract_304 (lv_at hl 6 rfl) ?_
      refine lv_iadd hx hb dM_extract_306 ?_
      refine w_top (y := nI (m8 + y9)) (by first | exact nI_add _ _ | simp only [nI_add, Nat.add_assoc, Nat.add_zero, Nat.zero_add]) ?_
      refine lv_iconst (v := nI 1) hx hb dM_extract_307 (by decide) ?_
      refine lv_isub hx hb dM_extract_308 ?_
      refine w_top (y := nI ((m8 + y9) - 1)) (w_sub (by omega) (by omega)) ?_
      refine lv_iload hx hb dM_extract_309 (lv_at hl 7 rfl) ?_
      refine lv_isub hx hb dM_extract_311 ?_
      refine w_top (y := nI (((m8 + y9) - 1) - k9)) (w_sub (by omega) (by omega)) ?_
      refine w_iald C hk hE 9 (by exact Nat.le_of_ble_eq_true rfl) (n := 1000) rfl (by omega) (by first | decide | omega) dM_extract_312 ?_
      refine w_top (y := κ 9 (((m8 + y9) - 1) - k9)) (by simp [mset, mrow, upd, mhc, msr, nR]) ?_
      refine lv_istore (lv' := [(9, .int (κ 9 (((m8 + y9) - 1) - k9))), (0, .ref (ad 0)), (1, .int (nI m8)), (2, .int (nI g.1)), (3, .int (nI g.2.1)), (4, .int (nI g.2.2)), (5, .int (nI (chp (Gm σ P) tok g))), (6, .int (nI y9)), (8, .int (nI k9))]) hx hb dM_extract_313 hl (by decide) rfl (fun ls hl => ?_)
      refine lv_aload_n hx hb dM_extract_315 rfl (lv_at hl 1 rfl) ?_
      refine w_get C hk hE (K := R_M) (T := F_M) (N := 17) (ci := 6) in_M 0 (Nat.le_of_ble_eq_true rfl) rfl rfl 16 (by decide) tw_598 rfl rfl dM_extract_316 ?_
      refine lv_iload_n hx hb dM_extract_319 rfl (lv_at hl 2 rfl) ?_
      refine lv_iload hx hb dM_extract_320 (lv_at hl 7 rfl) ?_
      refine lv_iadd hx hb dM_extract_322 ?_
      refine w_top (y := nI (m8 + y9)) (by first | exact nI_add _ _ | simp only [nI_add, Nat.add_assoc, Nat.add_zero, Nat.zero_add]) ?_
      refine lv_iconst (v := nI 1) hx hb dM_extract_323 (by decide) ?_
      refine lv_isub hx hb dM_extract_324 ?_
      refine w_top (y := nI ((m8 + y9) - 1)) (w_sub (by omega) (by omega)) ?_
      refine lv_iload hx hb dM_extract_325 (lv_at hl 8 rfl) ?_
      refine lv_isub hx hb dM_extract_327 ?_
      refine w_top (y := nI (((m8 + y9) - 1) - k9)) (w_sub (by omega) (by omega)) ?_
      refine lv_aload_n hx hb dM_extract_328 rfl (lv_at hl 1 rfl) ?_
      refine w_get C hk hE (K := R_M) (T := F_M) (N := 17) (ci := 6) in_M 0 (Nat.le_of_ble_eq_true rfl) rfl rfl 16 (by decide) tw_598 rfl rfl dM_extract_329 ?_
      refine lv_iload_n hx hb dM_extract_332 rfl (lv_at hl 2 rfl) ?_
      refine lv_iload hx hb dM_extract_333 (lv_at hl 8 rfl) ?_
      refine lv_iadd hx hb dM_extract_335 ?_
      refine w_top (y := nI (m8 + k9)) (by first | exact nI_add _ _ | simp only [nI_add, Nat.add_assoc, Nat.add_zero, Nat.zero_add]) ?_
      refine w_iald C hk hE 9 (by exact Nat.le_of_ble_eq_true rfl) (n := 1000) rfl (by omega) (by first | decide | omega) dM_extract_336 ?_
      refine w_top (y := κ 9 (m8 + k9)) (by simp [mset, mrow, upd, mhc, msr, nR]) ?_
      refine w_iast C hk hE 9 (by exact Nat.le_of_ble_eq_true rfl) (n := 1000) (fun _ => rfl) (by omega) (by first | decide | omega) dM_extract_337 (fun H locs hE => ?_)
      rw [mset_msr (by decide) (by decide)] at hE
      refine lv_aload_n hx hb dM_extract_338 rfl (lv_at hl 1 rfl) ?_
      refine w_get C hk hE (K := R_M) (T := F_M) (N := 17) (ci := 6) in_M 0 (Nat.le_of_ble_eq_true rfl) rfl rfl 16 (by decide) tw_598 rfl rfl dM_extract_339 ?_
      refine lv_iload_n hx hb dM_extract_342 rfl (lv_at hl 2 rfl) ?_
      refine lv_iload hx hb dM_extract_343 (lv_at hl 8 rfl) ?_
      refine lv_iadd hx hb dM_extract_345 ?_
      refine w_top (y := nI (m8 + k9)) (by first | exact nI_add _ _ | simp only [nI_add, Nat.add_assoc, Nat.add_zero, Nat.zero_add]) ?_
      refine lv_iload hx hb dM_extract_346 (lv_at hl 0 rfl) ?_
      refine w_iast C hk hE 9 (by exact Nat.le_of_ble_eq_true rfl) (n := 1000) (fun _ => rfl) (by omega) (by first | decide | omega) dM_extract_348 (fun H locs hE => ?_)
      rw [mset_msr (by decide) (by decide)] at hE
      refine lv_iinc (v := nI (k9 + 1)) (lv' := [(8, .int (nI (k9 + 1))), (9, .int (κ 9 (((m8 + y9) - 1) - k9))), (0, .ref (ad 0)), (1, .int (nI m8)), (2, .int (nI g.1)), (3, .int (nI g.2.1)), (4, .int (nI g.2.2)), (5, .int (nI (chp (Gm σ P) tok g))), (6, .int (nI y9))]) hx hb dM_extract_349 hl (k := 8) rfl (by exact nI_1 _) (by decide) rfl (fun ls hl => ?_)
      refine lv_goto (tgt := 290) hx hb dM_extract_352 (by decide) ?_
      exact ih (mset (mset κ 9 (((m8 + y9) - 1) - k9) (κ 9 (m8 + k9))) 9 (m8 + k9) (κ 9 (((m8 + y9) - 1) - k9))) (k9 + 1) (by omega) (by omega) (XRv_step hXR (by omega)) _ _ ls hE (lv_sub hl [2, 3, 4, 5, 6, 7, 8, 0] rfl)
set_option maxHeartbeats 4000000 in
set_option maxRecDepth 100000 in
theorem lp_M_ex3 {p : Program} {l : Launch} {e : Env} {s : State} {m : MethodId} {below : List Frame} {meth : Method} {c : Code} {D : va_G} {cs : Nat → ClassId} {ad : Nat → Nat} {A : Nat → Prop} {Q : State → Prop} {σ : Mem} {s9 r9 : Nat → Nat} {P n9 V9 T9 : Nat} {tok : Nat → Nat} (C : bC p s m ([.ref (ad 0)] : List Value).toArray meth c bM_extract 10 "EarleyChartModel" (some .int)) (hk : wk D cs s) (hA : ∀ q : Nat, s.heap.size ≤ q → A q) (hJ : mJ σ P n9 V9 T9 s9 r9) (hmk : MK σ tok n9) (hkn : ¬ σ 0 12 = 0 → TM (Gm σ P) tok n9 s9) (hacc : accF (msr σ s9 r9) n9 P = true → 0 < P ∧ gd (Gm σ P) tok n9 (ml σ 0, 0, n9)) (κ1 : Mem) (s1 : Nat → Nat) (r3 : Nat → Nat) (g : Gl) (m8 : Nat) (c8 : Nat) (κ : Mem) (y9 : Nat) (a9 : Nat) (d9 : Nat) (hTM : TM (Gm σ P) tok n9 s1) (hs1 : leN s1) (hr3 : RQ (Gm σ P) tok (chp (Gm σ P) tok g) g.2.2 r3) (hd4 : d9 ≤ 4) (hXK : XK (Gm σ P) tok n9 P κ1 [(ml σ 0, 0, n9)] κ m8 c8 g y9 a9 d9) (hdl : d9 < mn κ (chp (Gm σ P) tok g)) (K : ∀ (H : Heap) (locs : List Loc) (ls : Array Slot), wS (wM D cs ad) A s.heap (msr κ s1 r3) H locs → lv_has ls 10 [(0, .ref (ad 0)), (1, .int (nI m8)), (2, .int (nI g.1)), (3, .int (nI g.2.1)), (4, .int (nI g.2.2)), (5, .int (nI (chp (Gm σ P) tok g))), (6, .int (nI y9)), (7, .int (nI a9)), (8, .int (nI d9)), (9, .int (nI (sp (Gm σ P) tok (mr κ (4 * chp (Gm σ P) tok g + d9)) (((Gm σ P).2.2 (chp (Gm σ P) tok g)).drop (d9 + 1)) a9 g.2.2)))] → W p l e (rmF 3 76) s m ([.ref (ad 0)] : List Value).toArray below meth c H locs 0 0 Q (F0 m 221 ls [])) :
    ∀ (n : Nat) (b9 : Nat), (9 - b9) < n → (a9 ≤ b9) → (b9 ≤ sp (Gm σ P) tok (mr κ (4 * chp (Gm σ P) tok g + d9)) (((Gm σ P).2.2 (chp (Gm σ P) tok g)).drop (d9 + 1)) a9 g.2.2) → ∀ (H : Heap) (locs : List Loc) (ls : Array Slot), wS (wM D cs ad) A s.heap (msr κ s1 r3) H locs → lv_has ls 10 [(0, .ref (ad 0)), (1, .int (nI m8)), (2, .int (nI g.1)), (3, .int (nI g.2.1)), (4, .int (nI g.2.2)), (5, .int (nI (chp (Gm σ P) tok g))), (6, .int (nI y9)), (7, .int (nI a9)), (8, .int (nI d9)), (9, .int (nI b9))] → W p l e (rmF 3 76) s m ([.ref (ad 0)] : List Value).toArray below meth c H locs 0 0 Q (F0 m 160 ls []) := by
  obtain ⟨hx, hb, hml, hown, hts, hr, hlocks⟩ := id C
  obtain ⟨hI, hs9, hr9⟩ := id hJ
  obtain ⟨hgσ, hn8, hn7, hvb, -, hV0, -, hT0⟩ := mI_of_msr hI
  obtain ⟨hg, -, -, -, hV6, hV, hT6, hT⟩ := id hI
  have hP8 := hg.1
  intro n
  induction n with
  | zero => intro b9 h; exact absurd h (Nat.not_lt_zero _)
  | succ n ih =>
    intro b9 hn hb1 hb2 H locs ls hE hl
    obtain ⟨hk1, hk2, hk3, hk4, hk5⟩ := XK_row hXK
    have hgκ := hXK.1.1.1
    obtain ⟨h1, h1b, h2, h2b, h3⟩ := hgκ.2.2 _ hk1
    have hgg := hXK.1.2.2.2.2.2.1
    obtain ⟨hgl1, hgl2, hgl3⟩ := gd_lt hn8 hgg
    have hm159 := hXK.1.2.2.2.2.2.2
    have hyd := hXK.2.1
    have hc8k := hXK.1.2.2.1.1
    have hz := (h3 d9 hdl).2
    have hspj := (sp_cond hn8 hXK hTM hr3 hdl hb1 hb2).2
    have hsb := stN_le (σ := κ) (y := mr κ (4 * chp (Gm σ P) tok g + d9)) (i := a9) (j := b9) hs1
    have hrb := hr3.1 (9 * (d9 + 1) + b9)
    have hra := hr3.1 (9 * d9 + a9)
    refine lv_aload_n hx hb dM_extract_160 rfl (lv_at hl 0 rfl) ?_
    refine lv_aload_n hx hb dM_extract_161 rfl (lv_at hl 0 rfl) ?_
    refine w_get C hk hE (K := R_M) (T := F_M) (N := 17) (ci := 6) in_M 0 (Nat.le_of_ble_eq_true rfl) rfl rfl 6 (by decide) tw_588 rfl rfl dM_extract_162 ?_
    refine lv_iconst (v := nI 4) hx hb dM_extract_165 (by decide) ?_
    refine lv_iload hx hb dM_extract_166 (lv_at hl 5 rfl) ?_
    refine lv_imul hx hb dM_extract_168 ?_
    refine w_top (y := nI (4 * (chp (Gm σ P) tok g))) (by exact pk_mul _ _) ?_
    refine lv_iload hx hb dM_extract_169 (lv_at hl 8 rfl) ?_
    refine lv_iadd hx hb dM_extract_171 ?_
    refine w_top (y := nI ((4 * (chp (Gm σ P) tok g)) + d9)) (by first | exact nI_add _ _ | simp only [nI_add, Nat.add_assoc, Nat.add_zero, Nat.zero_add]) ?_
    refine w_iald C hk hE 3 (by exact Nat.le_of_ble_eq_true rfl) (n := 32) rfl (by omega) (by first | decide | omega) dM_extract_172 ?_
    refine w_top (y := κ 3 ((4 * (chp (Gm σ P) tok g)) + d9)) (by simp [mset, mrow, upd, mhc, msr, nR]) ?_
    refine w_top (y := nI (mr κ (4 * chp (Gm σ P) tok g + d9))) ((h3 d9 hdl).1) ?_
    refine lv_iload hx hb dM_extract_173 (lv_at hl 7 rfl) ?_
    refine lv_iload hx hb dM_extract_175 (lv_at hl 9 rfl) ?_
    refine w_ci hE hA (w_runV C hk hE hl.1 (As := [.int (nI (mr κ (4 * chp (Gm σ P) tok g + d9))), .int (nI a9), .int (nI b9)]) (rest := []) (q := 0) (c_M_stepsOf l D cs ad κ s1 r3 (mr κ (4 * chp (Gm σ P) tok g + d9)) a9 b9 (by have := hz; omega) (by omega) (by omega) _) (Nat.le_of_ble_eq_true rfl) (ci := 6) (N := 17) (T := F_M) rfl rfl tw_720 tw_722 ts_31 tw_9 tw_723 (n := 3) (by decide +kernel) rfl rfl (Nat.le_of_ble_eq_true rfl) dM_extract_177 ⟨Nat.le_of_ble_eq_true rfl, Nat.le_of_ble_eq_true rfl⟩ ⟨Nat.zero_le _, Nat.zero_le _⟩) (fun r1 τ2 H locs hp hE _ _ => ?_)
    refine w_top hp.1 ?_
    have hE := wS_eq hp.2 hE
    refine lv_aload_n hx hb dM_extract_180 rfl (lv_at hl 0 rfl) ?_
    refine w_get C hk hE (K := R_M) (T := F_M) (N := 17) (ci := 6) in_M 0 (Nat.le_of_ble_eq_true rfl) rfl rfl 13 (by decide) tw_595 rfl rfl dM_extract_181 ?_
    refine lv_bipush (v := nI 9) hx hb dM_extract_184 (by decide) ?_
    refine lv_iload hx hb dM_extract_186 (lv_at hl 8 rfl) ?_
    refine lv_iconst (v := nI 1) hx hb dM_extract_188 (by decide) ?_
    refine lv_iadd hx hb dM_extract_189 ?_
    refine w_top (y := nI (d9 + 1)) (by first | exact nI_add _ _ | simp only [nI_add, Nat.add_assoc, Nat.add_zero, Nat.zero_add]) ?_
    refine lv_imul hx hb dM_extract_190 ?_
    refine w_top (y := nI (9 * (d9 + 1))) (by exact pk_mul _ _) ?_
    refine lv_iload hx hb dM_extract_191 (lv_at hl 9 rfl) ?_
    refine lv_iadd hx hb dM_extract_193 ?_
    refine w_top (y := nI ((9 * (d9 + 1)) + b9)) (by first | exact nI_add _ _ | simp only [nI_add, Nat.add_assoc, Nat.add_zero, Nat.zero_add]) ?_
    refine w_iald C hk hE 7 (by exact Nat.le_of_ble_eq_true rfl) (n := 45) rfl (by omega) (by first | decide | omega) dM_extract_194 ?_
    refine w_top (y := nI (r3 ((9 * (d9 + 1)) + b9))) (by first | exact msr_7 | exact congrFun msr_7 _) ?_
    refine lv_iadd hx hb dM_extract_195 ?_
    refine w_top (y := nI ((stN κ s1 (mr κ (4 * chp (Gm σ P) tok g + d9)) a9 b9) + (r3 ((9 * (d9 + 1)) + b9)))) (by first | exact nI_add _ _ | simp only [nI_add, Nat.add_assoc, Nat.add_zero, Nat.zero_add]) ?_
    refine lv_aload_n hx hb dM_extract_196 rfl (lv_at hl 0 rfl) ?_
    refine w_get C hk hE (K := R_M) (T := F_M) (N := 17) (ci := 6) in_M 0 (Nat.le_of_ble_eq_true rfl) rfl rfl 13 (by decide) tw_595 rfl rfl dM_extract_197 ?_
    refine lv_bipush (v := nI 9) hx hb dM_extract_200 (by decide) ?_
    refine lv_iload hx hb dM_extract_202 (lv_at hl 8 rfl) ?_
    refine lv_imul hx hb dM_extract_204 ?_
    refine w_top (y := nI (9 * d9)) (by exact pk_mul _ _) ?_
    refine lv_iload hx hb dM_extract_205 (lv_at hl 7 rfl) ?_
    refine lv_iadd hx hb dM_extract_207 ?_
    refine w_top (y := nI ((9 * d9) + a9)) (by first | exact nI_add _ _ | simp only [nI_add, Nat.add_assoc, Nat.add_zero, Nat.zero_add]) ?_
    refine w_iald C hk hE 7 (by exact Nat.le_of_ble_eq_true rfl) (n := 45) rfl (by omega) (by first | decide | omega) dM_extract_208 ?_
    refine w_top (y := nI (r3 ((9 * d9) + a9))) (by first | exact msr_7 | exact congrFun msr_7 _) ?_
    refine lv_icmp_eq (tgt := 221) hx hb dM_extract_209 (by decide) (fun c3 => ?_) (fun c3 => ?_)
    · have c3 : ((stN κ s1 (mr κ (4 * chp (Gm σ P) tok g + d9)) a9 b9) + (r3 ((9 * (d9 + 1)) + b9))) = (r3 ((9 * d9) + a9)) := (nI_eq (by omega) (by omega)).mp c3
      have hbeq := (sp_cond hn8 hXK hTM hr3 hdl hb1 hb2).1.mp c3
      have ev4 : (nI b9 : Int32) = nI (sp (Gm σ P) tok (mr κ (4 * chp (Gm σ P) tok g + d9)) (((Gm σ P).2.2 (chp (Gm σ P) tok g)).drop (d9 + 1)) a9 g.2.2) := by rw [hbeq]
      have hl : lv_has ls 10 [(0, .ref (ad 0)), (1, .int (nI m8)), (2, .int (nI g.1)), (3, .int (nI g.2.1)), (4, .int (nI g.2.2)), (5, .int (nI (chp (Gm σ P) tok g))), (6, .int (nI y9)), (7, .int (nI a9)), (8, .int (nI d9)), (9, .int (nI (sp (Gm σ P) tok (mr κ (4 * chp (Gm σ P) tok g + d9)) (((Gm σ P).2.2 (chp (Gm σ P) tok g)).drop (d9 + 1)) a9 g.2.2)))] := lv_chg 9 ev4 rfl hl
      exact K  _ _ ls hE (lv_sub hl [0, 1, 2, 3, 4, 5, 6, 7, 8, 9] rfl)
    · have c3 : ¬ (((stN κ s1 (mr κ (4 * chp (Gm σ P) tok g + d9)) a9 b9) + (r3 ((9 * (d9 + 1)) + b9))) = (r3 ((9 * d9) + a9))) := fun h => c3 ((nI_eq (by omega) (by omega)).mpr h)
      have hbne : ¬ b9 = sp (Gm σ P) tok (mr κ (4 * chp (Gm σ P) tok g + d9)) (((Gm σ P).2.2 (chp (Gm σ P) tok g)).drop (d9 + 1)) a9 g.2.2 := fun q => c3 ((sp_cond hn8 hXK hTM hr3 hdl hb1 hb2).1.mpr q)
      refine lv_iload hx hb dM_extract_212 (lv_at hl 9 rfl) ?_
      refine lv_iconst (v := nI 1) hx hb dM_extract_214 (by decide) ?_
      refine lv_iadd hx hb dM_extract_215 ?_
      refine w_top (y := nI (b9 + 1)) (by first | exact nI_add _ _ | simp only [nI_add, Nat.add_assoc, Nat.add_zero, Nat.zero_add]) ?_
      refine lv_istore (lv' := [(9, .int (nI (b9 + 1))), (0, .ref (ad 0)), (1, .int (nI m8)), (2, .int (nI g.1)), (3, .int (nI g.2.1)), (4, .int (nI g.2.2)), (5, .int (nI (chp (Gm σ P) tok g))), (6, .int (nI y9)), (7, .int (nI a9)), (8, .int (nI d9))]) hx hb dM_extract_216 hl (by decide) rfl (fun ls hl => ?_)
      refine lv_goto (tgt := 160) hx hb dM_extract_218 (by decide) ?_
      exact ih (b9 + 1) (by omega) (by omega) (by omega) _ _ ls hE (lv_sub hl [1, 2, 3, 4, 5, 6, 7, 8, 9, 0] rfl)
set_option maxHeartbeats 4000000 in
set_option maxRecDepth 100000 in
theorem lp_M_ex2 {p : Program} {l : Launch} {e : Env} {s : State} {m : MethodId} {below : List Frame} {meth : Method} {c : Code} {D : va_G} {cs : Nat → ClassId} {ad : Nat → Nat} {A : Nat → Prop} {Q : State → Prop} {σ : Mem} {s9 r9 : Nat → Nat} {P n9 V9 T9 : Nat} {tok : Nat → Nat} (C : bC p s m ([.ref (ad 0)] : List Value).toArray meth c bM_extract 10 "EarleyChartModel" (some .int)) (hk : wk D cs s) (hA : ∀ q : Nat, s.heap.size ≤ q → A q) (hJ : mJ σ P n9 V9 T9 s9 r9) (hmk : MK σ tok n9) (hkn : ¬ σ 0 12 = 0 → TM (Gm σ P) tok n9 s9) (hacc : accF (msr σ s9 r9) n9 P = true → 0 < P ∧ gd (Gm σ P) tok n9 (ml σ 0, 0, n9)) (κ1 : Mem) (s1 : Nat → Nat) (r3 : Nat → Nat) (g : Gl) (m8 : Nat) (c8 : Nat) (hTM : TM (Gm σ P) tok n9 s1) (hs1 : leN s1) (hr3 : RQ (Gm σ P) tok (chp (Gm σ P) tok g) g.2.2 r3) (K : ∀ (κ3 : Mem) (y3 : Nat), (XRv (Gm σ P) tok n9 P κ1 [(ml σ 0, 0, n9)] κ3 m8 c8 g y3 0) → ∀ (H : Heap) (locs : List Loc) (ls : Array Slot), wS (wM D cs ad) A s.heap (msr κ3 s1 r3) H locs → lv_has ls 10 [(0, .ref (ad 0)), (1, .int (nI m8)), (2, .int (nI g.1)), (3, .int (nI g.2.1)), (4, .int (nI g.2.2)), (5, .int (nI (chp (Gm σ P) tok g))), (6, .int (nI y3))] → W p l e (rmF 3 76) s m ([.ref (ad 0)] : List Value).toArray below meth c H locs 0 0 Q (F0 m 287 ls [])) :
    ∀ (n : Nat) (κ : Mem) (y9 : Nat) (a9 : Nat) (d9 : Nat), (5 - d9) < n → (d9 ≤ 4) → (XK (Gm σ P) tok n9 P κ1 [(ml σ 0, 0, n9)] κ m8 c8 g y9 a9 d9) → ∀ (H : Heap) (locs : List Loc) (ls : Array Slot), wS (wM D cs ad) A s.heap (msr κ s1 r3) H locs → lv_has ls 10 [(0, .ref (ad 0)), (1, .int (nI m8)), (2, .int (nI g.1)), (3, .int (nI g.2.1)), (4, .int (nI g.2.2)), (5, .int (nI (chp (Gm σ P) tok g))), (6, .int (nI y9)), (7, .int (nI a9)), (8, .int (nI d9))] → W p l e (rmF 3 76) s m ([.ref (ad 0)] : List Value).toArray below meth c H locs 0 0 Q (F0 m 144 ls []) := by
  obtain ⟨hx, hb, hml, hown, hts, hr, hlocks⟩ := id C
  obtain ⟨hI, hs9, hr9⟩ := id hJ
  obtain ⟨hgσ, hn8, hn7, hvb, -, hV0, -, hT0⟩ := mI_of_msr hI
  obtain ⟨hg, -, -, -, hV6, hV, hT6, hT⟩ := id hI
  have hP8 := hg.1
  intro n
  induction n with
  | zero => intro κ y9 a9 d9 h; exact absurd h (Nat.not_lt_zero _)
  | succ n ih =>
    intro κ y9 a9 d9 hn hd4 hXK H locs ls hE hl
    obtain ⟨hk1, hk2, hk3, hk4, hk5⟩ := XK_row hXK
    have hgκ := hXK.1.1.1
    obtain ⟨h1, h1b, h2, h2b, h3⟩ := hgκ.2.2 _ hk1
    have hgg := hXK.1.2.2.2.2.2.1
    obtain ⟨hgl1, hgl2, hgl3⟩ := gd_lt hn8 hgg
    have hm159 := hXK.1.2.2.2.2.2.2
    have hyd := hXK.2.1
    have hc8k := hXK.1.2.2.1.1
    refine lv_iload hx hb dM_extract_144 (lv_at hl 8 rfl) ?_
    refine lv_aload_n hx hb dM_extract_146 rfl (lv_at hl 0 rfl) ?_
    refine w_get C hk hE (K := R_M) (T := F_M) (N := 17) (ci := 6) in_M 0 (Nat.le_of_ble_eq_true rfl) rfl rfl 5 (by decide) tw_587 rfl rfl dM_extract_147 ?_
    refine lv_iload hx hb dM_extract_150 (lv_at hl 5 rfl) ?_
    refine w_iald C hk hE 2 (by exact Nat.le_of_ble_eq_true rfl) (n := 8) rfl (by omega) (by first | decide | omega) dM_extract_152 ?_
    refine w_top (y := κ 2 (chp (Gm σ P) tok g)) (by simp [mset, mrow, upd, mhc, msr, nR]) ?_
    refine w_top (y := nI (mn κ (chp (Gm σ P) tok g))) (h2) ?_
    refine lv_icmp_ge (tgt := 287) hx hb dM_extract_153 (by decide) (fun c1 => ?_) (fun c1 => ?_)
    · have c1 : (mn κ (chp (Gm σ P) tok g)) ≤ d9 := (nI_leI (by omega) (by omega)).mp c1
      exact K κ y9 (XK_end hXK (by omega) hd4) _ _ ls hE (lv_sub hl [0, 1, 2, 3, 4, 5, 6] rfl)
    · have c1 : ¬ ((mn κ (chp (Gm σ P) tok g)) ≤ d9) := fun h => c1 ((nI_leI (by omega) (by omega)).mpr h)
      have hdl : d9 < mn κ (chp (Gm σ P) tok g) := by omega
      have hdrop := hk5 d9 hdl
      have hz := (h3 d9 hdl).2
      refine lv_iload hx hb dM_extract_156 (lv_at hl 7 rfl) ?_
      refine lv_istore (lv' := [(9, .int (nI a9)), (0, .ref (ad 0)), (1, .int (nI m8)), (2, .int (nI g.1)), (3, .int (nI g.2.1)), (4, .int (nI g.2.2)), (5, .int (nI (chp (Gm σ P) tok g))), (6, .int (nI y9)), (7, .int (nI a9)), (8, .int (nI d9))]) hx hb dM_extract_158 hl (by decide) rfl (fun ls hl => ?_)
      refine lp_M_ex3 C hk hA hJ hmk hkn hacc κ1 s1 r3 g m8 c8 κ y9 a9 d9 (hTM) (hs1) (hr3) (hd4) (hXK) (hdl) (fun H locs ls hE hl => ?_) _ a9 (Nat.lt_succ_self _) (Nat.le_refl _) ((sp_ok (XJ_ok hXK.1) hn8 (by have := hXK.2.2.1; rw [hdrop] at this; exact this)).1) _ _ ls hE (lv_sub hl [1, 2, 3, 4, 5, 6, 7, 8, 9, 0] rfl)
      refine lv_aload_n hx hb dM_extract_221 rfl (lv_at hl 0 rfl) ?_
      refine w_get C hk hE (K := R_M) (T := F_M) (N := 17) (ci := 6) in_M 0 (Nat.le_of_ble_eq_true rfl) rfl rfl 6 (by decide) tw_588 rfl rfl dM_extract_222 ?_
      refine lv_iconst (v := nI 4) hx hb dM_extract_225 (by decide) ?_
      refine lv_iload hx hb dM_extract_226 (lv_at hl 5 rfl) ?_
      refine lv_imul hx hb dM_extract_228 ?_
      refine w_top (y := nI (4 * (chp (Gm σ P) tok g))) (by exact pk_mul _ _) ?_
      refine lv_iload hx hb dM_extract_229 (lv_at hl 8 rfl) ?_
      refine lv_iadd hx hb dM_extract_231 ?_
      refine w_top (y := nI ((4 * (chp (Gm σ P) tok g)) + d9)) (by first | exact nI_add _ _ | simp only [nI_add, Nat.add_assoc, Nat.add_zero, Nat.zero_add]) ?_
      refine w_iald C hk hE 3 (by exact Nat.le_of_ble_eq_true rfl) (n := 32) rfl (by omega) (by first | decide | omega) dM_extract_232 ?_
      refine w_top (y := κ 3 ((4 * (chp (Gm σ P) tok g)) + d9)) (by simp [mset, mrow, upd, mhc, msr, nR]) ?_
      refine w_top (y := nI (mr κ (4 * chp (Gm σ P) tok g + d9))) ((h3 d9 hdl).1) ?_
      refine lv_bipush (v := nI 100) hx hb dM_extract_233 (by decide) ?_
      refine lv_icmp_ge (tgt := 277) hx hb dM_extract_235 (by decide) (fun c2 => ?_) (fun c2 => ?_)
      · have c2 : 100 ≤ (mr κ (4 * chp (Gm σ P) tok g + d9)) := (nI_leI (by omega) (by omega)).mp c2
        refine lv_iload hx hb dM_extract_277 (lv_at hl 9 rfl) ?_
        refine lv_istore (lv' := [(7, .int (nI (sp (Gm σ P) tok (mr κ (4 * chp (Gm σ P) tok g + d9)) (((Gm σ P).2.2 (chp (Gm σ P) tok g)).drop (d9 + 1)) a9 g.2.2))), (0, .ref (ad 0)), (1, .int (nI m8)), (2, .int (nI g.1)), (3, .int (nI g.2.1)), (4, .int (nI g.2.2)), (5, .int (nI (chp (Gm σ P) tok g))), (6, .int (nI y9)), (8, .int (nI d9)), (9, .int (nI (sp (Gm σ P) tok (mr κ (4 * chp (Gm σ P) tok g + d9)) (((Gm σ P).2.2 (chp (Gm σ P) tok g)).drop (d9 + 1)) a9 g.2.2)))]) hx hb dM_extract_279 hl (by decide) rfl (fun ls hl => ?_)
        refine lv_iinc (v := nI (d9 + 1)) (lv' := [(8, .int (nI (d9 + 1))), (7, .int (nI (sp (Gm σ P) tok (mr κ (4 * chp (Gm σ P) tok g + d9)) (((Gm σ P).2.2 (chp (Gm σ P) tok g)).drop (d9 + 1)) a9 g.2.2))), (0, .ref (ad 0)), (1, .int (nI m8)), (2, .int (nI g.1)), (3, .int (nI g.2.1)), (4, .int (nI g.2.2)), (5, .int (nI (chp (Gm σ P) tok g))), (6, .int (nI y9)), (9, .int (nI (sp (Gm σ P) tok (mr κ (4 * chp (Gm σ P) tok g + d9)) (((Gm σ P).2.2 (chp (Gm σ P) tok g)).drop (d9 + 1)) a9 g.2.2)))]) hx hb dM_extract_281 hl (k := 8) rfl (by exact nI_1 _) (by decide) rfl (fun ls hl => ?_)
        refine lv_goto (tgt := 144) hx hb dM_extract_284 (by decide) ?_
        exact ih κ y9 (sp (Gm σ P) tok (mr κ (4 * chp (Gm σ P) tok g + d9)) (((Gm σ P).2.2 (chp (Gm σ P) tok g)).drop (d9 + 1)) a9 g.2.2) (d9 + 1) (by omega) (by omega) ((XK_step hn8 hXK hdrop rfl).1 (by omega)) _ _ ls hE (lv_sub hl [2, 3, 4, 5, 6, 7, 8, 1, 0] rfl)
      · have c2 : ¬ (100 ≤ (mr κ (4 * chp (Gm σ P) tok g + d9))) := fun h => c2 ((nI_leI (by omega) (by omega)).mpr h)
        refine lv_aload_n hx hb dM_extract_238 rfl (lv_at hl 0 rfl) ?_
        refine w_get C hk hE (K := R_M) (T := F_M) (N := 17) (ci := 6) in_M 0 (Nat.le_of_ble_eq_true rfl) rfl rfl 16 (by decide) tw_598 rfl rfl dM_extract_239 ?_
        refine lv_iload_n hx hb dM_extract_242 rfl (lv_at hl 1 rfl) ?_
        refine lv_iload hx hb dM_extract_243 (lv_at hl 6 rfl) ?_
        refine lv_iadd hx hb dM_extract_245 ?_
        refine w_top (y := nI (m8 + y9)) (by first | exact nI_add _ _ | simp only [nI_add, Nat.add_assoc, Nat.add_zero, Nat.zero_add]) ?_
        refine lv_bipush (v := nI 100) hx hb dM_extract_246 (by decide) ?_
        refine lv_aload_n hx hb dM_extract_248 rfl (lv_at hl 0 rfl) ?_
        refine w_get C hk hE (K := R_M) (T := F_M) (N := 17) (ci := 6) in_M 0 (Nat.le_of_ble_eq_true rfl) rfl rfl 6 (by decide) tw_588 rfl rfl dM_extract_249 ?_
        refine lv_iconst (v := nI 4) hx hb dM_extract_252 (by decide) ?_
        refine lv_iload hx hb dM_extract_253 (lv_at hl 5 rfl) ?_
        refine lv_imul hx hb dM_extract_255 ?_
        refine w_top (y := nI (4 * (chp (Gm σ P) tok g))) (by exact pk_mul _ _) ?_
        refine lv_iload hx hb dM_extract_256 (lv_at hl 8 rfl) ?_
        refine lv_iadd hx hb dM_extract_258 ?_
        refine w_top (y := nI ((4 * (chp (Gm σ P) tok g)) + d9)) (by first | exact nI_add _ _ | simp only [nI_add, Nat.add_assoc, Nat.add_zero, Nat.zero_add]) ?_
        refine w_iald C hk hE 3 (by exact Nat.le_of_ble_eq_true rfl) (n := 32) rfl (by omega) (by first | decide | omega) dM_extract_259 ?_
        refine w_top (y := κ 3 ((4 * (chp (Gm σ P) tok g)) + d9)) (by simp [mset, mrow, upd, mhc, msr, nR]) ?_
        refine w_top (y := nI (mr κ (4 * chp (Gm σ P) tok g + d9))) ((h3 d9 hdl).1) ?_
        refine lv_imul hx hb dM_extract_260 ?_
        refine w_top (y := nI (100 * (mr κ (4 * chp (Gm σ P) tok g + d9)))) (by exact pk_mul _ _) ?_
        refine lv_bipush (v := nI 10) hx hb dM_extract_261 (by decide) ?_
        refine lv_iload hx hb dM_extract_263 (lv_at hl 7 rfl) ?_
        refine lv_imul hx hb dM_extract_265 ?_
        refine w_top (y := nI (10 * a9)) (by exact pk_mul _ _) ?_
        refine lv_iadd hx hb dM_extract_266 ?_
        refine w_top (y := nI ((100 * (mr κ (4 * chp (Gm σ P) tok g + d9))) + (10 * a9))) (by first | exact nI_add _ _ | simp only [nI_add, Nat.add_assoc, Nat.add_zero, Nat.zero_add]) ?_
        refine lv_iload hx hb dM_extract_267 (lv_at hl 9 rfl) ?_
        refine lv_iadd hx hb dM_extract_269 ?_
        refine w_top (y := nI (((100 * (mr κ (4 * chp (Gm σ P) tok g + d9))) + (10 * a9)) + (sp (Gm σ P) tok (mr κ (4 * chp (Gm σ P) tok g + d9)) (((Gm σ P).2.2 (chp (Gm σ P) tok g)).drop (d9 + 1)) a9 g.2.2))) (by first | exact nI_add _ _ | simp only [nI_add, Nat.add_assoc, Nat.add_zero, Nat.zero_add]) ?_
        refine w_iast C hk hE 9 (by exact Nat.le_of_ble_eq_true rfl) (n := 1000) (fun _ => rfl) (by omega) (by first | decide | omega) dM_extract_270 (fun H locs hE => ?_)
        rw [mset_msr (by decide) (by decide)] at hE
        refine lv_iload hx hb dM_extract_271 (lv_at hl 6 rfl) ?_
        refine lv_iconst (v := nI 1) hx hb dM_extract_273 (by decide) ?_
        refine lv_iadd hx hb dM_extract_274 ?_
        refine w_top (y := nI (y9 + 1)) (by first | exact nI_add _ _ | simp only [nI_add, Nat.add_assoc, Nat.add_zero, Nat.zero_add]) ?_
        refine lv_istore (lv' := [(6, .int (nI (y9 + 1))), (0, .ref (ad 0)), (1, .int (nI m8)), (2, .int (nI g.1)), (3, .int (nI g.2.1)), (4, .int (nI g.2.2)), (5, .int (nI (chp (Gm σ P) tok g))), (7, .int (nI a9)), (8, .int (nI d9)), (9, .int (nI (sp (Gm σ P) tok (mr κ (4 * chp (Gm σ P) tok g + d9)) (((Gm σ P).2.2 (chp (Gm σ P) tok g)).drop (d9 + 1)) a9 g.2.2)))]) hx hb dM_extract_275 hl (by decide) rfl (fun ls hl => ?_)
        refine lv_iload hx hb dM_extract_277 (lv_at hl 9 rfl) ?_
        refine lv_istore (lv' := [(7, .int (nI (sp (Gm σ P) tok (mr κ (4 * chp (Gm σ P) tok g + d9)) (((Gm σ P).2.2 (chp (Gm σ P) tok g)).drop (d9 + 1)) a9 g.2.2))), (6, .int (nI (y9 + 1))), (0, .ref (ad 0)), (1, .int (nI m8)), (2, .int (nI g.1)), (3, .int (nI g.2.1)), (4, .int (nI g.2.2)), (5, .int (nI (chp (Gm σ P) tok g))), (8, .int (nI d9)), (9, .int (nI (sp (Gm σ P) tok (mr κ (4 * chp (Gm σ P) tok g + d9)) (((Gm σ P).2.2 (chp (Gm σ P) tok g)).drop (d9 + 1)) a9 g.2.2)))]) hx hb dM_extract_279 hl (by decide) rfl (fun ls hl => ?_)
        refine lv_iinc (v := nI (d9 + 1)) (lv' := [(8, .int (nI (d9 + 1))), (7, .int (nI (sp (Gm σ P) tok (mr κ (4 * chp (Gm σ P) tok g + d9)) (((Gm σ P).2.2 (chp (Gm σ P) tok g)).drop (d9 + 1)) a9 g.2.2))), (6, .int (nI (y9 + 1))), (0, .ref (ad 0)), (1, .int (nI m8)), (2, .int (nI g.1)), (3, .int (nI g.2.1)), (4, .int (nI g.2.2)), (5, .int (nI (chp (Gm σ P) tok g))), (9, .int (nI (sp (Gm σ P) tok (mr κ (4 * chp (Gm σ P) tok g + d9)) (((Gm σ P).2.2 (chp (Gm σ P) tok g)).drop (d9 + 1)) a9 g.2.2)))]) hx hb dM_extract_281 hl (k := 8) rfl (by exact nI_1 _) (by decide) rfl (fun ls hl => ?_)
        refine lv_goto (tgt := 144) hx hb dM_extract_284 (by decide) ?_
        exact ih (mset κ 9 (m8 + y9) (nI (((100 * (mr κ (4 * chp (Gm σ P) tok g + d9))) + (10 * a9)) + (sp (Gm σ P) tok (mr κ (4 * chp (Gm σ P) tok g + d9)) (((Gm σ P).2.2 (chp (Gm σ P) tok g)).drop (d9 + 1)) a9 g.2.2)))) (y9 + 1) (sp (Gm σ P) tok (mr κ (4 * chp (Gm σ P) tok g + d9)) (((Gm σ P).2.2 (chp (Gm σ P) tok g)).drop (d9 + 1)) a9 g.2.2) (d9 + 1) (by omega) (by omega) ((XK_step hn8 hXK hdrop rfl).2 (by omega)) _ _ ls hE (lv_sub hl [3, 4, 5, 6, 7, 8, 2, 1, 0] rfl)
set_option maxHeartbeats 4000000 in
set_option maxRecDepth 100000 in
theorem lp_M_ex1 {p : Program} {l : Launch} {e : Env} {s : State} {m : MethodId} {below : List Frame} {meth : Method} {c : Code} {D : va_G} {cs : Nat → ClassId} {ad : Nat → Nat} {A : Nat → Prop} {σ : Mem} {s9 r9 : Nat → Nat} {P n9 V9 T9 : Nat} {tok : Nat → Nat} (C : bC p s m ([.ref (ad 0)] : List Value).toArray meth c bM_extract 10 "EarleyChartModel" (some .int)) (hk : wk D cs s) (hA : ∀ q : Nat, s.heap.size ≤ q → A q) (hJ : mJ σ P n9 V9 T9 s9 r9) (hmk : MK σ tok n9) (hkn : ¬ σ 0 12 = 0 → TM (Gm σ P) tok n9 s9) (hacc : accF (msr σ s9 r9) n9 P = true → 0 < P ∧ gd (Gm σ P) tok n9 (ml σ 0, 0, n9))   :
    ∀ (n : Nat) (κ1 : Mem) (s1 : Nat → Nat) (κ : Mem) (r2 : Nat → Nat) (m9 : Nat) (c9 : Nat), (8000 - c9) < n → (accF (msr σ s9 r9) n9 P = true) → (xb σ κ1) → (TM (Gm σ P) tok n9 s1) → (leN s1) → (leN r2) → (XI (Gm σ P) tok n9 P κ1 [(ml σ 0, 0, n9)] κ m9 c9) → ∀ (H : Heap) (locs : List Loc) (ls : Array Slot), wS (wM D cs ad) A s.heap (msr κ s1 r2) H locs → lv_has ls 10 [(0, .ref (ad 0)), (1, .int (nI m9))] → W p l e (rmF 3 76) s m ([.ref (ad 0)] : List Value).toArray below meth c H locs 0 0 (wQi (wM D cs ad) A (fun r τ => accF (msr σ s9 r9) n9 P = false ∧ r = nI 0 ∧ τ = mset (msr σ s9 r9) 0 2 (nI 1) ∨ accF (msr σ s9 r9) n9 P = true ∧ xtP σ P n9 tok r τ) s below ([.ref (ad 0)] : List Value).toArray) (F0 m 52 ls []) := by
  obtain ⟨hx, hb, hml, hown, hts, hr, hlocks⟩ := id C
  obtain ⟨hI, hs9, hr9⟩ := id hJ
  obtain ⟨hgσ, hn8, hn7, hvb, -, hV0, -, hT0⟩ := mI_of_msr hI
  obtain ⟨hg, -, -, -, hV6, hV, hT6, hT⟩ := id hI
  have hP8 := hg.1
  intro n
  induction n with
  | zero => intro κ1 s1 κ r2 m9 c9 h; exact absurd h (Nat.not_lt_zero _)
  | succ n ih =>
    intro κ1 s1 κ r2 m9 c9 hn haccT hxb hTM hs1 hr2 hXI H locs ls hE hl
    have hc8 := hXI.2.2.1.1
    have hm160 := XI_160 hXI
    refine lv_iload_n hx hb dM_extract_52 rfl (lv_at hl 1 rfl) ?_
    refine lv_if_le (tgt := 363) hx hb dM_extract_53 (by decide) (fun c1 => ?_) (fun c1 => ?_)
    · have c1 := w_le0 (by omega) c1
      refine lv_aload_n hx hb dM_extract_363 rfl (lv_at hl 0 rfl) ?_
      refine w_get C hk hE (K := R_M) (T := F_M) (N := 17) (ci := 6) in_M 0 (Nat.le_of_ble_eq_true rfl) rfl rfl 14 (by decide) tw_596 rfl rfl dM_extract_364 ?_
      refine w_top (y := κ 0 14) (by simp [mset, mrow, upd, mhc, msr, nR]) ?_
      refine w_top (y := nI c9) (hXI.2.1) ?_
      exact w_reti C hE (Or.inr ⟨haccT, κ1, κ, s1, r2, m9, c9, hxb, hTM, hs1, hr2, hXI, Or.inl c1, rfl, rfl⟩) dM_extract_367
    · have c1 := w_nle0 (by omega) c1
      refine lv_aload_n hx hb dM_extract_56 rfl (lv_at hl 0 rfl) ?_
      refine w_get C hk hE (K := R_M) (T := F_M) (N := 17) (ci := 6) in_M 0 (Nat.le_of_ble_eq_true rfl) rfl rfl 14 (by decide) tw_596 rfl rfl dM_extract_57 ?_
      refine w_top (y := κ 0 14) (by simp [mset, mrow, upd, mhc, msr, nR]) ?_
      refine w_top (y := nI c9) (hXI.2.1) ?_
      refine lv_sipush (v := nI 8000) hx hb dM_extract_60 (by decide) ?_
      refine lv_icmp_ge (tgt := 363) hx hb dM_extract_63 (by decide) (fun c2 => ?_) (fun c2 => ?_)
      · have c2 : 8000 ≤ c9 := (nI_leI (by omega) (by omega)).mp c2
        refine lv_aload_n hx hb dM_extract_363 rfl (lv_at hl 0 rfl) ?_
        refine w_get C hk hE (K := R_M) (T := F_M) (N := 17) (ci := 6) in_M 0 (Nat.le_of_ble_eq_true rfl) rfl rfl 14 (by decide) tw_596 rfl rfl dM_extract_364 ?_
        refine w_top (y := κ 0 14) (by simp [mset, mrow, upd, mhc, msr, nR]) ?_
        refine w_top (y := nI c9) (hXI.2.1) ?_
        exact w_reti C hE (Or.inr ⟨haccT, κ1, κ, s1, r2, m9, c9, hxb, hTM, hs1, hr2, hXI, Or.inr (by omega), rfl, rfl⟩) dM_extract_367
      · have c2 : ¬ (8000 ≤ c9) := fun h => c2 ((nI_leI (by omega) (by omega)).mpr h)
        have hm1 : m9 = (m9 - 1) + 1 := by omega
        obtain ⟨g, hg9, hgg, hXJ⟩ := XI_pop (m := m9 - 1) hn8 (hm1 ▸ hXI) (by omega)
        obtain ⟨hgl1, hgl2, hgl3⟩ := gd_lt hn8 hgg
        obtain ⟨hcd1, hcd2, hcd3, hcd4⟩ := cd_dec ⟨hgl1, hgl2, hgl3⟩
        have hpc := (chp_ok (XJ_ok hXJ) hn8 hgg).1
        have hpc : chp (Gm σ P) tok g < P := hpc
        have hm159 := hXJ.2.2.2.2.2.2
        refine lv_iload_n hx hb dM_extract_66 rfl (lv_at hl 1 rfl) ?_
        refine lv_iconst (v := nI 1) hx hb dM_extract_67 (by decide) ?_
        refine lv_isub hx hb dM_extract_68 ?_
        refine w_top (y := nI (m9 - 1)) (w_sub (by omega) (by omega)) ?_
        refine lv_istore_n (lv' := [(1, .int (nI (m9 - 1))), (0, .ref (ad 0))]) hx hb dM_extract_69 rfl hl (by decide) rfl (fun ls hl => ?_)
        refine lv_aload_n hx hb dM_extract_70 rfl (lv_at hl 1 rfl) ?_
        refine w_get C hk hE (K := R_M) (T := F_M) (N := 17) (ci := 6) in_M 0 (Nat.le_of_ble_eq_true rfl) rfl rfl 16 (by decide) tw_598 rfl rfl dM_extract_71 ?_
        refine lv_iload_n hx hb dM_extract_74 rfl (lv_at hl 0 rfl) ?_
        refine w_iald C hk hE 9 (by exact Nat.le_of_ble_eq_true rfl) (n := 1000) rfl (by omega) (by first | decide | omega) dM_extract_75 ?_
        refine w_top (y := κ 9 (m9 - 1)) (by simp [mset, mrow, upd, mhc, msr, nR]) ?_
        refine w_top (y := nI (cd g)) (hg9) ?_
        refine lv_bipush (v := nI 100) hx hb dM_extract_76 (by decide) ?_
        refine lv_idiv hx hb dM_extract_78 (by decide) ?_
        refine w_top (y := nI ((cd g) / 100)) (by exact pk_div (by omega) (by decide) (by decide)) ?_
        refine w_top (y := nI g.1) (by rw [hcd1]) ?_
        refine lv_istore_n (lv' := [(2, .int (nI g.1)), (1, .int (nI (m9 - 1))), (0, .ref (ad 0))]) hx hb dM_extract_79 rfl hl (by decide) rfl (fun ls hl => ?_)
        refine lv_aload_n hx hb dM_extract_80 rfl (lv_at hl 2 rfl) ?_
        refine w_get C hk hE (K := R_M) (T := F_M) (N := 17) (ci := 6) in_M 0 (Nat.le_of_ble_eq_true rfl) rfl rfl 16 (by decide) tw_598 rfl rfl dM_extract_81 ?_
        refine lv_iload_n hx hb dM_extract_84 rfl (lv_at hl 1 rfl) ?_
        refine w_iald C hk hE 9 (by exact Nat.le_of_ble_eq_true rfl) (n := 1000) rfl (by omega) (by first | decide | omega) dM_extract_85 ?_
        refine w_top (y := κ 9 (m9 - 1)) (by simp [mset, mrow, upd, mhc, msr, nR]) ?_
        refine w_top (y := nI (cd g)) (hg9) ?_
        refine lv_bipush (v := nI 10) hx hb dM_extract_86 (by decide) ?_
        refine lv_idiv hx hb dM_extract_88 (by decide) ?_
        refine w_top (y := nI ((cd g) / 10)) (by exact pk_div (by omega) (by decide) (by decide)) ?_
        refine lv_bipush (v := nI 10) hx hb dM_extract_89 (by decide) ?_
        refine lv_irem hx hb dM_extract_91 (by decide) ?_
        refine w_top (y := nI (((cd g) / 10) % 10)) (by exact pk_rem (by omega) (by decide) (by decide)) ?_
        refine w_top (y := nI g.2.1) (by rw [hcd2]) ?_
        refine lv_istore_n (lv' := [(3, .int (nI g.2.1)), (2, .int (nI g.1)), (1, .int (nI (m9 - 1))), (0, .ref (ad 0))]) hx hb dM_extract_92 rfl hl (by decide) rfl (fun ls hl => ?_)
        refine lv_aload_n hx hb dM_extract_93 rfl (lv_at hl 3 rfl) ?_
        refine w_get C hk hE (K := R_M) (T := F_M) (N := 17) (ci := 6) in_M 0 (Nat.le_of_ble_eq_true rfl) rfl rfl 16 (by decide) tw_598 rfl rfl dM_extract_94 ?_
        refine lv_iload_n hx hb dM_extract_97 rfl (lv_at hl 2 rfl) ?_
        refine w_iald C hk hE 9 (by exact Nat.le_of_ble_eq_true rfl) (n := 1000) rfl (by omega) (by first | decide | omega) dM_extract_98 ?_
        refine w_top (y := κ 9 (m9 - 1)) (by simp [mset, mrow, upd, mhc, msr, nR]) ?_
        refine w_top (y := nI (cd g)) (hg9) ?_
        refine lv_bipush (v := nI 10) hx hb dM_extract_99 (by decide) ?_
        refine lv_irem hx hb dM_extract_101 (by decide) ?_
        refine w_top (y := nI ((cd g) % 10)) (by exact pk_rem (by omega) (by decide) (by decide)) ?_
        refine w_top (y := nI g.2.2) (by rw [hcd3]) ?_
        refine lv_istore (lv' := [(4, .int (nI g.2.2)), (3, .int (nI g.2.1)), (2, .int (nI g.1)), (1, .int (nI (m9 - 1))), (0, .ref (ad 0))]) hx hb dM_extract_102 hl (by decide) rfl (fun ls hl => ?_)
        refine lv_aload_n hx hb dM_extract_104 rfl (lv_at hl 4 rfl) ?_
        refine lv_iload_n hx hb dM_extract_105 rfl (lv_at hl 2 rfl) ?_
        refine lv_iload_n hx hb dM_extract_106 rfl (lv_at hl 1 rfl) ?_
        refine lv_iload hx hb dM_extract_107 (lv_at hl 0 rfl) ?_
        refine w_ci hE hA (w_runV C hk hE hl.1 (As := [.int (nI g.1), .int (nI g.2.1), .int (nI g.2.2)]) (rest := []) (q := 0) (c_M_choose l D cs ad κ s1 r2 P g.1 g.2.1 g.2.2 hXI.1.1 hgl1 hgg.2.1 (by omega) hs1 hr2 _) (Nat.le_of_ble_eq_true rfl) (ci := 6) (N := 17) (T := F_M) rfl rfl tw_732 tw_734 ts_32 tw_9 tw_735 (n := 3) (by decide +kernel) rfl rfl (Nat.le_of_ble_eq_true rfl) dM_extract_109 ⟨Nat.le_of_ble_eq_true rfl, Nat.le_of_ble_eq_true rfl⟩ ⟨Nat.zero_le _, Nat.zero_le _⟩) (fun r3 τ4 H locs hp hE _ _ => ?_)
        obtain ⟨hch1, hch3⟩ := ch_ok hn8 hXI.1 hTM hr2 hgg
        refine w_top (hp.1.trans hch1) ?_
        have hE := wS_eq hp.2 hE
        generalize hr3e : (chN κ s1 g.1 g.2.1 g.2.2 P 0 r2).2 = r3 at hE hch3
        refine lv_istore (lv' := [(5, .int (nI (chp (Gm σ P) tok g))), (4, .int (nI g.2.2)), (3, .int (nI g.2.1)), (2, .int (nI g.1)), (1, .int (nI (m9 - 1))), (0, .ref (ad 0))]) hx hb dM_extract_112 hl (by decide) rfl (fun ls hl => ?_)
        refine lv_aload_n hx hb dM_extract_114 rfl (lv_at hl 5 rfl) ?_
        refine w_get C hk hE (K := R_M) (T := F_M) (N := 17) (ci := 6) in_M 0 (Nat.le_of_ble_eq_true rfl) rfl rfl 15 (by decide) tw_597 rfl rfl dM_extract_115 ?_
        refine lv_aload_n hx hb dM_extract_118 rfl (lv_at hl 5 rfl) ?_
        refine w_get C hk hE (K := R_M) (T := F_M) (N := 17) (ci := 6) in_M 0 (Nat.le_of_ble_eq_true rfl) rfl rfl 14 (by decide) tw_596 rfl rfl dM_extract_119 ?_
        refine w_top (y := κ 0 14) (by simp [mset, mrow, upd, mhc, msr, nR]) ?_
        refine w_top (y := nI c9) (hXI.2.1) ?_
        refine lv_iload hx hb dM_extract_122 (lv_at hl 0 rfl) ?_
        refine w_iast C hk hE 8 (by exact Nat.le_of_ble_eq_true rfl) (n := 8000) (fun _ => rfl) (by omega) (by first | decide | omega) dM_extract_124 (fun H locs hE => ?_)
        rw [mset_msr (by decide) (by decide)] at hE
        refine lv_aload_n hx hb dM_extract_125 rfl (lv_at hl 5 rfl) ?_
        refine lv_aload_n hx hb dM_extract_126 rfl (lv_at hl 5 rfl) ?_
        refine w_get C hk hE (K := R_M) (T := F_M) (N := 17) (ci := 6) in_M 0 (Nat.le_of_ble_eq_true rfl) rfl rfl 14 (by decide) tw_596 rfl rfl dM_extract_127 ?_
        refine w_top (y := κ 0 14) (by simp [mset, mrow, upd, mhc, msr, nR]) ?_
        refine w_top (y := nI c9) (hXI.2.1) ?_
        refine lv_iconst (v := nI 1) hx hb dM_extract_130 (by decide) ?_
        refine lv_iadd hx hb dM_extract_131 ?_
        refine w_top (y := nI (c9 + 1)) (by first | exact nI_add _ _ | simp only [nI_add, Nat.add_assoc, Nat.add_zero, Nat.zero_add]) ?_
        refine w_put C hk hE (K := R_M) (T := F_M) (N := 17) (ci := 6) in_M ft_M_ok fn_M 0 (Nat.le_of_ble_eq_true rfl) rfl rfl 14 (by decide) tw_596 rfl rfl (rfl) (rfl) (Nat.le_of_ble_eq_true rfl) rfl dM_extract_132 (fun H locs hE => ?_)
        rw [mset_msr (by decide) (by decide)] at hE
        refine lv_iconst (v := nI 0) hx hb dM_extract_135 (by decide) ?_
        refine lv_istore (lv' := [(6, .int (nI 0)), (5, .int (nI (chp (Gm σ P) tok g))), (4, .int (nI g.2.2)), (3, .int (nI g.2.1)), (2, .int (nI g.1)), (1, .int (nI (m9 - 1))), (0, .ref (ad 0))]) hx hb dM_extract_136 hl (by decide) rfl (fun ls hl => ?_)
        refine lv_iload_n hx hb dM_extract_138 rfl (lv_at hl 3 rfl) ?_
        refine lv_istore (lv' := [(7, .int (nI g.2.1)), (6, .int (nI 0)), (5, .int (nI (chp (Gm σ P) tok g))), (4, .int (nI g.2.2)), (3, .int (nI g.2.1)), (2, .int (nI g.1)), (1, .int (nI (m9 - 1))), (0, .ref (ad 0))]) hx hb dM_extract_139 hl (by decide) rfl (fun ls hl => ?_)
        refine lv_iconst (v := nI 0) hx hb dM_extract_141 (by decide) ?_
        refine lv_istore (lv' := [(8, .int (nI 0)), (7, .int (nI g.2.1)), (6, .int (nI 0)), (5, .int (nI (chp (Gm σ P) tok g))), (4, .int (nI g.2.2)), (3, .int (nI g.2.1)), (2, .int (nI g.1)), (1, .int (nI (m9 - 1))), (0, .ref (ad 0))]) hx hb dM_extract_142 hl (by decide) rfl (fun ls hl => ?_)
        refine lp_M_ex2 C hk hA hJ hmk hkn hacc κ1 s1 r3 g (m9 - 1) (c9 + 1) (hTM) (hs1) (hch3) (fun κ3 y3 hXR3 H locs ls hE hl => ?_) _ (mset (mset κ 8 c9 (nI (chp (Gm σ P) tok g))) 0 14 (nI (c9 + 1))) 0 g.2.1 0 (Nat.lt_succ_self _) (by decide) (XK_start hn8 hXJ) _ _ ls hE (lv_sub hl [8, 7, 6, 5, 4, 3, 2, 1, 0] rfl)
        refine lv_iconst (v := nI 0) hx hb dM_extract_287 (by decide) ?_
        refine lv_istore (lv' := [(8, .int (nI 0)), (0, .ref (ad 0)), (1, .int (nI (m9 - 1))), (2, .int (nI g.1)), (3, .int (nI g.2.1)), (4, .int (nI g.2.2)), (5, .int (nI (chp (Gm σ P) tok g))), (6, .int (nI y3))]) hx hb dM_extract_288 hl (by decide) rfl (fun ls hl => ?_)
        refine lp_M_ex4 C hk hA hJ hmk hkn hacc κ1 s1 r3 g (m9 - 1) (c9 + 1) y3  (fun κ5 hXI5 H locs ls hE hl => ?_) _ κ3 0 (Nat.lt_succ_self _) (Nat.zero_le _) (hXR3) _ _ ls hE (lv_sub hl [1, 2, 3, 4, 5, 6, 7, 0] rfl)
        refine lv_iload_n hx hb dM_extract_355 rfl (lv_at hl 1 rfl) ?_
        refine lv_iload hx hb dM_extract_356 (lv_at hl 6 rfl) ?_
        refine lv_iadd hx hb dM_extract_358 ?_
        refine w_top (y := nI ((m9 - 1) + y3)) (by first | exact nI_add _ _ | simp only [nI_add, Nat.add_assoc, Nat.add_zero, Nat.zero_add]) ?_
        refine lv_istore_n (lv' := [(1, .int (nI ((m9 - 1) + y3))), (0, .ref (ad 0)), (2, .int (nI g.1)), (3, .int (nI g.2.1)), (4, .int (nI g.2.2)), (5, .int (nI (chp (Gm σ P) tok g))), (6, .int (nI y3))]) hx hb dM_extract_359 rfl hl (by decide) rfl (fun ls hl => ?_)
        refine lv_goto (tgt := 52) hx hb dM_extract_360 (by decide) ?_
        exact ih κ1 s1 κ5 r3 ((m9 - 1) + y3) (c9 + 1) (by omega) (haccT) (hxb) (hTM) (hs1) (hch3.1) (hXI5) _ _ ls hE (lv_sub hl [1, 0] rfl)
set_option maxHeartbeats 4000000 in
set_option maxRecDepth 100000 in
theorem c_M_extract (l : Launch) (D : va_G) (cs : Nat → ClassId) (ad : Nat → Nat) (σ : Mem) (s9 r9 : Nat → Nat) (P n9 V9 T9 : Nat) (tok : Nat → Nat) (hJ : mJ σ P n9 V9 T9 s9 r9) (hmk : MK σ tok n9) (hkn : ¬ σ 0 12 = 0 → TM (Gm σ P) tok n9 s9) (hacc : accF (msr σ s9 r9) n9 P = true → 0 < P ∧ gd (Gm σ P) tok n9 (ml σ 0, 0, n9)) : MetI l (wM D cs ad) cs yM_extract bM_extract 10 (some .int) 3 76 [.ref (ad 0)] (msr σ s9 r9) (fun r τ => accF (msr σ s9 r9) n9 P = false ∧ r = nI 0 ∧ τ = mset (msr σ s9 r9) 0 2 (nI 1) ∨ accF (msr σ s9 r9) n9 P = true ∧ xtP σ P n9 tok r τ) := by
  refine MetI.start (by decide) (Nat.le_of_ble_eq_true rfl) ?_
  intro p e s m below meth c A ls C hk hA hE hl
  obtain ⟨hx, hb, hml, hown, hts, hr, hlocks⟩ := id C
  have hl : lv_has ls 10 [(0, .ref (ad 0))] := hl
  obtain ⟨hI, hs9, hr9⟩ := id hJ
  obtain ⟨hgσ, hn8, hn7, hvb, -, hV0, -, hT0⟩ := mI_of_msr hI
  obtain ⟨hg, -, -, -, hV6, hV, hT6, hT⟩ := id hI
  have hP8 := hg.1
  refine lv_aload_n hx hb dM_extract_0 rfl (lv_at hl 0 rfl) ?_
  refine lv_aload_n hx hb dM_extract_1 rfl (lv_at hl 0 rfl) ?_
  refine w_ci hE hA (w_runV C hk hE hl.1 (As := []) (rest := [.ref (ad 0)]) (q := 0) (c_M_isAccepted l D cs ad (msr σ s9 r9) P n9 V9 T9 hI _) (Nat.le_of_ble_eq_true rfl) (ci := 6) (N := 17) (T := F_M) rfl rfl tw_703 tw_705 ts_28 tw_9 tw_706 (n := 0) (by decide +kernel) rfl rfl (Nat.le_of_ble_eq_true rfl) dM_extract_2 ⟨Nat.le_of_ble_eq_true rfl, Nat.le_of_ble_eq_true rfl⟩ ⟨Nat.zero_le _, Nat.zero_le _⟩) (fun r1 τ2 H locs hp hE _ _ => ?_)
  refine w_top hp.1 ?_
  have hE := wS_eq hp.2 hE
  refine lv_if_eq (tgt := 12) hx hb dM_extract_5 (by decide) (fun c3 => ?_) (fun c3 => ?_)
  · have c3 := zb_eq0 c3
    refine lv_iconst (v := nI 1) hx hb dM_extract_12 (by decide) ?_
    refine w_ci hE hA (w_runV C hk hE hl.1 (As := [.int (nI 1)]) (rest := []) (q := 0) (c_M_throwsBy l D cs ad (msr σ s9 r9) 1 (by decide) _) (Nat.le_of_ble_eq_true rfl) (ci := 6) (N := 17) (T := F_M) rfl rfl tw_647 tw_649 ts_18 tw_9 tw_650 (n := 1) (by decide +kernel) rfl rfl (Nat.le_of_ble_eq_true rfl) dM_extract_13 ⟨Nat.le_of_ble_eq_true rfl, Nat.le_of_ble_eq_true rfl⟩ ⟨Nat.zero_le _, Nat.zero_le _⟩) (fun r4 τ5 H locs hp hE _ _ => ?_)
    refine w_top (y := nI 1) (hp.1.trans rfl) ?_
    have hE := wS_eq hp.2 hE
    refine lv_if_eq (tgt := 21) hx hb dM_extract_16 (by decide) (fun c6 => ?_) (fun c6 => ?_)
    · have c6 := w_z0 (by omega) c6
      first | exact absurd c6 (by decide) | exact c6.elim | exact absurd rfl c6
    · have c6 := w_n0 (by omega) c6
      refine lv_iconst (v := nI 0) hx hb dM_extract_19 (by decide) ?_
      exact w_reti C hE (Or.inl ⟨c3, rfl, rfl⟩) dM_extract_20
  · have c3 := zb_ne0 c3
    obtain ⟨hacc1, hgd⟩ := hacc c3
    refine lv_iconst (v := nI 0) hx hb dM_extract_8 (by decide) ?_
    refine lv_goto (tgt := 13) hx hb dM_extract_9 (by decide) ?_
    refine w_ci hE hA (w_runV C hk hE hl.1 (As := [.int (nI 0)]) (rest := []) (q := 0) (c_M_throwsBy l D cs ad (msr σ s9 r9) 0 (by decide) _) (Nat.le_of_ble_eq_true rfl) (ci := 6) (N := 17) (T := F_M) rfl rfl tw_647 tw_649 ts_18 tw_9 tw_650 (n := 1) (by decide +kernel) rfl rfl (Nat.le_of_ble_eq_true rfl) dM_extract_13 ⟨Nat.le_of_ble_eq_true rfl, Nat.le_of_ble_eq_true rfl⟩ ⟨Nat.zero_le _, Nat.zero_le _⟩) (fun r7 τ8 H locs hp hE _ _ => ?_)
    refine w_top (y := nI 0) (hp.1.trans rfl) ?_
    have hE := wS_eq hp.2 hE
    refine lv_if_eq (tgt := 21) hx hb dM_extract_16 (by decide) (fun c9 => ?_) (fun c9 => ?_)
    · have c9 := w_z0 (by omega) c9
      rw [mset_msr (by decide) (by decide)] at hE
      refine lv_aload_n hx hb dM_extract_21 rfl (lv_at hl 0 rfl) ?_
      refine w_cv hE hA (w_runV C hk hE hl.1 (As := []) (rest := []) (q := 0) (c_M_work l D cs ad (mset σ 0 2 (nI 0)) _ s9 r9 P n9 rfl (mG_of hgσ (mset_i (by decide)) (mset_n (by decide)) (mset_n (by decide)) (mset_n (by decide))) (by rw [mset_i (by decide)]; exact hn7) hn8 hs9 hr9 _) (Nat.le_of_ble_eq_true rfl) (ci := 6) (N := 17) (T := F_M) rfl rfl tw_711 tw_713 ts_29 tw_9 tw_714 (n := 0) (by decide +kernel) rfl rfl (Nat.le_of_ble_eq_true rfl) dM_extract_22 ⟨Nat.le_of_ble_eq_true rfl, Nat.le_of_ble_eq_true rfl⟩ ⟨Nat.zero_le _, Nat.zero_le _⟩) (fun τ11 H locs hp hE _ _ => ?_)
      obtain ⟨κ1, s1, r1, eτ, hs1, hr1, htm, hκq, hκ0, hκ2⟩ := wrk_TM (tok := tok) hgσ hmk hn8 hs9 hr9 hkn hp
      have hE := wS_eq eτ hE
      have hml6 := hgd.1
      refine lv_aload_n hx hb dM_extract_25 rfl (lv_at hl 0 rfl) ?_
      refine lv_iconst (v := nI 0) hx hb dM_extract_26 (by decide) ?_
      refine w_put C hk hE (K := R_M) (T := F_M) (N := 17) (ci := 6) in_M ft_M_ok fn_M 0 (Nat.le_of_ble_eq_true rfl) rfl rfl 14 (by decide) tw_596 rfl rfl (rfl) (rfl) (Nat.le_of_ble_eq_true rfl) rfl dM_extract_27 (fun H locs hE => ?_)
      rw [mset_msr (by decide) (by decide)] at hE
      refine lv_iconst (v := nI 1) hx hb dM_extract_30 (by decide) ?_
      refine lv_istore_n (lv' := [(1, .int (nI 1)), (0, .ref (ad 0))]) hx hb dM_extract_31 rfl hl (by decide) rfl (fun ls hl => ?_)
      refine lv_aload_n hx hb dM_extract_32 rfl (lv_at hl 1 rfl) ?_
      refine w_get C hk hE (K := R_M) (T := F_M) (N := 17) (ci := 6) in_M 0 (Nat.le_of_ble_eq_true rfl) rfl rfl 16 (by decide) tw_598 rfl rfl dM_extract_33 ?_
      refine lv_iconst (v := nI 0) hx hb dM_extract_36 (by decide) ?_
      refine lv_bipush (v := nI 100) hx hb dM_extract_37 (by decide) ?_
      refine lv_aload_n hx hb dM_extract_39 rfl (lv_at hl 1 rfl) ?_
      refine w_get C hk hE (K := R_M) (T := F_M) (N := 17) (ci := 6) in_M 0 (Nat.le_of_ble_eq_true rfl) rfl rfl 4 (by decide) tw_586 rfl rfl dM_extract_40 ?_
      refine lv_iconst (v := nI 0) hx hb dM_extract_43 (by decide) ?_
      refine w_iald C hk hE 1 (by exact Nat.le_of_ble_eq_true rfl) (n := 8) rfl (by omega) (by first | decide | omega) dM_extract_44 ?_
      refine w_top (y := κ1 1 0) (by simp [mset, mrow, upd, mhc, msr, nR]) ?_
      refine w_top (y := nI (ml σ 0)) (by rw [hκq 1 (by decide)]; exact (hgσ.2.2 0 hacc1).1) ?_
      refine lv_imul hx hb dM_extract_45 ?_
      refine w_top (y := nI (100 * (ml σ 0))) (by exact pk_mul _ _) ?_
      refine lv_aload_n hx hb dM_extract_46 rfl (lv_at hl 1 rfl) ?_
      refine w_get C hk hE (K := R_M) (T := F_M) (N := 17) (ci := 6) in_M 0 (Nat.le_of_ble_eq_true rfl) rfl rfl 7 (by decide) tw_589 rfl rfl dM_extract_47 ?_
      refine w_top (y := κ1 0 7) (by simp [mset, mrow, upd, mhc, msr, nR]) ?_
      refine w_top (y := nI n9) (by rw [hκ0 7 (by decide) (by decide)]; exact hn7) ?_
      refine lv_iadd hx hb dM_extract_50 ?_
      refine w_top (y := nI ((100 * (ml σ 0)) + n9)) (by first | exact nI_add _ _ | simp only [nI_add, Nat.add_assoc, Nat.add_zero, Nat.zero_add]) ?_
      refine w_iast C hk hE 9 (by exact Nat.le_of_ble_eq_true rfl) (n := 1000) (fun _ => rfl) (by omega) (by first | decide | omega) dM_extract_51 (fun H locs hE => ?_)
      rw [mset_msr (by decide) (by decide)] at hE
      exact lp_M_ex1 C hk hA hJ hmk hkn hacc _ κ1 s1 (mset (mset κ1 0 14 (nI 0)) 9 0 (nI ((100 * (ml σ 0)) + n9))) r1 1 0 (Nat.lt_succ_self _) (c3) (⟨hκq, hκ0, hκ2⟩) (htm) (hs1) (hr1) (XI_start hn8 (EB_9 (EB_0 (xb_EB ⟨hκq, hκ0, hκ2⟩ hgσ hmk))) (by rw [mset_n (by decide)]; exact mset_s) hgd (by rw [mset_s]; rfl)) _ _ ls hE (lv_sub hl [1, 0] rfl)
    · have c9 := w_n0 (by omega) c9
      first | exact absurd c9 (by decide) | exact c9.elim | exact absurd rfl c9
