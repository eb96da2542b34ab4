theorem MetI_mem {l : Launch} {ω : Wd} {cs : Nat → ClassId} {y : MethodName} {b : ByteArray} {mL : Nat} {ret : Option FieldType} {f L : Nat} {As : List Value} {σ τ : Mem} {post : Int32 → Mem → Prop} (h : τ = σ) (hM : MetI l ω cs y b mL ret f L As σ post) : MetI l ω cs y b mL ret f L As τ post := by
  subst h; exact hM
theorem pl_res {μ σ1 μ1 : Mem} (h : RELX σ1 μ1) : RELX (msub 0 (mput 58 10 (mput 0 58 μ σ1) μ1)) (msub 58 (mput 58 10 (mput 0 58 μ σ1) μ1)) :=
  relx_cong h (fun q hq => (put_M0 hq).trans (mput_in (o := 0) hq)) (fun q hq => put_M hq)
set_option maxHeartbeats 4000000 in
set_option maxRecDepth 100000 in
theorem case_alive {p : Program} {l : Launch} {e : Env} {s : State} {m : MethodId} {below : List Frame} {meth : Method} {c : Code} {H : Heap} {locs : List Loc} {cells slots : Nat} {Q : State → Prop} {ls : Array Slot} {b L i : Nat} {xs : Nat → Int32} {D : va_G} {cs : Nat → ClassId} {ad : Nat → Nat} {μ : Mem} (hC : LC p l s m meth c b L xs D cs) (h : LSt s D cs ad b i μ H locs ls) (hi : i + 3 < L) (hcel : cells + 1 ≤ room_1.cells ∧ slots + 6 ≤ room_1.slots)
    (K : ∀ (μ : Mem) (H : Heap) (locs : List Loc) (ls : Array Slot), LSt s D cs ad b i μ H locs ls → W p l e room_1 s m #[.ref b] below meth c H locs (cells + 1) (slots + 6) Q (F0 m 745 ls [])) : W p l e room_1 s m #[.ref b] below meth c H locs cells slots Q (F0 m 300 ls []) := by
  have hC0 := hC
  obtain ⟨C, hk, hx0, hXs, hbl, hl0, hL⟩ := hC
  obtain ⟨hx, hb, hml, hown, hts, hr, hlocks⟩ := id C
  obtain ⟨hE, ⟨tok, P, S, n, V, T, s9, r9, hREL⟩, hl⟩ := h
  have hbA : ¬ lA s b := Nat.not_le.mpr hbl
  refine W.widen (k := cells + 1) (n := slots + 6) (by omega) (by omega) ?_
  refine lv_aload_n hx hb dL_law_300 rfl (lv_at hl 1 rfl) ?_
  refine s_ci hE sub_E (fun _ h => h) (s_runV C hk hE sub_E hl.1 (As := []) (rest := []) (q := 0) (c_E_alive l D cs ad (msub 0 μ) P S n hREL.1.1.1 _) (Nat.le_of_ble_eq_true rfl) (ci := 5) (N := 7) (T := F_E) rfl rfl tw_267 tw_268 tw_269 tw_1 tw_270 (n := 0) (by decide +kernel) rfl rfl (Nat.le_of_ble_eq_true rfl) dL_law_301 ⟨Nat.le_of_ble_eq_true rfl, Nat.le_of_ble_eq_true rfl⟩ hcel) (fun r1 σ1 H locs hp hE _ => ?_)
  refine lv_aload_n hx hb dL_law_304 rfl (lv_at hl 2 rfl) ?_
  refine s_ci hE sub_M (fun _ h => h) (s_runV C hk hE sub_M hl.1 (As := []) (rest := [.int r1]) (q := 0) (MetI_mem (sub_58 (μ := μ) (σ1 := σ1)) (c_M_alive l D cs (fun j => ad (j + 58)) (msub 58 μ) n hREL.2.1.1.2.2.1 hREL.2.1.1.2.1) _) (Nat.le_of_ble_eq_true rfl) (ci := 6) (N := 17) (T := F_M) rfl rfl tw_695 tw_696 tw_697 tw_9 tw_698 (n := 0) (by decide +kernel) rfl rfl (Nat.le_of_ble_eq_true rfl) dL_law_305 ⟨Nat.le_of_ble_eq_true rfl, Nat.le_of_ble_eq_true rfl⟩ hcel) (fun r2 μ1 H locs hp2 hE _ => ?_)
  have heq : r1 = r2 := by rw [hp.1, hp2.1]; exact op_alive hREL
  refine lv_icmp_eq (tgt := 745) hx hb dL_law_308 (by decide) (fun _ => ?_) (fun h => absurd heq h)
  exact K _ _ _ ls ⟨hE, pl_res (by rw [hp.2, hp2.2]; exact relx_thr hREL), hl⟩
set_option maxHeartbeats 4000000 in
set_option maxRecDepth 100000 in
theorem case_accepts {p : Program} {l : Launch} {e : Env} {s : State} {m : MethodId} {below : List Frame} {meth : Method} {c : Code} {H : Heap} {locs : List Loc} {cells slots : Nat} {Q : State → Prop} {ls : Array Slot} {b L i : Nat} {xs : Nat → Int32} {D : va_G} {cs : Nat → ClassId} {ad : Nat → Nat} {μ : Mem} (hC : LC p l s m meth c b L xs D cs) (h : LSt s D cs ad b i μ H locs ls) (hi : i + 3 < L) (hcel : cells + 1 ≤ room_1.cells ∧ slots + 6 ≤ room_1.slots)
    (K : ∀ (μ : Mem) (H : Heap) (locs : List Loc) (ls : Array Slot), LSt s D cs ad b i μ H locs ls → W p l e room_1 s m #[.ref b] below meth c H locs (cells + 1) (slots + 6) Q (F0 m 745 ls [])) : W p l e room_1 s m #[.ref b] below meth c H locs cells slots Q (F0 m 313 ls []) := by
  have hC0 := hC
  obtain ⟨C, hk, hx0, hXs, hbl, hl0, hL⟩ := hC
  obtain ⟨hx, hb, hml, hown, hts, hr, hlocks⟩ := id C
  obtain ⟨hE, ⟨tok, P, S, n, V, T, s9, r9, hREL⟩, hl⟩ := h
  have hbA : ¬ lA s b := Nat.not_le.mpr hbl
  refine W.widen (k := cells + 1) (n := slots + 6) (by omega) (by omega) ?_
  refine lv_aload_n hx hb dL_law_313 rfl (lv_at hl 1 rfl) ?_
  refine s_ci hE sub_E (fun _ h => h) (s_runV C hk hE sub_E hl.1 (As := []) (rest := []) (q := 0) (c_E_accepts l D cs ad (msub 0 μ) P S n hREL.1.1.1 _) (Nat.le_of_ble_eq_true rfl) (ci := 5) (N := 7) (T := F_E) rfl rfl tw_272 tw_273 tw_274 tw_1 tw_275 (n := 0) (by decide +kernel) rfl rfl (Nat.le_of_ble_eq_true rfl) dL_law_314 ⟨Nat.le_of_ble_eq_true rfl, Nat.le_of_ble_eq_true rfl⟩ hcel) (fun r1 σ1 H locs hp hE _ => ?_)
  refine lv_aload_n hx hb dL_law_317 rfl (lv_at hl 2 rfl) ?_
  refine s_ci hE sub_M (fun _ h => h) (s_runV C hk hE sub_M hl.1 (As := []) (rest := [.int r1]) (q := 0) (MetI_mem (sub_58 (μ := μ) (σ1 := σ1)) (c_M_accepts l D cs (fun j => ad (j + 58)) (msub 58 μ) P n V T hREL.2.1.1) _) (Nat.le_of_ble_eq_true rfl) (ci := 6) (N := 17) (T := F_M) rfl rfl tw_699 tw_700 tw_701 tw_9 tw_702 (n := 0) (by decide +kernel) rfl rfl (Nat.le_of_ble_eq_true rfl) dL_law_318 ⟨Nat.le_of_ble_eq_true rfl, Nat.le_of_ble_eq_true rfl⟩ hcel) (fun r2 μ1 H locs hp2 hE _ => ?_)
  have heq : r1 = r2 := by rw [hp.1, hp2.1, rel_acc hREL]
  refine lv_icmp_eq (tgt := 745) hx hb dL_law_321 (by decide) (fun _ => ?_) (fun h => absurd heq h)
  exact K _ _ _ ls ⟨hE, pl_res (by rw [hp.2, hp2.2]; exact relx_thr hREL), hl⟩
set_option maxHeartbeats 4000000 in
set_option maxRecDepth 100000 in
theorem case_witCount {p : Program} {l : Launch} {e : Env} {s : State} {m : MethodId} {below : List Frame} {meth : Method} {c : Code} {H : Heap} {locs : List Loc} {cells slots : Nat} {Q : State → Prop} {ls : Array Slot} {b L i : Nat} {xs : Nat → Int32} {D : va_G} {cs : Nat → ClassId} {ad : Nat → Nat} {μ : Mem} (hC : LC p l s m meth c b L xs D cs) (h : LSt s D cs ad b i μ H locs ls) (hi : i + 3 < L) (hcel : cells + 1 ≤ room_1.cells ∧ slots + 6 ≤ room_1.slots)
    (K : ∀ (μ : Mem) (H : Heap) (locs : List Loc) (ls : Array Slot), LSt s D cs ad b i μ H locs ls → W p l e room_1 s m #[.ref b] below meth c H locs (cells + 1) (slots + 6) Q (F0 m 745 ls [])) : W p l e room_1 s m #[.ref b] below meth c H locs cells slots Q (F0 m 370 ls []) := by
  have hC0 := hC
  obtain ⟨C, hk, hx0, hXs, hbl, hl0, hL⟩ := hC
  obtain ⟨hx, hb, hml, hown, hts, hr, hlocks⟩ := id C
  obtain ⟨hE, ⟨tok, P, S, n, V, T, s9, r9, hREL⟩, hl⟩ := h
  have hbA : ¬ lA s b := Nat.not_le.mpr hbl
  refine W.widen (k := cells + 1) (n := slots + 6) (by omega) (by omega) ?_
  refine lv_aload_n hx hb dL_law_370 rfl (lv_at hl 1 rfl) ?_
  refine s_ci hE sub_E (fun _ h => h) (s_runV C hk hE sub_E hl.1 (As := []) (rest := []) (q := 0) (c_E_witCount l D cs ad (msub 0 μ)  _) (Nat.le_of_ble_eq_true rfl) (ci := 5) (N := 7) (T := F_E) rfl rfl tw_280 tw_281 tw_282 tw_1 tw_283 (n := 0) (by decide +kernel) rfl rfl (Nat.le_of_ble_eq_true rfl) dL_law_371 ⟨Nat.le_of_ble_eq_true rfl, Nat.le_of_ble_eq_true rfl⟩ hcel) (fun r1 σ1 H locs hp hE _ => ?_)
  refine lv_aload_n hx hb dL_law_374 rfl (lv_at hl 2 rfl) ?_
  refine s_ci hE sub_M (fun _ h => h) (s_runV C hk hE sub_M hl.1 (As := []) (rest := [.int r1]) (q := 0) (MetI_mem (sub_58 (μ := μ) (σ1 := σ1)) (c_M_witCount l D cs (fun j => ad (j + 58)) (msub 58 μ) ) _) (Nat.le_of_ble_eq_true rfl) (ci := 6) (N := 17) (T := F_M) rfl rfl tw_736 tw_737 tw_738 tw_9 tw_739 (n := 0) (by decide +kernel) rfl rfl (Nat.le_of_ble_eq_true rfl) dL_law_375 ⟨Nat.le_of_ble_eq_true rfl, Nat.le_of_ble_eq_true rfl⟩ hcel) (fun r2 μ1 H locs hp2 hE _ => ?_)
  have heq : r1 = r2 := by obtain ⟨c9, hc1, hc2, hc3, hc4⟩ := hREL.2.2; rw [hp.1, hp2.1, hc2, hc3]
  refine lv_icmp_eq (tgt := 745) hx hb dL_law_378 (by decide) (fun _ => ?_) (fun h => absurd heq h)
  exact K _ _ _ ls ⟨hE, pl_res (by rw [hp.2, hp2.2]; exact relx_thr hREL), hl⟩
set_option maxHeartbeats 4000000 in
set_option maxRecDepth 100000 in
theorem case_clear {p : Program} {l : Launch} {e : Env} {s : State} {m : MethodId} {below : List Frame} {meth : Method} {c : Code} {H : Heap} {locs : List Loc} {cells slots : Nat} {Q : State → Prop} {ls : Array Slot} {b L i : Nat} {xs : Nat → Int32} {D : va_G} {cs : Nat → ClassId} {ad : Nat → Nat} {μ : Mem} (hC : LC p l s m meth c b L xs D cs) (h : LSt s D cs ad b i μ H locs ls) (hi : i + 3 < L) (hcel : cells + 1 ≤ room_1.cells ∧ slots + 6 ≤ room_1.slots)
    (K : ∀ (μ : Mem) (H : Heap) (locs : List Loc) (ls : Array Slot), LSt s D cs ad b i μ H locs ls → W p l e room_1 s m #[.ref b] below meth c H locs (cells + 1) (slots + 6) Q (F0 m 745 ls [])) : W p l e room_1 s m #[.ref b] below meth c H locs cells slots Q (F0 m 439 ls []) := by
  have hC0 := hC
  obtain ⟨C, hk, hx0, hXs, hbl, hl0, hL⟩ := hC
  obtain ⟨hx, hb, hml, hown, hts, hr, hlocks⟩ := id C
  obtain ⟨hE, ⟨tok, P, S, n, V, T, s9, r9, hREL⟩, hl⟩ := h
  have hbA : ¬ lA s b := Nat.not_le.mpr hbl
  refine W.widen (k := cells + 1) (n := slots + 6) (by omega) (by omega) ?_
  refine lv_aload_n hx hb dL_law_439 rfl (lv_at hl 1 rfl) ?_
  refine s_ci hE sub_E (fun _ h => h) (s_runV C hk hE sub_E hl.1 (As := []) (rest := []) (q := 0) (c_E_clear l D cs ad (msub 0 μ)  _) (Nat.le_of_ble_eq_true rfl) (ci := 5) (N := 7) (T := F_E) rfl rfl tw_284 tw_285 tw_286 tw_1 tw_287 (n := 0) (by decide +kernel) rfl rfl (Nat.le_of_ble_eq_true rfl) dL_law_440 ⟨Nat.le_of_ble_eq_true rfl, Nat.le_of_ble_eq_true rfl⟩ hcel) (fun r1 σ1 H locs hp hE _ => ?_)
  refine lv_aload_n hx hb dL_law_443 rfl (lv_at hl 2 rfl) ?_
  refine s_ci hE sub_M (fun _ h => h) (s_runV C hk hE sub_M hl.1 (As := []) (rest := [.int r1]) (q := 0) (MetI_mem (sub_58 (μ := μ) (σ1 := σ1)) (c_M_clear l D cs (fun j => ad (j + 58)) (msub 58 μ) ) _) (Nat.le_of_ble_eq_true rfl) (ci := 6) (N := 17) (T := F_M) rfl rfl tw_744 tw_745 tw_746 tw_9 tw_747 (n := 0) (by decide +kernel) rfl rfl (Nat.le_of_ble_eq_true rfl) dL_law_444 ⟨Nat.le_of_ble_eq_true rfl, Nat.le_of_ble_eq_true rfl⟩ hcel) (fun r2 μ1 H locs hp2 hE _ => ?_)
  have heq : r1 = r2 := by rw [hp.1, hp2.1, hREL.1.1.1.2.2, hREL.2.1.1.2.2.1]
  refine lv_icmp_eq (tgt := 745) hx hb dL_law_447 (by decide) (fun _ => ?_) (fun h => absurd heq h)
  exact K _ _ _ ls ⟨hE, pl_res (by rw [hp.2, hp2.2]; exact op_clear hREL), hl⟩
set_option maxHeartbeats 4000000 in
set_option maxRecDepth 100000 in
theorem case_erase {p : Program} {l : Launch} {e : Env} {s : State} {m : MethodId} {below : List Frame} {meth : Method} {c : Code} {H : Heap} {locs : List Loc} {cells slots : Nat} {Q : State → Prop} {ls : Array Slot} {b L i : Nat} {xs : Nat → Int32} {D : va_G} {cs : Nat → ClassId} {ad : Nat → Nat} {μ : Mem} (hC : LC p l s m meth c b L xs D cs) (h : LSt s D cs ad b i μ H locs ls) (hi : i + 3 < L) (hcel : cells + 1 ≤ room_1.cells ∧ slots + 6 ≤ room_1.slots)
    (K : ∀ (μ : Mem) (H : Heap) (locs : List Loc) (ls : Array Slot), LSt s D cs ad b i μ H locs ls → W p l e room_1 s m #[.ref b] below meth c H locs (cells + 1) (slots + 6) Q (F0 m 745 ls [])) : W p l e room_1 s m #[.ref b] below meth c H locs cells slots Q (F0 m 452 ls []) := by
  have hC0 := hC
  obtain ⟨C, hk, hx0, hXs, hbl, hl0, hL⟩ := hC
  obtain ⟨hx, hb, hml, hown, hts, hr, hlocks⟩ := id C
  obtain ⟨hE, ⟨tok, P, S, n, V, T, s9, r9, hREL⟩, hl⟩ := h
  have hbA : ¬ lA s b := Nat.not_le.mpr hbl
  refine W.widen (k := cells + 1) (n := slots + 6) (by omega) (by omega) ?_
  refine lv_aload_n hx hb dL_law_452 rfl (lv_at hl 1 rfl) ?_
  refine s_ci hE sub_E (fun _ h => h) (s_runV C hk hE sub_E hl.1 (As := []) (rest := []) (q := 0) (c_E_erase l D cs ad (msub 0 μ)  _) (Nat.le_of_ble_eq_true rfl) (ci := 5) (N := 7) (T := F_E) rfl rfl tw_288 tw_289 tw_290 tw_1 tw_291 (n := 0) (by decide +kernel) rfl rfl (Nat.le_of_ble_eq_true rfl) dL_law_453 ⟨Nat.le_of_ble_eq_true rfl, Nat.le_of_ble_eq_true rfl⟩ hcel) (fun r1 σ1 H locs hp hE _ => ?_)
  refine lv_aload_n hx hb dL_law_456 rfl (lv_at hl 2 rfl) ?_
  refine s_ci hE sub_M (fun _ h => h) (s_runV C hk hE sub_M hl.1 (As := []) (rest := [.int r1]) (q := 0) (MetI_mem (sub_58 (μ := μ) (σ1 := σ1)) (c_M_erase l D cs (fun j => ad (j + 58)) (msub 58 μ) P n V T hREL.2.1.1) _) (Nat.le_of_ble_eq_true rfl) (ci := 6) (N := 17) (T := F_M) rfl rfl tw_748 tw_749 tw_750 tw_9 tw_751 (n := 0) (by decide +kernel) rfl rfl (Nat.le_of_ble_eq_true rfl) dL_law_457 ⟨Nat.le_of_ble_eq_true rfl, Nat.le_of_ble_eq_true rfl⟩ hcel) (fun r2 μ1 H locs hp2 hE _ => ?_)
  have heq : r1 = r2 := by rw [hp.1, hp2.1]; exact hREL.1.1.1.1.2.2.1
  refine lv_icmp_eq (tgt := 745) hx hb dL_law_460 (by decide) (fun _ => ?_) (fun h => absurd heq h)
  exact K _ _ _ ls ⟨hE, pl_res (by rw [hp.2]; exact op_erase hREL hp2.2), hl⟩
set_option maxHeartbeats 4000000 in
set_option maxRecDepth 100000 in
theorem case_fed {p : Program} {l : Launch} {e : Env} {s : State} {m : MethodId} {below : List Frame} {meth : Method} {c : Code} {H : Heap} {locs : List Loc} {cells slots : Nat} {Q : State → Prop} {ls : Array Slot} {b L i : Nat} {xs : Nat → Int32} {D : va_G} {cs : Nat → ClassId} {ad : Nat → Nat} {μ : Mem} (hC : LC p l s m meth c b L xs D cs) (h : LSt s D cs ad b i μ H locs ls) (hi : i + 3 < L) (hcel : cells + 1 ≤ room_1.cells ∧ slots + 6 ≤ room_1.slots)
    (K : ∀ (μ : Mem) (H : Heap) (locs : List Loc) (ls : Array Slot), LSt s D cs ad b i μ H locs ls → W p l e room_1 s m #[.ref b] below meth c H locs (cells + 1) (slots + 6) Q (F0 m 745 ls [])) : W p l e room_1 s m #[.ref b] below meth c H locs cells slots Q (F0 m 732 ls []) := by
  have hC0 := hC
  obtain ⟨C, hk, hx0, hXs, hbl, hl0, hL⟩ := hC
  obtain ⟨hx, hb, hml, hown, hts, hr, hlocks⟩ := id C
  obtain ⟨hE, ⟨tok, P, S, n, V, T, s9, r9, hREL⟩, hl⟩ := h
  have hbA : ¬ lA s b := Nat.not_le.mpr hbl
  refine W.widen (k := cells + 1) (n := slots + 6) (by omega) (by omega) ?_
  refine lv_aload_n hx hb dL_law_732 rfl (lv_at hl 1 rfl) ?_
  refine s_ci hE sub_E (fun _ h => h) (s_runV C hk hE sub_E hl.1 (As := []) (rest := []) (q := 0) (c_E_fed l D cs ad (msub 0 μ)  _) (Nat.le_of_ble_eq_true rfl) (ci := 5) (N := 7) (T := F_E) rfl rfl tw_296 tw_297 tw_298 tw_1 tw_299 (n := 0) (by decide +kernel) rfl rfl (Nat.le_of_ble_eq_true rfl) dL_law_733 ⟨Nat.le_of_ble_eq_true rfl, Nat.le_of_ble_eq_true rfl⟩ hcel) (fun r1 σ1 H locs hp hE _ => ?_)
  refine lv_aload_n hx hb dL_law_736 rfl (lv_at hl 2 rfl) ?_
  refine s_ci hE sub_M (fun _ h => h) (s_runV C hk hE sub_M hl.1 (As := []) (rest := [.int r1]) (q := 0) (MetI_mem (sub_58 (μ := μ) (σ1 := σ1)) (c_M_fed l D cs (fun j => ad (j + 58)) (msub 58 μ) ) _) (Nat.le_of_ble_eq_true rfl) (ci := 6) (N := 17) (T := F_M) rfl rfl tw_760 tw_761 tw_762 tw_9 tw_763 (n := 0) (by decide +kernel) rfl rfl (Nat.le_of_ble_eq_true rfl) dL_law_737 ⟨Nat.le_of_ble_eq_true rfl, Nat.le_of_ble_eq_true rfl⟩ hcel) (fun r2 μ1 H locs hp2 hE _ => ?_)
  have heq : r1 = r2 := by rw [hp.1, hp2.1, hREL.1.1.1.2.2, hREL.2.1.1.2.2.1]
  refine lv_icmp_eq (tgt := 745) hx hb dL_law_740 (by decide) (fun _ => ?_) (fun h => absurd heq h)
  exact K _ _ _ ls ⟨hE, pl_res (by rw [hp.2, hp2.2]; exact relx_thr hREL), hl⟩
