set_option maxRecDepth 8000 in
set_option maxHeartbeats 1000000 in
theorem c_G_init (l : Launch) {a0 : Array Value} {s0 : State} (hx0 : x0 a0 s0) (D : va_G) (cs : Nat → ClassId) (o : Nat)  : MetC l s0 D cs yG_init bG_init 1 1 12 4 64 [.ref o] [(o, .inr (0, [.null, .null, .null, .null, .int 0, .int 0]))] (fun w => ∃ (a6 : Nat) (a7 : Nat) (a8 : Nat) (a9 : Nat), w = [(o, .inr (0, [.ref a6, .ref a7, .ref a8, .ref a9, .int 0, .int 0])), (a6, .inl (cs 0, 8, .inl (fun _ => 0))), (a7, .inl (cs 0, 8, .inl (fun _ => 0))), (a8, .inl (cs 0, 24, .inl (fun _ => 0))), (a9, .inl (cs 0, 24, .inl (fun _ => 0)))]) := by
  refine MetC.start (by decide) (Nat.le_of_ble_eq_true rfl) ?_
  intro p e s m below meth c A ls C hnm hk hX hAs hA hP hD hS hl
  obtain ⟨hx, hb, hml, hown, hts, hr, hlocks⟩ := id C
  have hin : meth.name = "<init>" := hnm
  have hl : lv_has ls 1 [(0, .ref o)] := hl
  refine lv_aload_n hx hb dG_init_0 rfl (lv_at hl 0 rfl) ?_
  refine W.objInit hx hb hown (hts _ tw_30) (hts _ tw_23) (hts _ tw_24) rfl (by rw [hml]; exact hl.1) rfl dG_init_1 (Nat.le_of_ble_eq_true rfl) (Nat.le_of_ble_eq_true rfl) ?_
  refine W.eq (g2 := F0 m 4 ls []) rfl ?_
  refine lv_aload_n hx hb dG_init_4 rfl (lv_at hl 0 rfl) ?_
  refine lv_bipush (v := nI 8) hx hb dG_init_5 (by decide) ?_
  refine n_newa C hk hP hD hS hA (ty := .int) rfl tw_63 0 rfl rfl (a1 := (8, .inl (fun _ => 0))) (fun _ => rfl) (by decide) (by decide) (Nat.le_of_ble_eq_true rfl) (Nat.le_of_ble_eq_true rfl) dG_init_7 (fun q7 H hP hD hS => ?_)
  have hP : va_P D classes ((o, .inr (0, [.null, .null, .null, .null, .int 0, .int 0])) :: ([(q7, .inl (cs 0, 8, .inl (fun _ => 0)))])) H := hP
  have hD : va_D A ((o, .inr (0, [.null, .null, .null, .null, .int 0, .int 0])) :: ([(q7, .inl (cs 0, 8, .inl (fun _ => 0)))])) := hD
  refine va_putF (D := D) (ci := 0) (v := .ref q7) (C := R_G) (T := F_G) (N := 6) hx hb hts in_G ft_G ft_G_ok fn_G hown hk.1 hP hD hS 0 rfl rfl 0 (by decide) (hts _ tw_31) (fun _ h9 => h9) rfl hin rfl (ft_G_ok 0 (by decide)) rfl rfl (Nat.le_of_ble_eq_true rfl) dG_init_9 (fun H locs hP hD hS => ?_)
  have hP : va_P D classes ((o, .inr (0, [.ref q7, .null, .null, .null, .int 0, .int 0])) :: ([(q7, .inl (cs 0, 8, .inl (fun _ => 0)))])) H := hP
  have hD : va_D A ((o, .inr (0, [.ref q7, .null, .null, .null, .int 0, .int 0])) :: ([(q7, .inl (cs 0, 8, .inl (fun _ => 0)))])) := hD
  refine lv_aload_n hx hb dG_init_12 rfl (lv_at hl 0 rfl) ?_
  refine lv_bipush (v := nI 8) hx hb dG_init_13 (by decide) ?_
  refine n_newa C hk hP hD hS hA (ty := .int) rfl tw_63 0 rfl rfl (a1 := (8, .inl (fun _ => 0))) (fun _ => rfl) (by decide) (by decide) (Nat.le_of_ble_eq_true rfl) (Nat.le_of_ble_eq_true rfl) dG_init_15 (fun q15 H hP hD hS => ?_)
  have hP : va_P D classes ((o, .inr (0, [.ref q7, .null, .null, .null, .int 0, .int 0])) :: ([(q7, .inl (cs 0, 8, .inl (fun _ => 0))), (q15, .inl (cs 0, 8, .inl (fun _ => 0)))])) H := hP
  have hD : va_D A ((o, .inr (0, [.ref q7, .null, .null, .null, .int 0, .int 0])) :: ([(q7, .inl (cs 0, 8, .inl (fun _ => 0))), (q15, .inl (cs 0, 8, .inl (fun _ => 0)))])) := hD
  refine va_putF (D := D) (ci := 0) (v := .ref q15) (C := R_G) (T := F_G) (N := 6) hx hb hts in_G ft_G ft_G_ok fn_G hown hk.1 hP hD hS 0 rfl rfl 1 (by decide) (hts _ tw_34) (fun _ h9 => h9) rfl hin rfl (ft_G_ok 1 (by decide)) rfl rfl (Nat.le_of_ble_eq_true rfl) dG_init_17 (fun H locs hP hD hS => ?_)
  have hP : va_P D classes ((o, .inr (0, [.ref q7, .ref q15, .null, .null, .int 0, .int 0])) :: ([(q7, .inl (cs 0, 8, .inl (fun _ => 0))), (q15, .inl (cs 0, 8, .inl (fun _ => 0)))])) H := hP
  have hD : va_D A ((o, .inr (0, [.ref q7, .ref q15, .null, .null, .int 0, .int 0])) :: ([(q7, .inl (cs 0, 8, .inl (fun _ => 0))), (q15, .inl (cs 0, 8, .inl (fun _ => 0)))])) := hD
  refine lv_aload_n hx hb dG_init_20 rfl (lv_at hl 0 rfl) ?_
  refine lv_bipush (v := nI 24) hx hb dG_init_21 (by decide) ?_
  refine n_newa C hk hP hD hS hA (ty := .int) rfl tw_63 0 rfl rfl (a1 := (24, .inl (fun _ => 0))) (fun _ => rfl) (by decide) (by decide) (Nat.le_of_ble_eq_true rfl) (Nat.le_of_ble_eq_true rfl) dG_init_23 (fun q23 H hP hD hS => ?_)
  have hP : va_P D classes ((o, .inr (0, [.ref q7, .ref q15, .null, .null, .int 0, .int 0])) :: ([(q7, .inl (cs 0, 8, .inl (fun _ => 0))), (q15, .inl (cs 0, 8, .inl (fun _ => 0))), (q23, .inl (cs 0, 24, .inl (fun _ => 0)))])) H := hP
  have hD : va_D A ((o, .inr (0, [.ref q7, .ref q15, .null, .null, .int 0, .int 0])) :: ([(q7, .inl (cs 0, 8, .inl (fun _ => 0))), (q15, .inl (cs 0, 8, .inl (fun _ => 0))), (q23, .inl (cs 0, 24, .inl (fun _ => 0)))])) := hD
  refine va_putF (D := D) (ci := 0) (v := .ref q23) (C := R_G) (T := F_G) (N := 6) hx hb hts in_G ft_G ft_G_ok fn_G hown hk.1 hP hD hS 0 rfl rfl 2 (by decide) (hts _ tw_37) (fun _ h9 => h9) rfl hin rfl (ft_G_ok 2 (by decide)) rfl rfl (Nat.le_of_ble_eq_true rfl) dG_init_25 (fun H locs hP hD hS => ?_)
  have hP : va_P D classes ((o, .inr (0, [.ref q7, .ref q15, .ref q23, .null, .int 0, .int 0])) :: ([(q7, .inl (cs 0, 8, .inl (fun _ => 0))), (q15, .inl (cs 0, 8, .inl (fun _ => 0))), (q23, .inl (cs 0, 24, .inl (fun _ => 0)))])) H := hP
  have hD : va_D A ((o, .inr (0, [.ref q7, .ref q15, .ref q23, .null, .int 0, .int 0])) :: ([(q7, .inl (cs 0, 8, .inl (fun _ => 0))), (q15, .inl (cs 0, 8, .inl (fun _ => 0))), (q23, .inl (cs 0, 24, .inl (fun _ => 0)))])) := hD
  refine lv_aload_n hx hb dG_init_28 rfl (lv_at hl 0 rfl) ?_
  refine lv_bipush (v := nI 24) hx hb dG_init_29 (by decide) ?_
  refine n_newa C hk hP hD hS hA (ty := .int) rfl tw_63 0 rfl rfl (a1 := (24, .inl (fun _ => 0))) (fun _ => rfl) (by decide) (by decide) (Nat.le_of_ble_eq_true rfl) (Nat.le_of_ble_eq_true rfl) dG_init_31 (fun q31 H hP hD hS => ?_)
  have hP : va_P D classes ((o, .inr (0, [.ref q7, .ref q15, .ref q23, .null, .int 0, .int 0])) :: ([(q7, .inl (cs 0, 8, .inl (fun _ => 0))), (q15, .inl (cs 0, 8, .inl (fun _ => 0))), (q23, .inl (cs 0, 24, .inl (fun _ => 0))), (q31, .inl (cs 0, 24, .inl (fun _ => 0)))])) H := hP
  have hD : va_D A ((o, .inr (0, [.ref q7, .ref q15, .ref q23, .null, .int 0, .int 0])) :: ([(q7, .inl (cs 0, 8, .inl (fun _ => 0))), (q15, .inl (cs 0, 8, .inl (fun _ => 0))), (q23, .inl (cs 0, 24, .inl (fun _ => 0))), (q31, .inl (cs 0, 24, .inl (fun _ => 0)))])) := hD
  refine va_putF (D := D) (ci := 0) (v := .ref q31) (C := R_G) (T := F_G) (N := 6) hx hb hts in_G ft_G ft_G_ok fn_G hown hk.1 hP hD hS 0 rfl rfl 3 (by decide) (hts _ tw_41) (fun _ h9 => h9) rfl hin rfl (ft_G_ok 3 (by decide)) rfl rfl (Nat.le_of_ble_eq_true rfl) dG_init_33 (fun H locs hP hD hS => ?_)
  have hP : va_P D classes ((o, .inr (0, [.ref q7, .ref q15, .ref q23, .ref q31, .int 0, .int 0])) :: ([(q7, .inl (cs 0, 8, .inl (fun _ => 0))), (q15, .inl (cs 0, 8, .inl (fun _ => 0))), (q23, .inl (cs 0, 24, .inl (fun _ => 0))), (q31, .inl (cs 0, 24, .inl (fun _ => 0)))])) H := hP
  have hD : va_D A ((o, .inr (0, [.ref q7, .ref q15, .ref q23, .ref q31, .int 0, .int 0])) :: ([(q7, .inl (cs 0, 8, .inl (fun _ => 0))), (q15, .inl (cs 0, 8, .inl (fun _ => 0))), (q23, .inl (cs 0, 24, .inl (fun _ => 0))), (q31, .inl (cs 0, 24, .inl (fun _ => 0)))])) := hD
  refine lv_aload_n hx hb dG_init_36 rfl (lv_at hl 0 rfl) ?_
  refine lv_iconst (v := 0) hx hb dG_init_37 (by decide) ?_
  refine va_put (D := D) (ci := 0) (v := .int (0)) (C := R_G) (T := F_G) (N := 6) hx hb hts in_G ft_G ft_G_ok fn_G hown hk.1 hP hD hS 0 rfl rfl 4 (by decide) (hts _ tw_43) (fun _ h9 => h9) rfl (ft_G_ok 4 (by decide)) rfl rfl (Nat.le_of_ble_eq_true rfl) dG_init_38 (fun H locs hP hD hS => ?_)
  have hP : va_P D classes ((o, .inr (0, [.ref q7, .ref q15, .ref q23, .ref q31, .int (0), .int 0])) :: ([(q7, .inl (cs 0, 8, .inl (fun _ => 0))), (q15, .inl (cs 0, 8, .inl (fun _ => 0))), (q23, .inl (cs 0, 24, .inl (fun _ => 0))), (q31, .inl (cs 0, 24, .inl (fun _ => 0)))])) H := hP
  have hD : va_D A ((o, .inr (0, [.ref q7, .ref q15, .ref q23, .ref q31, .int (0), .int 0])) :: ([(q7, .inl (cs 0, 8, .inl (fun _ => 0))), (q15, .inl (cs 0, 8, .inl (fun _ => 0))), (q23, .inl (cs 0, 24, .inl (fun _ => 0))), (q31, .inl (cs 0, 24, .inl (fun _ => 0)))])) := hD
  refine lv_aload_n hx hb dG_init_41 rfl (lv_at hl 0 rfl) ?_
  refine lv_iconst (v := 0) hx hb dG_init_42 (by decide) ?_
  refine va_put (D := D) (ci := 0) (v := .int (0)) (C := R_G) (T := F_G) (N := 6) hx hb hts in_G ft_G ft_G_ok fn_G hown hk.1 hP hD hS 0 rfl rfl 5 (by decide) (hts _ tw_47) (fun _ h9 => h9) rfl (ft_G_ok 5 (by decide)) rfl rfl (Nat.le_of_ble_eq_true rfl) dG_init_43 (fun H locs hP hD hS => ?_)
  have hP : va_P D classes ((o, .inr (0, [.ref q7, .ref q15, .ref q23, .ref q31, .int (0), .int (0)])) :: ([(q7, .inl (cs 0, 8, .inl (fun _ => 0))), (q15, .inl (cs 0, 8, .inl (fun _ => 0))), (q23, .inl (cs 0, 24, .inl (fun _ => 0))), (q31, .inl (cs 0, 24, .inl (fun _ => 0)))])) H := hP
  have hD : va_D A ((o, .inr (0, [.ref q7, .ref q15, .ref q23, .ref q31, .int (0), .int (0)])) :: ([(q7, .inl (cs 0, 8, .inl (fun _ => 0))), (q15, .inl (cs 0, 8, .inl (fun _ => 0))), (q23, .inl (cs 0, 24, .inl (fun _ => 0))), (q31, .inl (cs 0, 24, .inl (fun _ => 0)))])) := hD
  exact W.vret hx hb hr (fun t ht hW => ⟨⟨_, rfl, ⟨q7, q15, q23, q31, rfl⟩, by rw [ht]; exact hP, hD⟩, hS.F ht⟩) hS.2.2 dG_init_46
set_option maxRecDepth 8000 in
set_option maxHeartbeats 1000000 in
theorem c_I_init (l : Launch) {a0 : Array Value} {s0 : State} (hx0 : x0 a0 s0) (D : va_G) (cs : Nat → ClassId) (o : Nat)  : MetC l s0 D cs yI_init bI_init 1 1 12 1 8 [.ref o] [(o, .inr (1, [.null, .int 0]))] (fun w => ∃ (a10 : Nat), w = [(o, .inr (1, [.ref a10, .int 0])), (a10, .inl (cs 0, 8, .inl (fun _ => 0)))]) := by
  refine MetC.start (by decide) (Nat.le_of_ble_eq_true rfl) ?_
  intro p e s m below meth c A ls C hnm hk hX hAs hA hP hD hS hl
  obtain ⟨hx, hb, hml, hown, hts, hr, hlocks⟩ := id C
  have hin : meth.name = "<init>" := hnm
  have hl : lv_has ls 1 [(0, .ref o)] := hl
  refine lv_aload_n hx hb dI_init_0 rfl (lv_at hl 0 rfl) ?_
  refine W.objInit hx hb hown (hts _ tw_69) (hts _ tw_23) (hts _ tw_24) rfl (by rw [hml]; exact hl.1) rfl dI_init_1 (Nat.le_of_ble_eq_true rfl) (Nat.le_of_ble_eq_true rfl) ?_
  refine W.eq (g2 := F0 m 4 ls []) rfl ?_
  refine lv_aload_n hx hb dI_init_4 rfl (lv_at hl 0 rfl) ?_
  refine lv_bipush (v := nI 8) hx hb dI_init_5 (by decide) ?_
  refine n_newa C hk hP hD hS hA (ty := .int) rfl tw_63 0 rfl rfl (a1 := (8, .inl (fun _ => 0))) (fun _ => rfl) (by decide) (by decide) (Nat.le_of_ble_eq_true rfl) (Nat.le_of_ble_eq_true rfl) dI_init_7 (fun q7 H hP hD hS => ?_)
  have hP : va_P D classes ((o, .inr (1, [.null, .int 0])) :: ([(q7, .inl (cs 0, 8, .inl (fun _ => 0)))])) H := hP
  have hD : va_D A ((o, .inr (1, [.null, .int 0])) :: ([(q7, .inl (cs 0, 8, .inl (fun _ => 0)))])) := hD
  refine va_putF (D := D) (ci := 1) (v := .ref q7) (C := R_I) (T := F_I) (N := 2) hx hb hts in_I ft_I ft_I_ok fn_I hown hk.1 hP hD hS 0 rfl rfl 0 (by decide) (hts _ tw_70) (fun _ h9 => h9) rfl hin rfl (ft_I_ok 0 (by decide)) rfl rfl (Nat.le_of_ble_eq_true rfl) dI_init_9 (fun H locs hP hD hS => ?_)
  have hP : va_P D classes ((o, .inr (1, [.ref q7, .int 0])) :: ([(q7, .inl (cs 0, 8, .inl (fun _ => 0)))])) H := hP
  have hD : va_D A ((o, .inr (1, [.ref q7, .int 0])) :: ([(q7, .inl (cs 0, 8, .inl (fun _ => 0)))])) := hD
  refine lv_aload_n hx hb dI_init_12 rfl (lv_at hl 0 rfl) ?_
  refine lv_iconst (v := 0) hx hb dI_init_13 (by decide) ?_
  refine va_put (D := D) (ci := 1) (v := .int (0)) (C := R_I) (T := F_I) (N := 2) hx hb hts in_I ft_I ft_I_ok fn_I hown hk.1 hP hD hS 0 rfl rfl 1 (by decide) (hts _ tw_71) (fun _ h9 => h9) rfl (ft_I_ok 1 (by decide)) rfl rfl (Nat.le_of_ble_eq_true rfl) dI_init_14 (fun H locs hP hD hS => ?_)
  have hP : va_P D classes ((o, .inr (1, [.ref q7, .int (0)])) :: ([(q7, .inl (cs 0, 8, .inl (fun _ => 0)))])) H := hP
  have hD : va_D A ((o, .inr (1, [.ref q7, .int (0)])) :: ([(q7, .inl (cs 0, 8, .inl (fun _ => 0)))])) := hD
  exact W.vret hx hb hr (fun t ht hW => ⟨⟨_, rfl, ⟨q7, rfl⟩, by rw [ht]; exact hP, hD⟩, hS.F ht⟩) hS.2.2 dI_init_17
set_option maxRecDepth 8000 in
set_option maxHeartbeats 1000000 in
theorem c_T_init (l : Launch) {a0 : Array Value} {s0 : State} (hx0 : x0 a0 s0) (D : va_G) (cs : Nat → ClassId) (o : Nat) (g i : Nat) : MetC l s0 D cs yT_init bT_init 3 1 12 32 2460 [.ref o, .ref g, .ref i] [(o, .inr (3, [.null, .null, .null, .null]))] (fun w => ∃ (a13 : Nat) (r13 : Nat → Nat) (a14 : Nat) (r14 : Nat → Nat), w = [(o, .inr (3, [.ref g, .ref i, .ref a13, .ref a14])), (a13, .inl (cs 1, 6, .inr (.inr (.inr (.inr (fun i => some (r13 i)))))))] ++ (List.range 6).map (fun i => (r13 i, zI cs 81)) ++ [(a14, .inl (cs 1, 24, .inr (.inr (.inr (.inr (fun i => some (r14 i)))))))] ++ (List.range 24).map (fun i => (r14 i, zI cs 81))) := by
  refine MetC.start (by decide) (Nat.le_of_ble_eq_true rfl) ?_
  intro p e s m below meth c A ls C hnm hk hX hAs hA hP hD hS hl
  obtain ⟨hx, hb, hml, hown, hts, hr, hlocks⟩ := id C
  have hin : meth.name = "<init>" := hnm
  have hl : lv_has ls 3 [(0, .ref o), (1, .ref g), (2, .ref i)] := hl
  refine lv_aload_n hx hb dT_init_0 rfl (lv_at hl 0 rfl) ?_
  refine W.objInit hx hb hown (hts _ tw_83) (hts _ tw_23) (hts _ tw_24) rfl (by rw [hml]; exact hl.1) rfl dT_init_1 (Nat.le_of_ble_eq_true rfl) (Nat.le_of_ble_eq_true rfl) ?_
  refine W.eq (g2 := F0 m 4 ls []) rfl ?_
  refine lv_aload_n hx hb dT_init_4 rfl (lv_at hl 0 rfl) ?_
  refine lv_bipush (v := nI 6) hx hb dT_init_5 (by decide) ?_
  refine lv_bipush (v := nI 81) hx hb dT_init_7 (by decide) ?_
  refine n_mna C hk hx0 hX hP hD hS hA (N' := 6) (K' := 81) tw_84 tw_63 (by decide) (by decide) (Nat.le_of_ble_eq_true rfl) (Nat.le_of_ble_eq_true rfl) dT_init_9 (fun q9 r9 H hP hD hS => ?_)
  have hP : va_P D classes ((o, .inr (3, [.null, .null, .null, .null])) :: ([(q9, .inl (cs 1, 6, .inr (.inr (.inr (.inr (fun i => some (r9 i)))))))] ++ (List.range 6).map (fun i => (r9 i, zI cs 81)))) H := hP
  have hD : va_D A ((o, .inr (3, [.null, .null, .null, .null])) :: ([(q9, .inl (cs 1, 6, .inr (.inr (.inr (.inr (fun i => some (r9 i)))))))] ++ (List.range 6).map (fun i => (r9 i, zI cs 81)))) := hD
  refine va_putF (D := D) (ci := 3) (v := .ref q9) (C := R_T) (T := F_T) (N := 4) hx hb hts in_T ft_T ft_T_ok fn_T hown hk.1 hP hD hS 0 rfl rfl 2 (by decide) (hts _ tw_88) (fun _ h9 => h9) rfl hin rfl (ft_T_ok 2 (by decide)) rfl rfl (Nat.le_of_ble_eq_true rfl) dT_init_13 (fun H locs hP hD hS => ?_)
  have hP : va_P D classes ((o, .inr (3, [.null, .null, .ref q9, .null])) :: ([(q9, .inl (cs 1, 6, .inr (.inr (.inr (.inr (fun i => some (r9 i)))))))] ++ (List.range 6).map (fun i => (r9 i, zI cs 81)))) H := hP
  have hD : va_D A ((o, .inr (3, [.null, .null, .ref q9, .null])) :: ([(q9, .inl (cs 1, 6, .inr (.inr (.inr (.inr (fun i => some (r9 i)))))))] ++ (List.range 6).map (fun i => (r9 i, zI cs 81)))) := hD
  refine lv_aload_n hx hb dT_init_16 rfl (lv_at hl 0 rfl) ?_
  refine lv_bipush (v := nI 24) hx hb dT_init_17 (by decide) ?_
  refine lv_bipush (v := nI 81) hx hb dT_init_19 (by decide) ?_
  refine n_mna C hk hx0 hX hP hD hS hA (N' := 24) (K' := 81) tw_84 tw_63 (by decide) (by decide) (Nat.le_of_ble_eq_true rfl) (Nat.le_of_ble_eq_true rfl) dT_init_21 (fun q21 r21 H hP hD hS => ?_)
  have hP : va_P D classes ((o, .inr (3, [.null, .null, .ref q9, .null])) :: ([(q9, .inl (cs 1, 6, .inr (.inr (.inr (.inr (fun i => some (r9 i)))))))] ++ (List.range 6).map (fun i => (r9 i, zI cs 81)) ++ [(q21, .inl (cs 1, 24, .inr (.inr (.inr (.inr (fun i => some (r21 i)))))))] ++ (List.range 24).map (fun i => (r21 i, zI cs 81)))) H := hP
  have hD : va_D A ((o, .inr (3, [.null, .null, .ref q9, .null])) :: ([(q9, .inl (cs 1, 6, .inr (.inr (.inr (.inr (fun i => some (r9 i)))))))] ++ (List.range 6).map (fun i => (r9 i, zI cs 81)) ++ [(q21, .inl (cs 1, 24, .inr (.inr (.inr (.inr (fun i => some (r21 i)))))))] ++ (List.range 24).map (fun i => (r21 i, zI cs 81)))) := hD
  refine va_putF (D := D) (ci := 3) (v := .ref q21) (C := R_T) (T := F_T) (N := 4) hx hb hts in_T ft_T ft_T_ok fn_T hown hk.1 hP hD hS 0 rfl rfl 3 (by decide) (hts _ tw_89) (fun _ h9 => h9) rfl hin rfl (ft_T_ok 3 (by decide)) rfl rfl (Nat.le_of_ble_eq_true rfl) dT_init_25 (fun H locs hP hD hS => ?_)
  have hP : va_P D classes ((o, .inr (3, [.null, .null, .ref q9, .ref q21])) :: ([(q9, .inl (cs 1, 6, .inr (.inr (.inr (.inr (fun i => some (r9 i)))))))] ++ (List.range 6).map (fun i => (r9 i, zI cs 81)) ++ [(q21, .inl (cs 1, 24, .inr (.inr (.inr (.inr (fun i => some (r21 i)))))))] ++ (List.range 24).map (fun i => (r21 i, zI cs 81)))) H := hP
  have hD : va_D A ((o, .inr (3, [.null, .null, .ref q9, .ref q21])) :: ([(q9, .inl (cs 1, 6, .inr (.inr (.inr (.inr (fun i => some (r9 i)))))))] ++ (List.range 6).map (fun i => (r9 i, zI cs 81)) ++ [(q21, .inl (cs 1, 24, .inr (.inr (.inr (.inr (fun i => some (r21 i)))))))] ++ (List.range 24).map (fun i => (r21 i, zI cs 81)))) := hD
  refine lv_aload_n hx hb dT_init_28 rfl (lv_at hl 0 rfl) ?_
  refine lv_aload_n hx hb dT_init_29 rfl (lv_at hl 1 rfl) ?_
  refine va_putF (D := D) (ci := 3) (v := .ref g) (C := R_T) (T := F_T) (N := 4) hx hb hts in_T ft_T ft_T_ok fn_T hown hk.1 hP hD hS 0 rfl rfl 0 (by decide) (hts _ tw_86) (fun _ h9 => h9) rfl hin rfl (ft_T_ok 0 (by decide)) rfl rfl (Nat.le_of_ble_eq_true rfl) dT_init_30 (fun H locs hP hD hS => ?_)
  have hP : va_P D classes ((o, .inr (3, [.ref g, .null, .ref q9, .ref q21])) :: ([(q9, .inl (cs 1, 6, .inr (.inr (.inr (.inr (fun i => some (r9 i)))))))] ++ (List.range 6).map (fun i => (r9 i, zI cs 81)) ++ [(q21, .inl (cs 1, 24, .inr (.inr (.inr (.inr (fun i => some (r21 i)))))))] ++ (List.range 24).map (fun i => (r21 i, zI cs 81)))) H := hP
  have hD : va_D A ((o, .inr (3, [.ref g, .null, .ref q9, .ref q21])) :: ([(q9, .inl (cs 1, 6, .inr (.inr (.inr (.inr (fun i => some (r9 i)))))))] ++ (List.range 6).map (fun i => (r9 i, zI cs 81)) ++ [(q21, .inl (cs 1, 24, .inr (.inr (.inr (.inr (fun i => some (r21 i)))))))] ++ (List.range 24).map (fun i => (r21 i, zI cs 81)))) := hD
  refine lv_aload_n hx hb dT_init_33 rfl (lv_at hl 0 rfl) ?_
  refine lv_aload_n hx hb dT_init_34 rfl (lv_at hl 2 rfl) ?_
  refine va_putF (D := D) (ci := 3) (v := .ref i) (C := R_T) (T := F_T) (N := 4) hx hb hts in_T ft_T ft_T_ok fn_T hown hk.1 hP hD hS 0 rfl rfl 1 (by decide) (hts _ tw_87) (fun _ h9 => h9) rfl hin rfl (ft_T_ok 1 (by decide)) rfl rfl (Nat.le_of_ble_eq_true rfl) dT_init_35 (fun H locs hP hD hS => ?_)
  have hP : va_P D classes ((o, .inr (3, [.ref g, .ref i, .ref q9, .ref q21])) :: ([(q9, .inl (cs 1, 6, .inr (.inr (.inr (.inr (fun i => some (r9 i)))))))] ++ (List.range 6).map (fun i => (r9 i, zI cs 81)) ++ [(q21, .inl (cs 1, 24, .inr (.inr (.inr (.inr (fun i => some (r21 i)))))))] ++ (List.range 24).map (fun i => (r21 i, zI cs 81)))) H := hP
  have hD : va_D A ((o, .inr (3, [.ref g, .ref i, .ref q9, .ref q21])) :: ([(q9, .inl (cs 1, 6, .inr (.inr (.inr (.inr (fun i => some (r9 i)))))))] ++ (List.range 6).map (fun i => (r9 i, zI cs 81)) ++ [(q21, .inl (cs 1, 24, .inr (.inr (.inr (.inr (fun i => some (r21 i)))))))] ++ (List.range 24).map (fun i => (r21 i, zI cs 81)))) := hD
  exact W.vret hx hb hr (fun t ht hW => ⟨⟨_, rfl, ⟨q9, r9, q21, r21, rfl⟩, by rw [ht]; exact hP, hD⟩, hS.F ht⟩) hS.2.2 dT_init_38
set_option maxRecDepth 8000 in
set_option maxHeartbeats 1000000 in
theorem c_S_init (l : Launch) {a0 : Array Value} {s0 : State} (hx0 : x0 a0 s0) (D : va_G) (cs : Nat → ClassId) (o : Nat) (g : Nat) : MetC l s0 D cs yS_init bS_init 2 1 12 11 231 [.ref o, .ref g] [(o, .inr (2, [.null, .null, .null]))] (fun w => ∃ (a11 : Nat) (r11 : Nat → Nat) (a12 : Nat), w = [(o, .inr (2, [.ref g, .ref a11, .ref a12])), (a11, .inl (cs 1, 9, .inr (.inr (.inr (.inr (fun i => some (r11 i)))))))] ++ (List.range 9).map (fun i => (r11 i, zI cs 24)) ++ [(a12, .inl (cs 0, 6, .inl (fun _ => 0)))]) := by
  refine MetC.start (by decide) (Nat.le_of_ble_eq_true rfl) ?_
  intro p e s m below meth c A ls C hnm hk hX hAs hA hP hD hS hl
  obtain ⟨hx, hb, hml, hown, hts, hr, hlocks⟩ := id C
  have hin : meth.name = "<init>" := hnm
  have hl : lv_has ls 2 [(0, .ref o), (1, .ref g)] := hl
  refine lv_aload_n hx hb dS_init_0 rfl (lv_at hl 0 rfl) ?_
  refine W.objInit hx hb hown (hts _ tw_104) (hts _ tw_23) (hts _ tw_24) rfl (by rw [hml]; exact hl.1) rfl dS_init_1 (Nat.le_of_ble_eq_true rfl) (Nat.le_of_ble_eq_true rfl) ?_
  refine W.eq (g2 := F0 m 4 ls []) rfl ?_
  refine lv_aload_n hx hb dS_init_4 rfl (lv_at hl 0 rfl) ?_
  refine lv_bipush (v := nI 9) hx hb dS_init_5 (by decide) ?_
  refine lv_bipush (v := nI 24) hx hb dS_init_7 (by decide) ?_
  refine n_mna C hk hx0 hX hP hD hS hA (N' := 9) (K' := 24) tw_105 tw_63 (by decide) (by decide) (Nat.le_of_ble_eq_true rfl) (Nat.le_of_ble_eq_true rfl) dS_init_9 (fun q9 r9 H hP hD hS => ?_)
  have hP : va_P D classes ((o, .inr (2, [.null, .null, .null])) :: ([(q9, .inl (cs 1, 9, .inr (.inr (.inr (.inr (fun i => some (r9 i)))))))] ++ (List.range 9).map (fun i => (r9 i, zI cs 24)))) H := hP
  have hD : va_D A ((o, .inr (2, [.null, .null, .null])) :: ([(q9, .inl (cs 1, 9, .inr (.inr (.inr (.inr (fun i => some (r9 i)))))))] ++ (List.range 9).map (fun i => (r9 i, zI cs 24)))) := hD
  refine va_putF (D := D) (ci := 2) (v := .ref q9) (C := R_S) (T := F_S) (N := 3) hx hb hts in_S ft_S ft_S_ok fn_S hown hk.1 hP hD hS 0 rfl rfl 1 (by decide) (hts _ tw_107) (fun _ h9 => h9) rfl hin rfl (ft_S_ok 1 (by decide)) rfl rfl (Nat.le_of_ble_eq_true rfl) dS_init_13 (fun H locs hP hD hS => ?_)
  have hP : va_P D classes ((o, .inr (2, [.null, .ref q9, .null])) :: ([(q9, .inl (cs 1, 9, .inr (.inr (.inr (.inr (fun i => some (r9 i)))))))] ++ (List.range 9).map (fun i => (r9 i, zI cs 24)))) H := hP
  have hD : va_D A ((o, .inr (2, [.null, .ref q9, .null])) :: ([(q9, .inl (cs 1, 9, .inr (.inr (.inr (.inr (fun i => some (r9 i)))))))] ++ (List.range 9).map (fun i => (r9 i, zI cs 24)))) := hD
  refine lv_aload_n hx hb dS_init_16 rfl (lv_at hl 0 rfl) ?_
  refine lv_bipush (v := nI 6) hx hb dS_init_17 (by decide) ?_
  refine n_newa C hk hP hD hS hA (ty := .int) rfl tw_63 0 rfl rfl (a1 := (6, .inl (fun _ => 0))) (fun _ => rfl) (by decide) (by decide) (Nat.le_of_ble_eq_true rfl) (Nat.le_of_ble_eq_true rfl) dS_init_19 (fun q19 H hP hD hS => ?_)
  have hP : va_P D classes ((o, .inr (2, [.null, .ref q9, .null])) :: ([(q9, .inl (cs 1, 9, .inr (.inr (.inr (.inr (fun i => some (r9 i)))))))] ++ (List.range 9).map (fun i => (r9 i, zI cs 24)) ++ [(q19, .inl (cs 0, 6, .inl (fun _ => 0)))])) H := hP
  have hD : va_D A ((o, .inr (2, [.null, .ref q9, .null])) :: ([(q9, .inl (cs 1, 9, .inr (.inr (.inr (.inr (fun i => some (r9 i)))))))] ++ (List.range 9).map (fun i => (r9 i, zI cs 24)) ++ [(q19, .inl (cs 0, 6, .inl (fun _ => 0)))])) := hD
  refine va_putF (D := D) (ci := 2) (v := .ref q19) (C := R_S) (T := F_S) (N := 3) hx hb hts in_S ft_S ft_S_ok fn_S hown hk.1 hP hD hS 0 rfl rfl 2 (by decide) (hts _ tw_108) (fun _ h9 => h9) rfl hin rfl (ft_S_ok 2 (by decide)) rfl rfl (Nat.le_of_ble_eq_true rfl) dS_init_21 (fun H locs hP hD hS => ?_)
  have hP : va_P D classes ((o, .inr (2, [.null, .ref q9, .ref q19])) :: ([(q9, .inl (cs 1, 9, .inr (.inr (.inr (.inr (fun i => some (r9 i)))))))] ++ (List.range 9).map (fun i => (r9 i, zI cs 24)) ++ [(q19, .inl (cs 0, 6, .inl (fun _ => 0)))])) H := hP
  have hD : va_D A ((o, .inr (2, [.null, .ref q9, .ref q19])) :: ([(q9, .inl (cs 1, 9, .inr (.inr (.inr (.inr (fun i => some (r9 i)))))))] ++ (List.range 9).map (fun i => (r9 i, zI cs 24)) ++ [(q19, .inl (cs 0, 6, .inl (fun _ => 0)))])) := hD
  refine lv_aload_n hx hb dS_init_24 rfl (lv_at hl 0 rfl) ?_
  refine lv_aload_n hx hb dS_init_25 rfl (lv_at hl 1 rfl) ?_
  refine va_putF (D := D) (ci := 2) (v := .ref g) (C := R_S) (T := F_S) (N := 3) hx hb hts in_S ft_S ft_S_ok fn_S hown hk.1 hP hD hS 0 rfl rfl 0 (by decide) (hts _ tw_106) (fun _ h9 => h9) rfl hin rfl (ft_S_ok 0 (by decide)) rfl rfl (Nat.le_of_ble_eq_true rfl) dS_init_26 (fun H locs hP hD hS => ?_)
  have hP : va_P D classes ((o, .inr (2, [.ref g, .ref q9, .ref q19])) :: ([(q9, .inl (cs 1, 9, .inr (.inr (.inr (.inr (fun i => some (r9 i)))))))] ++ (List.range 9).map (fun i => (r9 i, zI cs 24)) ++ [(q19, .inl (cs 0, 6, .inl (fun _ => 0)))])) H := hP
  have hD : va_D A ((o, .inr (2, [.ref g, .ref q9, .ref q19])) :: ([(q9, .inl (cs 1, 9, .inr (.inr (.inr (.inr (fun i => some (r9 i)))))))] ++ (List.range 9).map (fun i => (r9 i, zI cs 24)) ++ [(q19, .inl (cs 0, 6, .inl (fun _ => 0)))])) := hD
  exact W.vret hx hb hr (fun t ht hW => ⟨⟨_, rfl, ⟨q9, r9, q19, rfl⟩, by rw [ht]; exact hP, hD⟩, hS.F ht⟩) hS.2.2 dS_init_29
set_option maxRecDepth 8000 in
set_option maxHeartbeats 1000000 in
theorem c_W_init (l : Launch) {a0 : Array Value} {s0 : State} (hx0 : x0 a0 s0) (D : va_G) (cs : Nat → ClassId) (o : Nat) (g t : Nat) : MetC l s0 D cs yW_init bW_init 3 1 12 4 8162 [.ref o, .ref g, .ref t] [(o, .inr (4, [.null, .null, .null, .int 0, .null, .null, .null, .int 0]))] (fun w => ∃ (a15 : Nat) (a16 : Nat) (a17 : Nat) (a18 : Nat), w = [(o, .inr (4, [.ref g, .ref t, .ref a15, .int 0, .ref a16, .ref a17, .ref a18, .int 0])), (a15, .inl (cs 0, 8000, .inl (fun _ => 0))), (a16, .inl (cs 0, 54, .inl (fun _ => 0))), (a17, .inl (cs 0, 54, .inl (fun _ => 0))), (a18, .inl (cs 0, 54, .inl (fun _ => 0)))]) := by
  refine MetC.start (by decide) (Nat.le_of_ble_eq_true rfl) ?_
  intro p e s m below meth c A ls C hnm hk hX hAs hA hP hD hS hl
  obtain ⟨hx, hb, hml, hown, hts, hr, hlocks⟩ := id C
  have hin : meth.name = "<init>" := hnm
  have hl : lv_has ls 3 [(0, .ref o), (1, .ref g), (2, .ref t)] := hl
  refine lv_aload_n hx hb dW_init_0 rfl (lv_at hl 0 rfl) ?_
  refine W.objInit hx hb hown (hts _ tw_121) (hts _ tw_23) (hts _ tw_24) rfl (by rw [hml]; exact hl.1) rfl dW_init_1 (Nat.le_of_ble_eq_true rfl) (Nat.le_of_ble_eq_true rfl) ?_
  refine W.eq (g2 := F0 m 4 ls []) rfl ?_
  refine lv_aload_n hx hb dW_init_4 rfl (lv_at hl 0 rfl) ?_
  refine lv_sipush (v := nI 8000) hx hb dW_init_5 (by decide) ?_
  refine n_newa C hk hP hD hS hA (ty := .int) rfl tw_63 0 rfl rfl (a1 := (8000, .inl (fun _ => 0))) (fun _ => rfl) (by decide) (by decide) (Nat.le_of_ble_eq_true rfl) (Nat.le_of_ble_eq_true rfl) dW_init_8 (fun q8 H hP hD hS => ?_)
  have hP : va_P D classes ((o, .inr (4, [.null, .null, .null, .int 0, .null, .null, .null, .int 0])) :: ([(q8, .inl (cs 0, 8000, .inl (fun _ => 0)))])) H := hP
  have hD : va_D A ((o, .inr (4, [.null, .null, .null, .int 0, .null, .null, .null, .int 0])) :: ([(q8, .inl (cs 0, 8000, .inl (fun _ => 0)))])) := hD
  refine va_putF (D := D) (ci := 4) (v := .ref q8) (C := R_W) (T := F_W) (N := 8) hx hb hts in_W ft_W ft_W_ok fn_W hown hk.1 hP hD hS 0 rfl rfl 2 (by decide) (hts _ tw_124) (fun _ h9 => h9) rfl hin rfl (ft_W_ok 2 (by decide)) rfl rfl (Nat.le_of_ble_eq_true rfl) dW_init_10 (fun H locs hP hD hS => ?_)
  have hP : va_P D classes ((o, .inr (4, [.null, .null, .ref q8, .int 0, .null, .null, .null, .int 0])) :: ([(q8, .inl (cs 0, 8000, .inl (fun _ => 0)))])) H := hP
  have hD : va_D A ((o, .inr (4, [.null, .null, .ref q8, .int 0, .null, .null, .null, .int 0])) :: ([(q8, .inl (cs 0, 8000, .inl (fun _ => 0)))])) := hD
  refine lv_aload_n hx hb dW_init_13 rfl (lv_at hl 0 rfl) ?_
  refine lv_iconst (v := 0) hx hb dW_init_14 (by decide) ?_
  refine va_put (D := D) (ci := 4) (v := .int (0)) (C := R_W) (T := F_W) (N := 8) hx hb hts in_W ft_W ft_W_ok fn_W hown hk.1 hP hD hS 0 rfl rfl 3 (by decide) (hts _ tw_126) (fun _ h9 => h9) rfl (ft_W_ok 3 (by decide)) rfl rfl (Nat.le_of_ble_eq_true rfl) dW_init_15 (fun H locs hP hD hS => ?_)
  have hP : va_P D classes ((o, .inr (4, [.null, .null, .ref q8, .int (0), .null, .null, .null, .int 0])) :: ([(q8, .inl (cs 0, 8000, .inl (fun _ => 0)))])) H := hP
  have hD : va_D A ((o, .inr (4, [.null, .null, .ref q8, .int (0), .null, .null, .null, .int 0])) :: ([(q8, .inl (cs 0, 8000, .inl (fun _ => 0)))])) := hD
  refine lv_aload_n hx hb dW_init_18 rfl (lv_at hl 0 rfl) ?_
  refine lv_bipush (v := nI 54) hx hb dW_init_19 (by decide) ?_
  refine n_newa C hk hP hD hS hA (ty := .int) rfl tw_63 0 rfl rfl (a1 := (54, .inl (fun _ => 0))) (fun _ => rfl) (by decide) (by decide) (Nat.le_of_ble_eq_true rfl) (Nat.le_of_ble_eq_true rfl) dW_init_21 (fun q21 H hP hD hS => ?_)
  have hP : va_P D classes ((o, .inr (4, [.null, .null, .ref q8, .int (0), .null, .null, .null, .int 0])) :: ([(q8, .inl (cs 0, 8000, .inl (fun _ => 0))), (q21, .inl (cs 0, 54, .inl (fun _ => 0)))])) H := hP
  have hD : va_D A ((o, .inr (4, [.null, .null, .ref q8, .int (0), .null, .null, .null, .int 0])) :: ([(q8, .inl (cs 0, 8000, .inl (fun _ => 0))), (q21, .inl (cs 0, 54, .inl (fun _ => 0)))])) := hD
  refine va_putF (D := D) (ci := 4) (v := .ref q21) (C := R_W) (T := F_W) (N := 8) hx hb hts in_W ft_W ft_W_ok fn_W hown hk.1 hP hD hS 0 rfl rfl 4 (by decide) (hts _ tw_128) (fun _ h9 => h9) rfl hin rfl (ft_W_ok 4 (by decide)) rfl rfl (Nat.le_of_ble_eq_true rfl) dW_init_23 (fun H locs hP hD hS => ?_)
  have hP : va_P D classes ((o, .inr (4, [.null, .null, .ref q8, .int (0), .ref q21, .null, .null, .int 0])) :: ([(q8, .inl (cs 0, 8000, .inl (fun _ => 0))), (q21, .inl (cs 0, 54, .inl (fun _ => 0)))])) H := hP
  have hD : va_D A ((o, .inr (4, [.null, .null, .ref q8, .int (0), .ref q21, .null, .null, .int 0])) :: ([(q8, .inl (cs 0, 8000, .inl (fun _ => 0))), (q21, .inl (cs 0, 54, .inl (fun _ => 0)))])) := hD
  refine lv_aload_n hx hb dW_init_26 rfl (lv_at hl 0 rfl) ?_
  refine lv_bipush (v := nI 54) hx hb dW_init_27 (by decide) ?_
  refine n_newa C hk hP hD hS hA (ty := .int) rfl tw_63 0 rfl rfl (a1 := (54, .inl (fun _ => 0))) (fun _ => rfl) (by decide) (by decide) (Nat.le_of_ble_eq_true rfl) (Nat.le_of_ble_eq_true rfl) dW_init_29 (fun q29 H hP hD hS => ?_)
  have hP : va_P D classes ((o, .inr (4, [.null, .null, .ref q8, .int (0), .ref q21, .null, .null, .int 0])) :: ([(q8, .inl (cs 0, 8000, .inl (fun _ => 0))), (q21, .inl (cs 0, 54, .inl (fun _ => 0))), (q29, .inl (cs 0, 54, .inl (fun _ => 0)))])) H := hP
  have hD : va_D A ((o, .inr (4, [.null, .null, .ref q8, .int (0), .ref q21, .null, .null, .int 0])) :: ([(q8, .inl (cs 0, 8000, .inl (fun _ => 0))), (q21, .inl (cs 0, 54, .inl (fun _ => 0))), (q29, .inl (cs 0, 54, .inl (fun _ => 0)))])) := hD
  refine va_putF (D := D) (ci := 4) (v := .ref q29) (C := R_W) (T := F_W) (N := 8) hx hb hts in_W ft_W ft_W_ok fn_W hown hk.1 hP hD hS 0 rfl rfl 5 (by decide) (hts _ tw_129) (fun _ h9 => h9) rfl hin rfl (ft_W_ok 5 (by decide)) rfl rfl (Nat.le_of_ble_eq_true rfl) dW_init_31 (fun H locs hP hD hS => ?_)
  have hP : va_P D classes ((o, .inr (4, [.null, .null, .ref q8, .int (0), .ref q21, .ref q29, .null, .int 0])) :: ([(q8, .inl (cs 0, 8000, .inl (fun _ => 0))), (q21, .inl (cs 0, 54, .inl (fun _ => 0))), (q29, .inl (cs 0, 54, .inl (fun _ => 0)))])) H := hP
  have hD : va_D A ((o, .inr (4, [.null, .null, .ref q8, .int (0), .ref q21, .ref q29, .null, .int 0])) :: ([(q8, .inl (cs 0, 8000, .inl (fun _ => 0))), (q21, .inl (cs 0, 54, .inl (fun _ => 0))), (q29, .inl (cs 0, 54, .inl (fun _ => 0)))])) := hD
  refine lv_aload_n hx hb dW_init_34 rfl (lv_at hl 0 rfl) ?_
  refine lv_bipush (v := nI 54) hx hb dW_init_35 (by decide) ?_
  refine n_newa C hk hP hD hS hA (ty := .int) rfl tw_63 0 rfl rfl (a1 := (54, .inl (fun _ => 0))) (fun _ => rfl) (by decide) (by decide) (Nat.le_of_ble_eq_true rfl) (Nat.le_of_ble_eq_true rfl) dW_init_37 (fun q37 H hP hD hS => ?_)
  have hP : va_P D classes ((o, .inr (4, [.null, .null, .ref q8, .int (0), .ref q21, .ref q29, .null, .int 0])) :: ([(q8, .inl (cs 0, 8000, .inl (fun _ => 0))), (q21, .inl (cs 0, 54, .inl (fun _ => 0))), (q29, .inl (cs 0, 54, .inl (fun _ => 0))), (q37, .inl (cs 0, 54, .inl (fun _ => 0)))])) H := hP
  have hD : va_D A ((o, .inr (4, [.null, .null, .ref q8, .int (0), .ref q21, .ref q29, .null, .int 0])) :: ([(q8, .inl (cs 0, 8000, .inl (fun _ => 0))), (q21, .inl (cs 0, 54, .inl (fun _ => 0))), (q29, .inl (cs 0, 54, .inl (fun _ => 0))), (q37, .inl (cs 0, 54, .inl (fun _ => 0)))])) := hD
  refine va_putF (D := D) (ci := 4) (v := .ref q37) (C := R_W) (T := F_W) (N := 8) hx hb hts in_W ft_W ft_W_ok fn_W hown hk.1 hP hD hS 0 rfl rfl 6 (by decide) (hts _ tw_130) (fun _ h9 => h9) rfl hin rfl (ft_W_ok 6 (by decide)) rfl rfl (Nat.le_of_ble_eq_true rfl) dW_init_39 (fun H locs hP hD hS => ?_)
  have hP : va_P D classes ((o, .inr (4, [.null, .null, .ref q8, .int (0), .ref q21, .ref q29, .ref q37, .int 0])) :: ([(q8, .inl (cs 0, 8000, .inl (fun _ => 0))), (q21, .inl (cs 0, 54, .inl (fun _ => 0))), (q29, .inl (cs 0, 54, .inl (fun _ => 0))), (q37, .inl (cs 0, 54, .inl (fun _ => 0)))])) H := hP
  have hD : va_D A ((o, .inr (4, [.null, .null, .ref q8, .int (0), .ref q21, .ref q29, .ref q37, .int 0])) :: ([(q8, .inl (cs 0, 8000, .inl (fun _ => 0))), (q21, .inl (cs 0, 54, .inl (fun _ => 0))), (q29, .inl (cs 0, 54, .inl (fun _ => 0))), (q37, .inl (cs 0, 54, .inl (fun _ => 0)))])) := hD
  refine lv_aload_n hx hb dW_init_42 rfl (lv_at hl 0 rfl) ?_
  refine lv_iconst (v := 0) hx hb dW_init_43 (by decide) ?_
  refine va_put (D := D) (ci := 4) (v := .int (0)) (C := R_W) (T := F_W) (N := 8) hx hb hts in_W ft_W ft_W_ok fn_W hown hk.1 hP hD hS 0 rfl rfl 7 (by decide) (hts _ tw_131) (fun _ h9 => h9) rfl (ft_W_ok 7 (by decide)) rfl rfl (Nat.le_of_ble_eq_true rfl) dW_init_44 (fun H locs hP hD hS => ?_)
  have hP : va_P D classes ((o, .inr (4, [.null, .null, .ref q8, .int (0), .ref q21, .ref q29, .ref q37, .int (0)])) :: ([(q8, .inl (cs 0, 8000, .inl (fun _ => 0))), (q21, .inl (cs 0, 54, .inl (fun _ => 0))), (q29, .inl (cs 0, 54, .inl (fun _ => 0))), (q37, .inl (cs 0, 54, .inl (fun _ => 0)))])) H := hP
  have hD : va_D A ((o, .inr (4, [.null, .null, .ref q8, .int (0), .ref q21, .ref q29, .ref q37, .int (0)])) :: ([(q8, .inl (cs 0, 8000, .inl (fun _ => 0))), (q21, .inl (cs 0, 54, .inl (fun _ => 0))), (q29, .inl (cs 0, 54, .inl (fun _ => 0))), (q37, .inl (cs 0, 54, .inl (fun _ => 0)))])) := hD
  refine lv_aload_n hx hb dW_init_47 rfl (lv_at hl 0 rfl) ?_
  refine lv_aload_n hx hb dW_init_48 rfl (lv_at hl 1 rfl) ?_
  refine va_putF (D := D) (ci := 4) (v := .ref g) (C := R_W) (T := F_W) (N := 8) hx hb hts in_W ft_W ft_W_ok fn_W hown hk.1 hP hD hS 0 rfl rfl 0 (by decide) (hts _ tw_122) (fun _ h9 => h9) rfl hin rfl (ft_W_ok 0 (by decide)) rfl rfl (Nat.le_of_ble_eq_true rfl) dW_init_49 (fun H locs hP hD hS => ?_)
  have hP : va_P D classes ((o, .inr (4, [.ref g, .null, .ref q8, .int (0), .ref q21, .ref q29, .ref q37, .int (0)])) :: ([(q8, .inl (cs 0, 8000, .inl (fun _ => 0))), (q21, .inl (cs 0, 54, .inl (fun _ => 0))), (q29, .inl (cs 0, 54, .inl (fun _ => 0))), (q37, .inl (cs 0, 54, .inl (fun _ => 0)))])) H := hP
  have hD : va_D A ((o, .inr (4, [.ref g, .null, .ref q8, .int (0), .ref q21, .ref q29, .ref q37, .int (0)])) :: ([(q8, .inl (cs 0, 8000, .inl (fun _ => 0))), (q21, .inl (cs 0, 54, .inl (fun _ => 0))), (q29, .inl (cs 0, 54, .inl (fun _ => 0))), (q37, .inl (cs 0, 54, .inl (fun _ => 0)))])) := hD
  refine lv_aload_n hx hb dW_init_52 rfl (lv_at hl 0 rfl) ?_
  refine lv_aload_n hx hb dW_init_53 rfl (lv_at hl 2 rfl) ?_
  refine va_putF (D := D) (ci := 4) (v := .ref t) (C := R_W) (T := F_W) (N := 8) hx hb hts in_W ft_W ft_W_ok fn_W hown hk.1 hP hD hS 0 rfl rfl 1 (by decide) (hts _ tw_123) (fun _ h9 => h9) rfl hin rfl (ft_W_ok 1 (by decide)) rfl rfl (Nat.le_of_ble_eq_true rfl) dW_init_54 (fun H locs hP hD hS => ?_)
  have hP : va_P D classes ((o, .inr (4, [.ref g, .ref t, .ref q8, .int (0), .ref q21, .ref q29, .ref q37, .int (0)])) :: ([(q8, .inl (cs 0, 8000, .inl (fun _ => 0))), (q21, .inl (cs 0, 54, .inl (fun _ => 0))), (q29, .inl (cs 0, 54, .inl (fun _ => 0))), (q37, .inl (cs 0, 54, .inl (fun _ => 0)))])) H := hP
  have hD : va_D A ((o, .inr (4, [.ref g, .ref t, .ref q8, .int (0), .ref q21, .ref q29, .ref q37, .int (0)])) :: ([(q8, .inl (cs 0, 8000, .inl (fun _ => 0))), (q21, .inl (cs 0, 54, .inl (fun _ => 0))), (q29, .inl (cs 0, 54, .inl (fun _ => 0))), (q37, .inl (cs 0, 54, .inl (fun _ => 0)))])) := hD
  exact W.vret hx hb hr (fun t ht hW => ⟨⟨_, rfl, ⟨q8, q21, q29, q37, rfl⟩, by rw [ht]; exact hP, hD⟩, hS.F ht⟩) hS.2.2 dW_init_57
set_option maxRecDepth 8000 in
set_option maxHeartbeats 1000000 in
theorem c_M_init (l : Launch) {a0 : Array Value} {s0 : State} (hx0 : x0 a0 s0) (D : va_G) (cs : Nat → ClassId) (o : Nat) (x z : Int32) : MetC l s0 D cs yM_init bM_init 3 1 12 9 12828 [.ref o, .int x, .int z] [(o, .inr (6, [.int 0, .int 0, .int 0, .int 0, .null, .null, .null, .int 0, .null, .null, .int 0, .null, .int 0, .null, .int 0, .null, .null]))] (fun w => ∃ ad : Nat → Nat, ad 0 = o ∧ w = wo (wM D cs ad) (iniM (vO x) (vO z))) := by
  refine MetC.start (by decide) (Nat.le_of_ble_eq_true rfl) ?_
  intro p e s m below meth c A ls C hnm hk hX hAs hA hP hD hS hl
  obtain ⟨hx, hb, hml, hown, hts, hr, hlocks⟩ := id C
  have hin : meth.name = "<init>" := hnm
  have hl : lv_has ls 3 [(0, .ref o), (1, .int x), (2, .int z)] := hl
  refine lv_aload_n hx hb dM_init_0 rfl (lv_at hl 0 rfl) ?_
  refine W.objInit hx hb hown (hts _ tw_580) (hts _ tw_23) (hts _ tw_24) rfl (by rw [hml]; exact hl.1) rfl dM_init_1 (Nat.le_of_ble_eq_true rfl) (Nat.le_of_ble_eq_true rfl) ?_
  refine W.eq (g2 := F0 m 4 ls []) rfl ?_
  refine lv_aload_n hx hb dM_init_4 rfl (lv_at hl 0 rfl) ?_
  refine lv_bipush (v := nI 8) hx hb dM_init_5 (by decide) ?_
  refine n_newa C hk hP hD hS hA (ty := .int) rfl tw_63 0 rfl rfl (a1 := (8, .inl (fun _ => 0))) (fun _ => rfl) (by decide) (by decide) (Nat.le_of_ble_eq_true rfl) (Nat.le_of_ble_eq_true rfl) dM_init_7 (fun q7 H hP hD hS => ?_)
  have hP : va_P D classes ((o, .inr (6, [.int 0, .int 0, .int 0, .int 0, .null, .null, .null, .int 0, .null, .null, .int 0, .null, .int 0, .null, .int 0, .null, .null])) :: ([(q7, .inl (cs 0, 8, .inl (fun _ => 0)))])) H := hP
  have hD : va_D A ((o, .inr (6, [.int 0, .int 0, .int 0, .int 0, .null, .null, .null, .int 0, .null, .null, .int 0, .null, .int 0, .null, .int 0, .null, .null])) :: ([(q7, .inl (cs 0, 8, .inl (fun _ => 0)))])) := hD
  refine va_putF (D := D) (ci := 6) (v := .ref q7) (C := R_M) (T := F_M) (N := 17) hx hb hts in_M ft_M ft_M_ok fn_M hown hk.1 hP hD hS 0 rfl rfl 4 (by decide) (hts _ tw_585) (fun _ h9 => h9) rfl hin rfl (ft_M_ok 4 (by decide)) rfl rfl (Nat.le_of_ble_eq_true rfl) dM_init_9 (fun H locs hP hD hS => ?_)
  have hP : va_P D classes ((o, .inr (6, [.int 0, .int 0, .int 0, .int 0, .ref q7, .null, .null, .int 0, .null, .null, .int 0, .null, .int 0, .null, .int 0, .null, .null])) :: ([(q7, .inl (cs 0, 8, .inl (fun _ => 0)))])) H := hP
  have hD : va_D A ((o, .inr (6, [.int 0, .int 0, .int 0, .int 0, .ref q7, .null, .null, .int 0, .null, .null, .int 0, .null, .int 0, .null, .int 0, .null, .null])) :: ([(q7, .inl (cs 0, 8, .inl (fun _ => 0)))])) := hD
  refine lv_aload_n hx hb dM_init_12 rfl (lv_at hl 0 rfl) ?_
  refine lv_bipush (v := nI 8) hx hb dM_init_13 (by decide) ?_
  refine n_newa C hk hP hD hS hA (ty := .int) rfl tw_63 0 rfl rfl (a1 := (8, .inl (fun _ => 0))) (fun _ => rfl) (by decide) (by decide) (Nat.le_of_ble_eq_true rfl) (Nat.le_of_ble_eq_true rfl) dM_init_15 (fun q15 H hP hD hS => ?_)
  have hP : va_P D classes ((o, .inr (6, [.int 0, .int 0, .int 0, .int 0, .ref q7, .null, .null, .int 0, .null, .null, .int 0, .null, .int 0, .null, .int 0, .null, .null])) :: ([(q7, .inl (cs 0, 8, .inl (fun _ => 0))), (q15, .inl (cs 0, 8, .inl (fun _ => 0)))])) H := hP
  have hD : va_D A ((o, .inr (6, [.int 0, .int 0, .int 0, .int 0, .ref q7, .null, .null, .int 0, .null, .null, .int 0, .null, .int 0, .null, .int 0, .null, .null])) :: ([(q7, .inl (cs 0, 8, .inl (fun _ => 0))), (q15, .inl (cs 0, 8, .inl (fun _ => 0)))])) := hD
  refine va_putF (D := D) (ci := 6) (v := .ref q15) (C := R_M) (T := F_M) (N := 17) hx hb hts in_M ft_M ft_M_ok fn_M hown hk.1 hP hD hS 0 rfl rfl 5 (by decide) (hts _ tw_586) (fun _ h9 => h9) rfl hin rfl (ft_M_ok 5 (by decide)) rfl rfl (Nat.le_of_ble_eq_true rfl) dM_init_17 (fun H locs hP hD hS => ?_)
  have hP : va_P D classes ((o, .inr (6, [.int 0, .int 0, .int 0, .int 0, .ref q7, .ref q15, .null, .int 0, .null, .null, .int 0, .null, .int 0, .null, .int 0, .null, .null])) :: ([(q7, .inl (cs 0, 8, .inl (fun _ => 0))), (q15, .inl (cs 0, 8, .inl (fun _ => 0)))])) H := hP
  have hD : va_D A ((o, .inr (6, [.int 0, .int 0, .int 0, .int 0, .ref q7, .ref q15, .null, .int 0, .null, .null, .int 0, .null, .int 0, .null, .int 0, .null, .null])) :: ([(q7, .inl (cs 0, 8, .inl (fun _ => 0))), (q15, .inl (cs 0, 8, .inl (fun _ => 0)))])) := hD
  refine lv_aload_n hx hb dM_init_20 rfl (lv_at hl 0 rfl) ?_
  refine lv_bipush (v := nI 32) hx hb dM_init_21 (by decide) ?_
  refine n_newa C hk hP hD hS hA (ty := .int) rfl tw_63 0 rfl rfl (a1 := (32, .inl (fun _ => 0))) (fun _ => rfl) (by decide) (by decide) (Nat.le_of_ble_eq_true rfl) (Nat.le_of_ble_eq_true rfl) dM_init_23 (fun q23 H hP hD hS => ?_)
  have hP : va_P D classes ((o, .inr (6, [.int 0, .int 0, .int 0, .int 0, .ref q7, .ref q15, .null, .int 0, .null, .null, .int 0, .null, .int 0, .null, .int 0, .null, .null])) :: ([(q7, .inl (cs 0, 8, .inl (fun _ => 0))), (q15, .inl (cs 0, 8, .inl (fun _ => 0))), (q23, .inl (cs 0, 32, .inl (fun _ => 0)))])) H := hP
  have hD : va_D A ((o, .inr (6, [.int 0, .int 0, .int 0, .int 0, .ref q7, .ref q15, .null, .int 0, .null, .null, .int 0, .null, .int 0, .null, .int 0, .null, .null])) :: ([(q7, .inl (cs 0, 8, .inl (fun _ => 0))), (q15, .inl (cs 0, 8, .inl (fun _ => 0))), (q23, .inl (cs 0, 32, .inl (fun _ => 0)))])) := hD
  refine va_putF (D := D) (ci := 6) (v := .ref q23) (C := R_M) (T := F_M) (N := 17) hx hb hts in_M ft_M ft_M_ok fn_M hown hk.1 hP hD hS 0 rfl rfl 6 (by decide) (hts _ tw_587) (fun _ h9 => h9) rfl hin rfl (ft_M_ok 6 (by decide)) rfl rfl (Nat.le_of_ble_eq_true rfl) dM_init_25 (fun H locs hP hD hS => ?_)
  have hP : va_P D classes ((o, .inr (6, [.int 0, .int 0, .int 0, .int 0, .ref q7, .ref q15, .ref q23, .int 0, .null, .null, .int 0, .null, .int 0, .null, .int 0, .null, .null])) :: ([(q7, .inl (cs 0, 8, .inl (fun _ => 0))), (q15, .inl (cs 0, 8, .inl (fun _ => 0))), (q23, .inl (cs 0, 32, .inl (fun _ => 0)))])) H := hP
  have hD : va_D A ((o, .inr (6, [.int 0, .int 0, .int 0, .int 0, .ref q7, .ref q15, .ref q23, .int 0, .null, .null, .int 0, .null, .int 0, .null, .int 0, .null, .null])) :: ([(q7, .inl (cs 0, 8, .inl (fun _ => 0))), (q15, .inl (cs 0, 8, .inl (fun _ => 0))), (q23, .inl (cs 0, 32, .inl (fun _ => 0)))])) := hD
  refine lv_aload_n hx hb dM_init_28 rfl (lv_at hl 0 rfl) ?_
  refine lv_bipush (v := nI 9) hx hb dM_init_29 (by decide) ?_
  refine n_newa C hk hP hD hS hA (ty := .int) rfl tw_63 0 rfl rfl (a1 := (9, .inl (fun _ => 0))) (fun _ => rfl) (by decide) (by decide) (Nat.le_of_ble_eq_true rfl) (Nat.le_of_ble_eq_true rfl) dM_init_31 (fun q31 H hP hD hS => ?_)
  have hP : va_P D classes ((o, .inr (6, [.int 0, .int 0, .int 0, .int 0, .ref q7, .ref q15, .ref q23, .int 0, .null, .null, .int 0, .null, .int 0, .null, .int 0, .null, .null])) :: ([(q7, .inl (cs 0, 8, .inl (fun _ => 0))), (q15, .inl (cs 0, 8, .inl (fun _ => 0))), (q23, .inl (cs 0, 32, .inl (fun _ => 0))), (q31, .inl (cs 0, 9, .inl (fun _ => 0)))])) H := hP
  have hD : va_D A ((o, .inr (6, [.int 0, .int 0, .int 0, .int 0, .ref q7, .ref q15, .ref q23, .int 0, .null, .null, .int 0, .null, .int 0, .null, .int 0, .null, .null])) :: ([(q7, .inl (cs 0, 8, .inl (fun _ => 0))), (q15, .inl (cs 0, 8, .inl (fun _ => 0))), (q23, .inl (cs 0, 32, .inl (fun _ => 0))), (q31, .inl (cs 0, 9, .inl (fun _ => 0)))])) := hD
  refine va_putF (D := D) (ci := 6) (v := .ref q31) (C := R_M) (T := F_M) (N := 17) hx hb hts in_M ft_M ft_M_ok fn_M hown hk.1 hP hD hS 0 rfl rfl 8 (by decide) (hts _ tw_589) (fun _ h9 => h9) rfl hin rfl (ft_M_ok 8 (by decide)) rfl rfl (Nat.le_of_ble_eq_true rfl) dM_init_33 (fun H locs hP hD hS => ?_)
  have hP : va_P D classes ((o, .inr (6, [.int 0, .int 0, .int 0, .int 0, .ref q7, .ref q15, .ref q23, .int 0, .ref q31, .null, .int 0, .null, .int 0, .null, .int 0, .null, .null])) :: ([(q7, .inl (cs 0, 8, .inl (fun _ => 0))), (q15, .inl (cs 0, 8, .inl (fun _ => 0))), (q23, .inl (cs 0, 32, .inl (fun _ => 0))), (q31, .inl (cs 0, 9, .inl (fun _ => 0)))])) H := hP
  have hD : va_D A ((o, .inr (6, [.int 0, .int 0, .int 0, .int 0, .ref q7, .ref q15, .ref q23, .int 0, .ref q31, .null, .int 0, .null, .int 0, .null, .int 0, .null, .null])) :: ([(q7, .inl (cs 0, 8, .inl (fun _ => 0))), (q15, .inl (cs 0, 8, .inl (fun _ => 0))), (q23, .inl (cs 0, 32, .inl (fun _ => 0))), (q31, .inl (cs 0, 9, .inl (fun _ => 0)))])) := hD
  refine lv_aload_n hx hb dM_init_36 rfl (lv_at hl 0 rfl) ?_
  refine lv_sipush (v := nI 3240) hx hb dM_init_37 (by decide) ?_
  refine n_newa C hk hP hD hS hA (ty := .boolean) rfl tw_633 2 rfl rfl (a1 := (3240, .inl (fun _ => 0))) (fun _ => rfl) (by decide) (by decide) (Nat.le_of_ble_eq_true rfl) (Nat.le_of_ble_eq_true rfl) dM_init_40 (fun q40 H hP hD hS => ?_)
  have hP : va_P D classes ((o, .inr (6, [.int 0, .int 0, .int 0, .int 0, .ref q7, .ref q15, .ref q23, .int 0, .ref q31, .null, .int 0, .null, .int 0, .null, .int 0, .null, .null])) :: ([(q7, .inl (cs 0, 8, .inl (fun _ => 0))), (q15, .inl (cs 0, 8, .inl (fun _ => 0))), (q23, .inl (cs 0, 32, .inl (fun _ => 0))), (q31, .inl (cs 0, 9, .inl (fun _ => 0))), (q40, .inl (cs 2, 3240, .inl (fun _ => 0)))])) H := hP
  have hD : va_D A ((o, .inr (6, [.int 0, .int 0, .int 0, .int 0, .ref q7, .ref q15, .ref q23, .int 0, .ref q31, .null, .int 0, .null, .int 0, .null, .int 0, .null, .null])) :: ([(q7, .inl (cs 0, 8, .inl (fun _ => 0))), (q15, .inl (cs 0, 8, .inl (fun _ => 0))), (q23, .inl (cs 0, 32, .inl (fun _ => 0))), (q31, .inl (cs 0, 9, .inl (fun _ => 0))), (q40, .inl (cs 2, 3240, .inl (fun _ => 0)))])) := hD
  refine va_putF (D := D) (ci := 6) (v := .ref q40) (C := R_M) (T := F_M) (N := 17) hx hb hts in_M ft_M ft_M_ok fn_M hown hk.1 hP hD hS 0 rfl rfl 9 (by decide) (hts _ tw_590) (fun _ h9 => h9) rfl hin rfl (ft_M_ok 9 (by decide)) rfl rfl (Nat.le_of_ble_eq_true rfl) dM_init_42 (fun H locs hP hD hS => ?_)
  have hP : va_P D classes ((o, .inr (6, [.int 0, .int 0, .int 0, .int 0, .ref q7, .ref q15, .ref q23, .int 0, .ref q31, .ref q40, .int 0, .null, .int 0, .null, .int 0, .null, .null])) :: ([(q7, .inl (cs 0, 8, .inl (fun _ => 0))), (q15, .inl (cs 0, 8, .inl (fun _ => 0))), (q23, .inl (cs 0, 32, .inl (fun _ => 0))), (q31, .inl (cs 0, 9, .inl (fun _ => 0))), (q40, .inl (cs 2, 3240, .inl (fun _ => 0)))])) H := hP
  have hD : va_D A ((o, .inr (6, [.int 0, .int 0, .int 0, .int 0, .ref q7, .ref q15, .ref q23, .int 0, .ref q31, .ref q40, .int 0, .null, .int 0, .null, .int 0, .null, .null])) :: ([(q7, .inl (cs 0, 8, .inl (fun _ => 0))), (q15, .inl (cs 0, 8, .inl (fun _ => 0))), (q23, .inl (cs 0, 32, .inl (fun _ => 0))), (q31, .inl (cs 0, 9, .inl (fun _ => 0))), (q40, .inl (cs 2, 3240, .inl (fun _ => 0)))])) := hD
  refine lv_aload_n hx hb dM_init_45 rfl (lv_at hl 0 rfl) ?_
  refine lv_sipush (v := nI 486) hx hb dM_init_46 (by decide) ?_
  refine n_newa C hk hP hD hS hA (ty := .int) rfl tw_63 0 rfl rfl (a1 := (486, .inl (fun _ => 0))) (fun _ => rfl) (by decide) (by decide) (Nat.le_of_ble_eq_true rfl) (Nat.le_of_ble_eq_true rfl) dM_init_49 (fun q49 H hP hD hS => ?_)
  have hP : va_P D classes ((o, .inr (6, [.int 0, .int 0, .int 0, .int 0, .ref q7, .ref q15, .ref q23, .int 0, .ref q31, .ref q40, .int 0, .null, .int 0, .null, .int 0, .null, .null])) :: ([(q7, .inl (cs 0, 8, .inl (fun _ => 0))), (q15, .inl (cs 0, 8, .inl (fun _ => 0))), (q23, .inl (cs 0, 32, .inl (fun _ => 0))), (q31, .inl (cs 0, 9, .inl (fun _ => 0))), (q40, .inl (cs 2, 3240, .inl (fun _ => 0))), (q49, .inl (cs 0, 486, .inl (fun _ => 0)))])) H := hP
  have hD : va_D A ((o, .inr (6, [.int 0, .int 0, .int 0, .int 0, .ref q7, .ref q15, .ref q23, .int 0, .ref q31, .ref q40, .int 0, .null, .int 0, .null, .int 0, .null, .null])) :: ([(q7, .inl (cs 0, 8, .inl (fun _ => 0))), (q15, .inl (cs 0, 8, .inl (fun _ => 0))), (q23, .inl (cs 0, 32, .inl (fun _ => 0))), (q31, .inl (cs 0, 9, .inl (fun _ => 0))), (q40, .inl (cs 2, 3240, .inl (fun _ => 0))), (q49, .inl (cs 0, 486, .inl (fun _ => 0)))])) := hD
  refine va_putF (D := D) (ci := 6) (v := .ref q49) (C := R_M) (T := F_M) (N := 17) hx hb hts in_M ft_M ft_M_ok fn_M hown hk.1 hP hD hS 0 rfl rfl 11 (by decide) (hts _ tw_592) (fun _ h9 => h9) rfl hin rfl (ft_M_ok 11 (by decide)) rfl rfl (Nat.le_of_ble_eq_true rfl) dM_init_51 (fun H locs hP hD hS => ?_)
  have hP : va_P D classes ((o, .inr (6, [.int 0, .int 0, .int 0, .int 0, .ref q7, .ref q15, .ref q23, .int 0, .ref q31, .ref q40, .int 0, .ref q49, .int 0, .null, .int 0, .null, .null])) :: ([(q7, .inl (cs 0, 8, .inl (fun _ => 0))), (q15, .inl (cs 0, 8, .inl (fun _ => 0))), (q23, .inl (cs 0, 32, .inl (fun _ => 0))), (q31, .inl (cs 0, 9, .inl (fun _ => 0))), (q40, .inl (cs 2, 3240, .inl (fun _ => 0))), (q49, .inl (cs 0, 486, .inl (fun _ => 0)))])) H := hP
  have hD : va_D A ((o, .inr (6, [.int 0, .int 0, .int 0, .int 0, .ref q7, .ref q15, .ref q23, .int 0, .ref q31, .ref q40, .int 0, .ref q49, .int 0, .null, .int 0, .null, .null])) :: ([(q7, .inl (cs 0, 8, .inl (fun _ => 0))), (q15, .inl (cs 0, 8, .inl (fun _ => 0))), (q23, .inl (cs 0, 32, .inl (fun _ => 0))), (q31, .inl (cs 0, 9, .inl (fun _ => 0))), (q40, .inl (cs 2, 3240, .inl (fun _ => 0))), (q49, .inl (cs 0, 486, .inl (fun _ => 0)))])) := hD
  refine lv_aload_n hx hb dM_init_54 rfl (lv_at hl 0 rfl) ?_
  refine lv_bipush (v := nI 45) hx hb dM_init_55 (by decide) ?_
  refine n_newa C hk hP hD hS hA (ty := .int) rfl tw_63 0 rfl rfl (a1 := (45, .inl (fun _ => 0))) (fun _ => rfl) (by decide) (by decide) (Nat.le_of_ble_eq_true rfl) (Nat.le_of_ble_eq_true rfl) dM_init_57 (fun q57 H hP hD hS => ?_)
  have hP : va_P D classes ((o, .inr (6, [.int 0, .int 0, .int 0, .int 0, .ref q7, .ref q15, .ref q23, .int 0, .ref q31, .ref q40, .int 0, .ref q49, .int 0, .null, .int 0, .null, .null])) :: ([(q7, .inl (cs 0, 8, .inl (fun _ => 0))), (q15, .inl (cs 0, 8, .inl (fun _ => 0))), (q23, .inl (cs 0, 32, .inl (fun _ => 0))), (q31, .inl (cs 0, 9, .inl (fun _ => 0))), (q40, .inl (cs 2, 3240, .inl (fun _ => 0))), (q49, .inl (cs 0, 486, .inl (fun _ => 0))), (q57, .inl (cs 0, 45, .inl (fun _ => 0)))])) H := hP
  have hD : va_D A ((o, .inr (6, [.int 0, .int 0, .int 0, .int 0, .ref q7, .ref q15, .ref q23, .int 0, .ref q31, .ref q40, .int 0, .ref q49, .int 0, .null, .int 0, .null, .null])) :: ([(q7, .inl (cs 0, 8, .inl (fun _ => 0))), (q15, .inl (cs 0, 8, .inl (fun _ => 0))), (q23, .inl (cs 0, 32, .inl (fun _ => 0))), (q31, .inl (cs 0, 9, .inl (fun _ => 0))), (q40, .inl (cs 2, 3240, .inl (fun _ => 0))), (q49, .inl (cs 0, 486, .inl (fun _ => 0))), (q57, .inl (cs 0, 45, .inl (fun _ => 0)))])) := hD
  refine va_putF (D := D) (ci := 6) (v := .ref q57) (C := R_M) (T := F_M) (N := 17) hx hb hts in_M ft_M ft_M_ok fn_M hown hk.1 hP hD hS 0 rfl rfl 13 (by decide) (hts _ tw_594) (fun _ h9 => h9) rfl hin rfl (ft_M_ok 13 (by decide)) rfl rfl (Nat.le_of_ble_eq_true rfl) dM_init_59 (fun H locs hP hD hS => ?_)
  have hP : va_P D classes ((o, .inr (6, [.int 0, .int 0, .int 0, .int 0, .ref q7, .ref q15, .ref q23, .int 0, .ref q31, .ref q40, .int 0, .ref q49, .int 0, .ref q57, .int 0, .null, .null])) :: ([(q7, .inl (cs 0, 8, .inl (fun _ => 0))), (q15, .inl (cs 0, 8, .inl (fun _ => 0))), (q23, .inl (cs 0, 32, .inl (fun _ => 0))), (q31, .inl (cs 0, 9, .inl (fun _ => 0))), (q40, .inl (cs 2, 3240, .inl (fun _ => 0))), (q49, .inl (cs 0, 486, .inl (fun _ => 0))), (q57, .inl (cs 0, 45, .inl (fun _ => 0)))])) H := hP
  have hD : va_D A ((o, .inr (6, [.int 0, .int 0, .int 0, .int 0, .ref q7, .ref q15, .ref q23, .int 0, .ref q31, .ref q40, .int 0, .ref q49, .int 0, .ref q57, .int 0, .null, .null])) :: ([(q7, .inl (cs 0, 8, .inl (fun _ => 0))), (q15, .inl (cs 0, 8, .inl (fun _ => 0))), (q23, .inl (cs 0, 32, .inl (fun _ => 0))), (q31, .inl (cs 0, 9, .inl (fun _ => 0))), (q40, .inl (cs 2, 3240, .inl (fun _ => 0))), (q49, .inl (cs 0, 486, .inl (fun _ => 0))), (q57, .inl (cs 0, 45, .inl (fun _ => 0)))])) := hD
  refine lv_aload_n hx hb dM_init_62 rfl (lv_at hl 0 rfl) ?_
  refine lv_sipush (v := nI 8000) hx hb dM_init_63 (by decide) ?_
  refine n_newa C hk hP hD hS hA (ty := .int) rfl tw_63 0 rfl rfl (a1 := (8000, .inl (fun _ => 0))) (fun _ => rfl) (by decide) (by decide) (Nat.le_of_ble_eq_true rfl) (Nat.le_of_ble_eq_true rfl) dM_init_66 (fun q66 H hP hD hS => ?_)
  have hP : va_P D classes ((o, .inr (6, [.int 0, .int 0, .int 0, .int 0, .ref q7, .ref q15, .ref q23, .int 0, .ref q31, .ref q40, .int 0, .ref q49, .int 0, .ref q57, .int 0, .null, .null])) :: ([(q7, .inl (cs 0, 8, .inl (fun _ => 0))), (q15, .inl (cs 0, 8, .inl (fun _ => 0))), (q23, .inl (cs 0, 32, .inl (fun _ => 0))), (q31, .inl (cs 0, 9, .inl (fun _ => 0))), (q40, .inl (cs 2, 3240, .inl (fun _ => 0))), (q49, .inl (cs 0, 486, .inl (fun _ => 0))), (q57, .inl (cs 0, 45, .inl (fun _ => 0))), (q66, .inl (cs 0, 8000, .inl (fun _ => 0)))])) H := hP
  have hD : va_D A ((o, .inr (6, [.int 0, .int 0, .int 0, .int 0, .ref q7, .ref q15, .ref q23, .int 0, .ref q31, .ref q40, .int 0, .ref q49, .int 0, .ref q57, .int 0, .null, .null])) :: ([(q7, .inl (cs 0, 8, .inl (fun _ => 0))), (q15, .inl (cs 0, 8, .inl (fun _ => 0))), (q23, .inl (cs 0, 32, .inl (fun _ => 0))), (q31, .inl (cs 0, 9, .inl (fun _ => 0))), (q40, .inl (cs 2, 3240, .inl (fun _ => 0))), (q49, .inl (cs 0, 486, .inl (fun _ => 0))), (q57, .inl (cs 0, 45, .inl (fun _ => 0))), (q66, .inl (cs 0, 8000, .inl (fun _ => 0)))])) := hD
  refine va_putF (D := D) (ci := 6) (v := .ref q66) (C := R_M) (T := F_M) (N := 17) hx hb hts in_M ft_M ft_M_ok fn_M hown hk.1 hP hD hS 0 rfl rfl 15 (by decide) (hts _ tw_596) (fun _ h9 => h9) rfl hin rfl (ft_M_ok 15 (by decide)) rfl rfl (Nat.le_of_ble_eq_true rfl) dM_init_68 (fun H locs hP hD hS => ?_)
  have hP : va_P D classes ((o, .inr (6, [.int 0, .int 0, .int 0, .int 0, .ref q7, .ref q15, .ref q23, .int 0, .ref q31, .ref q40, .int 0, .ref q49, .int 0, .ref q57, .int 0, .ref q66, .null])) :: ([(q7, .inl (cs 0, 8, .inl (fun _ => 0))), (q15, .inl (cs 0, 8, .inl (fun _ => 0))), (q23, .inl (cs 0, 32, .inl (fun _ => 0))), (q31, .inl (cs 0, 9, .inl (fun _ => 0))), (q40, .inl (cs 2, 3240, .inl (fun _ => 0))), (q49, .inl (cs 0, 486, .inl (fun _ => 0))), (q57, .inl (cs 0, 45, .inl (fun _ => 0))), (q66, .inl (cs 0, 8000, .inl (fun _ => 0)))])) H := hP
  have hD : va_D A ((o, .inr (6, [.int 0, .int 0, .int 0, .int 0, .ref q7, .ref q15, .ref q23, .int 0, .ref q31, .ref q40, .int 0, .ref q49, .int 0, .ref q57, .int 0, .ref q66, .null])) :: ([(q7, .inl (cs 0, 8, .inl (fun _ => 0))), (q15, .inl (cs 0, 8, .inl (fun _ => 0))), (q23, .inl (cs 0, 32, .inl (fun _ => 0))), (q31, .inl (cs 0, 9, .inl (fun _ => 0))), (q40, .inl (cs 2, 3240, .inl (fun _ => 0))), (q49, .inl (cs 0, 486, .inl (fun _ => 0))), (q57, .inl (cs 0, 45, .inl (fun _ => 0))), (q66, .inl (cs 0, 8000, .inl (fun _ => 0)))])) := hD
  refine lv_aload_n hx hb dM_init_71 rfl (lv_at hl 0 rfl) ?_
  refine lv_sipush (v := nI 1000) hx hb dM_init_72 (by decide) ?_
  refine n_newa C hk hP hD hS hA (ty := .int) rfl tw_63 0 rfl rfl (a1 := (1000, .inl (fun _ => 0))) (fun _ => rfl) (by decide) (by decide) (Nat.le_of_ble_eq_true rfl) (Nat.le_of_ble_eq_true rfl) dM_init_75 (fun q75 H hP hD hS => ?_)
  have hP : va_P D classes ((o, .inr (6, [.int 0, .int 0, .int 0, .int 0, .ref q7, .ref q15, .ref q23, .int 0, .ref q31, .ref q40, .int 0, .ref q49, .int 0, .ref q57, .int 0, .ref q66, .null])) :: ([(q7, .inl (cs 0, 8, .inl (fun _ => 0))), (q15, .inl (cs 0, 8, .inl (fun _ => 0))), (q23, .inl (cs 0, 32, .inl (fun _ => 0))), (q31, .inl (cs 0, 9, .inl (fun _ => 0))), (q40, .inl (cs 2, 3240, .inl (fun _ => 0))), (q49, .inl (cs 0, 486, .inl (fun _ => 0))), (q57, .inl (cs 0, 45, .inl (fun _ => 0))), (q66, .inl (cs 0, 8000, .inl (fun _ => 0))), (q75, .inl (cs 0, 1000, .inl (fun _ => 0)))])) H := hP
  have hD : va_D A ((o, .inr (6, [.int 0, .int 0, .int 0, .int 0, .ref q7, .ref q15, .ref q23, .int 0, .ref q31, .ref q40, .int 0, .ref q49, .int 0, .ref q57, .int 0, .ref q66, .null])) :: ([(q7, .inl (cs 0, 8, .inl (fun _ => 0))), (q15, .inl (cs 0, 8, .inl (fun _ => 0))), (q23, .inl (cs 0, 32, .inl (fun _ => 0))), (q31, .inl (cs 0, 9, .inl (fun _ => 0))), (q40, .inl (cs 2, 3240, .inl (fun _ => 0))), (q49, .inl (cs 0, 486, .inl (fun _ => 0))), (q57, .inl (cs 0, 45, .inl (fun _ => 0))), (q66, .inl (cs 0, 8000, .inl (fun _ => 0))), (q75, .inl (cs 0, 1000, .inl (fun _ => 0)))])) := hD
  refine va_putF (D := D) (ci := 6) (v := .ref q75) (C := R_M) (T := F_M) (N := 17) hx hb hts in_M ft_M ft_M_ok fn_M hown hk.1 hP hD hS 0 rfl rfl 16 (by decide) (hts _ tw_597) (fun _ h9 => h9) rfl hin rfl (ft_M_ok 16 (by decide)) rfl rfl (Nat.le_of_ble_eq_true rfl) dM_init_77 (fun H locs hP hD hS => ?_)
  have hP : va_P D classes ((o, .inr (6, [.int 0, .int 0, .int 0, .int 0, .ref q7, .ref q15, .ref q23, .int 0, .ref q31, .ref q40, .int 0, .ref q49, .int 0, .ref q57, .int 0, .ref q66, .ref q75])) :: ([(q7, .inl (cs 0, 8, .inl (fun _ => 0))), (q15, .inl (cs 0, 8, .inl (fun _ => 0))), (q23, .inl (cs 0, 32, .inl (fun _ => 0))), (q31, .inl (cs 0, 9, .inl (fun _ => 0))), (q40, .inl (cs 2, 3240, .inl (fun _ => 0))), (q49, .inl (cs 0, 486, .inl (fun _ => 0))), (q57, .inl (cs 0, 45, .inl (fun _ => 0))), (q66, .inl (cs 0, 8000, .inl (fun _ => 0))), (q75, .inl (cs 0, 1000, .inl (fun _ => 0)))])) H := hP
  have hD : va_D A ((o, .inr (6, [.int 0, .int 0, .int 0, .int 0, .ref q7, .ref q15, .ref q23, .int 0, .ref q31, .ref q40, .int 0, .ref q49, .int 0, .ref q57, .int 0, .ref q66, .ref q75])) :: ([(q7, .inl (cs 0, 8, .inl (fun _ => 0))), (q15, .inl (cs 0, 8, .inl (fun _ => 0))), (q23, .inl (cs 0, 32, .inl (fun _ => 0))), (q31, .inl (cs 0, 9, .inl (fun _ => 0))), (q40, .inl (cs 2, 3240, .inl (fun _ => 0))), (q49, .inl (cs 0, 486, .inl (fun _ => 0))), (q57, .inl (cs 0, 45, .inl (fun _ => 0))), (q66, .inl (cs 0, 8000, .inl (fun _ => 0))), (q75, .inl (cs 0, 1000, .inl (fun _ => 0)))])) := hD
  refine lv_aload_n hx hb dM_init_80 rfl (lv_at hl 0 rfl) ?_
  refine n_sel hx hb rfl (lv_at hl 1 rfl) dM_init_81 dM_init_82 dM_init_83 dM_init_86 dM_init_87 dM_init_89 dM_init_92 dM_init_93 dM_init_96 ?_
  refine va_putF (D := D) (ci := 6) (v := .int (nI (vO x))) (C := R_M) (T := F_M) (N := 17) hx hb hts in_M ft_M ft_M_ok fn_M hown hk.1 hP hD hS 0 rfl rfl 0 (by decide) (hts _ tw_581) (fun _ h9 => h9) rfl hin rfl (ft_M_ok 0 (by decide)) rfl rfl (Nat.le_of_ble_eq_true rfl) dM_init_97 (fun H locs hP hD hS => ?_)
  have hP : va_P D classes ((o, .inr (6, [.int (nI (vO x)), .int 0, .int 0, .int 0, .ref q7, .ref q15, .ref q23, .int 0, .ref q31, .ref q40, .int 0, .ref q49, .int 0, .ref q57, .int 0, .ref q66, .ref q75])) :: ([(q7, .inl (cs 0, 8, .inl (fun _ => 0))), (q15, .inl (cs 0, 8, .inl (fun _ => 0))), (q23, .inl (cs 0, 32, .inl (fun _ => 0))), (q31, .inl (cs 0, 9, .inl (fun _ => 0))), (q40, .inl (cs 2, 3240, .inl (fun _ => 0))), (q49, .inl (cs 0, 486, .inl (fun _ => 0))), (q57, .inl (cs 0, 45, .inl (fun _ => 0))), (q66, .inl (cs 0, 8000, .inl (fun _ => 0))), (q75, .inl (cs 0, 1000, .inl (fun _ => 0)))])) H := hP
  have hD : va_D A ((o, .inr (6, [.int (nI (vO x)), .int 0, .int 0, .int 0, .ref q7, .ref q15, .ref q23, .int 0, .ref q31, .ref q40, .int 0, .ref q49, .int 0, .ref q57, .int 0, .ref q66, .ref q75])) :: ([(q7, .inl (cs 0, 8, .inl (fun _ => 0))), (q15, .inl (cs 0, 8, .inl (fun _ => 0))), (q23, .inl (cs 0, 32, .inl (fun _ => 0))), (q31, .inl (cs 0, 9, .inl (fun _ => 0))), (q40, .inl (cs 2, 3240, .inl (fun _ => 0))), (q49, .inl (cs 0, 486, .inl (fun _ => 0))), (q57, .inl (cs 0, 45, .inl (fun _ => 0))), (q66, .inl (cs 0, 8000, .inl (fun _ => 0))), (q75, .inl (cs 0, 1000, .inl (fun _ => 0)))])) := hD
  refine lv_aload_n hx hb dM_init_100 rfl (lv_at hl 0 rfl) ?_
  refine n_sel hx hb rfl (lv_at hl 2 rfl) dM_init_101 dM_init_102 dM_init_103 dM_init_106 dM_init_107 dM_init_109 dM_init_112 dM_init_113 dM_init_116 ?_
  refine va_putF (D := D) (ci := 6) (v := .int (nI (vO z))) (C := R_M) (T := F_M) (N := 17) hx hb hts in_M ft_M ft_M_ok fn_M hown hk.1 hP hD hS 0 rfl rfl 1 (by decide) (hts _ tw_582) (fun _ h9 => h9) rfl hin rfl (ft_M_ok 1 (by decide)) rfl rfl (Nat.le_of_ble_eq_true rfl) dM_init_117 (fun H locs hP hD hS => ?_)
  have hP : va_P D classes ((o, .inr (6, [.int (nI (vO x)), .int (nI (vO z)), .int 0, .int 0, .ref q7, .ref q15, .ref q23, .int 0, .ref q31, .ref q40, .int 0, .ref q49, .int 0, .ref q57, .int 0, .ref q66, .ref q75])) :: ([(q7, .inl (cs 0, 8, .inl (fun _ => 0))), (q15, .inl (cs 0, 8, .inl (fun _ => 0))), (q23, .inl (cs 0, 32, .inl (fun _ => 0))), (q31, .inl (cs 0, 9, .inl (fun _ => 0))), (q40, .inl (cs 2, 3240, .inl (fun _ => 0))), (q49, .inl (cs 0, 486, .inl (fun _ => 0))), (q57, .inl (cs 0, 45, .inl (fun _ => 0))), (q66, .inl (cs 0, 8000, .inl (fun _ => 0))), (q75, .inl (cs 0, 1000, .inl (fun _ => 0)))])) H := hP
  have hD : va_D A ((o, .inr (6, [.int (nI (vO x)), .int (nI (vO z)), .int 0, .int 0, .ref q7, .ref q15, .ref q23, .int 0, .ref q31, .ref q40, .int 0, .ref q49, .int 0, .ref q57, .int 0, .ref q66, .ref q75])) :: ([(q7, .inl (cs 0, 8, .inl (fun _ => 0))), (q15, .inl (cs 0, 8, .inl (fun _ => 0))), (q23, .inl (cs 0, 32, .inl (fun _ => 0))), (q31, .inl (cs 0, 9, .inl (fun _ => 0))), (q40, .inl (cs 2, 3240, .inl (fun _ => 0))), (q49, .inl (cs 0, 486, .inl (fun _ => 0))), (q57, .inl (cs 0, 45, .inl (fun _ => 0))), (q66, .inl (cs 0, 8000, .inl (fun _ => 0))), (q75, .inl (cs 0, 1000, .inl (fun _ => 0)))])) := hD
  have hE := to_wo (ω := wM D cs (fun k => match k with | 0 => o | 1 => q7 | 2 => q15 | 3 => q23 | 4 => q31 | 5 => q40 | 6 => q49 | 7 => q57 | 8 => q66 | _ => q75)) (σ := iniM (vO x) (vO z)) rfl (fun k => k) (fun k hk9 => by
    have hk9 : k < 10 := hk9
    rcases k with _ | _ | _ | _ | _ | _ | _ | _ | _ | _ | k <;> first | rfl | omega) (fun i j _ _ h => h) hP hD
  exact W.vret hx hb hr (fun t ht hW => ⟨⟨_, rfl, ⟨_, rfl, rfl⟩, by rw [ht]; exact hE.1, hE.2⟩, hS.F ht⟩) hS.2.2 dM_init_120
