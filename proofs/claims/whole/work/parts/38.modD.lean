set_option maxHeartbeats 4000000 in
set_option maxRecDepth 100000 in
theorem c_M_stepsOf (l : Launch) (D : va_G) (cs : Nat → ClassId) (ad : Nat → Nat) (σ : Mem) (s9 r9 : Nat → Nat) (y9 i j : Nat) (hy : y9 < 6 ∨ (100 ≤ y9 ∧ y9 < 200)) (hi : i < 9) (hj : j < 9) : MetI l (wM D cs ad) cs yM_stepsOf bM_stepsOf 4 (some .int) 0 0 [.ref (ad 0), .int (nI y9), .int (nI i), .int (nI j)] (msr σ s9 r9) (fun r τ => r = nI (stN σ s9 y9 i j) ∧ τ = msr σ s9 r9) := by
  refine MetI.start (by decide) (Nat.le_of_ble_eq_true rfl) ?_
  intro p e s m below meth c A ls C hk hA hE hl
  obtain ⟨hx, hb, hml, hown, hts, hr, hlocks⟩ := id C
  have hl : lv_has ls 4 [(0, .ref (ad 0)), (1, .int (nI y9)), (2, .int (nI i)), (3, .int (nI j))] := hl
  refine lv_iload_n hx hb dM_stepsOf_0 rfl (lv_at hl 1 rfl) ?_
  refine lv_bipush (v := nI 100) hx hb dM_stepsOf_1 (by decide) ?_
  refine lv_icmp_lt (tgt := 30) hx hb dM_stepsOf_3 (by decide) (fun c1 => ?_) (fun c1 => ?_)
  · have c1 : y9 < 100 := (nI_ltI (by omega) (by omega)).mp c1
    refine lv_aload_n hx hb dM_stepsOf_30 rfl (lv_at hl 0 rfl) ?_
    refine w_get C hk hE (K := R_M) (T := F_M) (N := 17) (ci := 6) in_M 0 (Nat.le_of_ble_eq_true rfl) rfl rfl 11 (by decide) tw_593 rfl rfl dM_stepsOf_31 ?_
    refine lv_bipush (v := nI 81) hx hb dM_stepsOf_34 (by decide) ?_
    refine lv_iload_n hx hb dM_stepsOf_36 rfl (lv_at hl 1 rfl) ?_
    refine lv_imul hx hb dM_stepsOf_37 ?_
    refine w_top (y := nI (81 * y9)) (by exact pk_mul _ _) ?_
    refine lv_bipush (v := nI 9) hx hb dM_stepsOf_38 (by decide) ?_
    refine lv_iload_n hx hb dM_stepsOf_40 rfl (lv_at hl 2 rfl) ?_
    refine lv_imul hx hb dM_stepsOf_41 ?_
    refine w_top (y := nI (9 * i)) (by exact pk_mul _ _) ?_
    refine lv_iadd hx hb dM_stepsOf_42 ?_
    refine w_top (y := nI ((81 * y9) + (9 * i))) (by first | exact nI_add _ _ | simp only [nI_add, Nat.add_assoc, Nat.add_zero, Nat.zero_add]) ?_
    refine lv_iload_n hx hb dM_stepsOf_43 rfl (lv_at hl 3 rfl) ?_
    refine lv_iadd hx hb dM_stepsOf_44 ?_
    refine w_top (y := nI (((81 * y9) + (9 * i)) + j)) (by first | exact nI_add _ _ | simp only [nI_add, Nat.add_assoc, Nat.add_zero, Nat.zero_add]) ?_
    refine w_iald C hk hE 6 (by exact Nat.le_of_ble_eq_true rfl) (n := 486) rfl (by omega) (by first | decide | omega) dM_stepsOf_45 ?_
    refine w_top (y := nI (s9 (((81 * y9) + (9 * i)) + j))) (by first | exact msr_6 | exact congrFun msr_6 _) ?_
    exact w_reti C hE (⟨by rw [stN]; rw [if_neg (by omega)], rfl⟩) dM_stepsOf_46
  · have c1 : ¬ (y9 < 100) := fun h => c1 ((nI_ltI (by omega) (by omega)).mpr h)
    refine lv_iload_n hx hb dM_stepsOf_6 rfl (lv_at hl 3 rfl) ?_
    refine lv_iload_n hx hb dM_stepsOf_7 rfl (lv_at hl 2 rfl) ?_
    refine lv_iconst (v := nI 1) hx hb dM_stepsOf_8 (by decide) ?_
    refine lv_iadd hx hb dM_stepsOf_9 ?_
    refine w_top (y := nI (i + 1)) (by first | exact nI_add _ _ | simp only [nI_add, Nat.add_assoc, Nat.add_zero, Nat.zero_add]) ?_
    refine lv_icmp_ne (tgt := 27) hx hb dM_stepsOf_10 (by decide) (fun c2 => ?_) (fun c2 => ?_)
    · have c2 : ¬ (j = (i + 1)) := fun h => c2 ((nI_eq (by omega) (by omega)).mpr h)
      refine lv_ldc (v := nI 1000000) hx hb hown (hts _ tw_715) dM_stepsOf_27 ?_
      exact w_reti C hE (⟨by rw [stN]; rw [if_pos (by omega), if_neg c2], rfl⟩) dM_stepsOf_29
    · have c2 : j = (i + 1) := (nI_eq (by omega) (by omega)).mp c2
      refine lv_aload_n hx hb dM_stepsOf_13 rfl (lv_at hl 0 rfl) ?_
      refine w_get C hk hE (K := R_M) (T := F_M) (N := 17) (ci := 6) in_M 0 (Nat.le_of_ble_eq_true rfl) rfl rfl 8 (by decide) tw_590 rfl rfl dM_stepsOf_14 ?_
      refine lv_iload_n hx hb dM_stepsOf_17 rfl (lv_at hl 3 rfl) ?_
      refine w_iald C hk hE 4 (by exact Nat.le_of_ble_eq_true rfl) (n := 9) rfl (by omega) (by first | decide | omega) dM_stepsOf_18 ?_
      refine w_top (y := σ 4 j) (by simp [mset, mrow, upd, mhc, msr, nR]) ?_
      refine lv_iload_n hx hb dM_stepsOf_19 rfl (lv_at hl 1 rfl) ?_
      refine lv_icmp_ne (tgt := 27) hx hb dM_stepsOf_20 (by decide) (fun c3 => ?_) (fun c3 => ?_)
      · refine lv_ldc (v := nI 1000000) hx hb hown (hts _ tw_715) dM_stepsOf_27 ?_
        exact w_reti C hE (⟨by rw [stN]; rw [if_pos (by omega), if_pos c2, if_neg c3], rfl⟩) dM_stepsOf_29
      · refine lv_iconst (v := nI 0) hx hb dM_stepsOf_23 (by decide) ?_
        refine lv_goto (tgt := 29) hx hb dM_stepsOf_24 (by decide) ?_
        exact w_reti C hE (⟨by rw [stN]; rw [if_pos (by omega), if_pos c2, if_pos c3], rfl⟩) dM_stepsOf_29
set_option maxHeartbeats 4000000 in
set_option maxRecDepth 100000 in
theorem lp_M_row4 {p : Program} {l : Launch} {e : Env} {s : State} {m : MethodId} {below : List Frame} {meth : Method} {c : Code} {D : va_G} {cs : Nat → ClassId} {ad : Nat → Nat} {A : Nat → Prop} {Q : State → Prop} {σ : Mem} {s9 r9 : Nat → Nat} {P p9 j : Nat} (C : bC p s m ([.ref (ad 0), .int (nI p9), .int (nI j)] : List Value).toArray meth c bM_row 8 "EarleyChartModel" none) (hk : wk D cs s) (hA : ∀ q : Nat, s.heap.size ≤ q → A q) (hg : mG σ P) (hpp : p9 < P) (hj : j < 9) (hs9 : leN s9) (hr9 : leN r9) (d9 : Nat) (a : Nat) (x : Nat → Nat) (hd : d9 < mn σ p9) (haj : a ≤ j) (hx9 : leN x) (K : ∀ (H : Heap) (locs : List Loc) (ls : Array Slot), wS (wM D cs ad) A s.heap (msr σ s9 x) H locs → lv_has ls 8 [(0, .ref (ad 0)), (1, .int (nI p9)), (2, .int (nI j)), (3, .int (nI d9)), (4, .int (nI a)), (5, .int (nI (bsN σ s9 p9 d9 x a (j + 1 - a))))] → W p l e (rmF 1 23) s m ([.ref (ad 0), .int (nI p9), .int (nI j)] : List Value).toArray below meth c H locs 0 0 Q (F0 m 133 ls [])) :
    ∀ (n : Nat) (b9 : Nat), (j + 1 - b9) < n → (a ≤ b9) → (b9 ≤ j + 1) → ∀ (H : Heap) (locs : List Loc) (ls : Array Slot), wS (wM D cs ad) A s.heap (msr σ s9 x) H locs → lv_has ls 8 [(0, .ref (ad 0)), (1, .int (nI p9)), (2, .int (nI j)), (3, .int (nI d9)), (4, .int (nI a)), (5, .int (nI (bsN σ s9 p9 d9 x a (b9 - a)))), (6, .int (nI b9))] → W p l e (rmF 1 23) s m ([.ref (ad 0), .int (nI p9), .int (nI j)] : List Value).toArray below meth c H locs 0 0 Q (F0 m 70 ls []) := by
  obtain ⟨hx, hb, hml, hown, hts, hr, hlocks⟩ := id C
  have hP8 := hg.1
  obtain ⟨h1, h1b, h2, h2b, h3⟩ := hg.2.2 p9 hpp
  intro n
  induction n with
  | zero => intro b9 h; exact absurd h (Nat.not_lt_zero _)
  | succ n ih =>
    intro b9 hn hb1 hb2 H locs ls hE hl
    have hsb := stN_le (σ := σ) (y := mr σ (4 * p9 + d9)) (i := a) (j := b9) hs9
    have hxb := hx9 (9 * (d9 + 1) + b9)
    have hbb := bsN_le (σ := σ) (s := s9) (p := p9) (d := d9) (r := x) (a := a) (b9 - a)
    refine lv_iload hx hb dM_row_70 (lv_at hl 6 rfl) ?_
    refine lv_iload_n hx hb dM_row_72 rfl (lv_at hl 2 rfl) ?_
    refine lv_icmp_gt (tgt := 133) hx hb dM_row_73 (by decide) (fun c1 => ?_) (fun c1 => ?_)
    · have c1 : j < b9 := (nI_ltI (by omega) (by omega)).mp c1
      have ev2 : (nI (bsN σ s9 p9 d9 x a (b9 - a)) : Int32) = nI (bsN σ s9 p9 d9 x a (j + 1 - a)) := by rw [show j + 1 = b9 by omega]
      rw [ev2] at hl
      exact K  _ _ ls hE (lv_sub hl [0, 1, 2, 3, 4, 5] rfl)
    · have c1 : ¬ (j < b9) := fun h => c1 ((nI_ltI (by omega) (by omega)).mpr h)
      refine lv_aload_n hx hb dM_row_76 rfl (lv_at hl 0 rfl) ?_
      refine lv_aload_n hx hb dM_row_77 rfl (lv_at hl 0 rfl) ?_
      refine w_get C hk hE (K := R_M) (T := F_M) (N := 17) (ci := 6) in_M 0 (Nat.le_of_ble_eq_true rfl) rfl rfl 6 (by decide) tw_588 rfl rfl dM_row_78 ?_
      refine lv_iconst (v := nI 4) hx hb dM_row_81 (by decide) ?_
      refine lv_iload_n hx hb dM_row_82 rfl (lv_at hl 1 rfl) ?_
      refine lv_imul hx hb dM_row_83 ?_
      refine w_top (y := nI (4 * p9)) (by exact pk_mul _ _) ?_
      refine lv_iload_n hx hb dM_row_84 rfl (lv_at hl 3 rfl) ?_
      refine lv_iadd hx hb dM_row_85 ?_
      refine w_top (y := nI ((4 * p9) + d9)) (by first | exact nI_add _ _ | simp only [nI_add, Nat.add_assoc, Nat.add_zero, Nat.zero_add]) ?_
      refine w_iald C hk hE 3 (by exact Nat.le_of_ble_eq_true rfl) (n := 32) rfl (by omega) (by first | decide | omega) dM_row_86 ?_
      refine w_top (y := σ 3 ((4 * p9) + d9)) (by simp [mset, mrow, upd, mhc, msr, nR]) ?_
      refine w_top (y := nI (mr σ (4 * p9 + d9))) ((h3 d9 hd).1) ?_
      refine lv_iload hx hb dM_row_87 (lv_at hl 4 rfl) ?_
      refine lv_iload hx hb dM_row_89 (lv_at hl 6 rfl) ?_
      refine w_ci hE hA (w_runV C hk hE hl.1 (As := [.int (nI (mr σ (4 * p9 + d9))), .int (nI a), .int (nI b9)]) (rest := []) (q := 0) (c_M_stepsOf l D cs ad σ s9 x (mr σ (4 * p9 + d9)) a b9 (by have := (h3 d9 hd).2; omega) (by omega) (by omega) _) (Nat.le_of_ble_eq_true rfl) (ci := 6) (N := 17) (T := F_M) rfl rfl tw_720 tw_722 ts_31 tw_9 tw_723 (n := 3) (by decide +kernel) rfl rfl (Nat.le_of_ble_eq_true rfl) dM_row_91 ⟨Nat.le_of_ble_eq_true rfl, Nat.le_of_ble_eq_true rfl⟩ ⟨Nat.zero_le _, Nat.zero_le _⟩) (fun r3 τ4 H locs hp hE _ _ => ?_)
      refine w_top hp.1 ?_
      have hE := wS_eq hp.2 hE
      refine lv_aload_n hx hb dM_row_94 rfl (lv_at hl 0 rfl) ?_
      refine w_get C hk hE (K := R_M) (T := F_M) (N := 17) (ci := 6) in_M 0 (Nat.le_of_ble_eq_true rfl) rfl rfl 13 (by decide) tw_595 rfl rfl dM_row_95 ?_
      refine lv_bipush (v := nI 9) hx hb dM_row_98 (by decide) ?_
      refine lv_iload_n hx hb dM_row_100 rfl (lv_at hl 3 rfl) ?_
      refine lv_iconst (v := nI 1) hx hb dM_row_101 (by decide) ?_
      refine lv_iadd hx hb dM_row_102 ?_
      refine w_top (y := nI (d9 + 1)) (by first | exact nI_add _ _ | simp only [nI_add, Nat.add_assoc, Nat.add_zero, Nat.zero_add]) ?_
      refine lv_imul hx hb dM_row_103 ?_
      refine w_top (y := nI (9 * (d9 + 1))) (by exact pk_mul _ _) ?_
      refine lv_iload hx hb dM_row_104 (lv_at hl 6 rfl) ?_
      refine lv_iadd hx hb dM_row_106 ?_
      refine w_top (y := nI ((9 * (d9 + 1)) + b9)) (by first | exact nI_add _ _ | simp only [nI_add, Nat.add_assoc, Nat.add_zero, Nat.zero_add]) ?_
      refine w_iald C hk hE 7 (by exact Nat.le_of_ble_eq_true rfl) (n := 45) rfl (by omega) (by first | decide | omega) dM_row_107 ?_
      refine w_top (y := nI (x ((9 * (d9 + 1)) + b9))) (by first | exact msr_7 | exact congrFun msr_7 _) ?_
      refine lv_iadd hx hb dM_row_108 ?_
      refine w_top (y := nI ((stN σ s9 (mr σ (4 * p9 + d9)) a b9) + (x ((9 * (d9 + 1)) + b9)))) (by first | exact nI_add _ _ | simp only [nI_add, Nat.add_assoc, Nat.add_zero, Nat.zero_add]) ?_
      refine lv_istore (lv' := [(7, .int (nI ((stN σ s9 (mr σ (4 * p9 + d9)) a b9) + (x ((9 * (d9 + 1)) + b9))))), (0, .ref (ad 0)), (1, .int (nI p9)), (2, .int (nI j)), (3, .int (nI d9)), (4, .int (nI a)), (5, .int (nI (bsN σ s9 p9 d9 x a (b9 - a)))), (6, .int (nI b9))]) hx hb dM_row_109 hl (by decide) rfl (fun ls hl => ?_)
      refine lv_iload hx hb dM_row_111 (lv_at hl 0 rfl) ?_
      refine lv_iload hx hb dM_row_113 (lv_at hl 6 rfl) ?_
      refine lv_icmp_ge (tgt := 123) hx hb dM_row_115 (by decide) (fun c5 => ?_) (fun c5 => ?_)
      · have c5 : (bsN σ s9 p9 d9 x a (b9 - a)) ≤ ((stN σ s9 (mr σ (4 * p9 + d9)) a b9) + (x ((9 * (d9 + 1)) + b9))) := (nI_leI (by omega) (by omega)).mp c5
        have c5 : ¬ _ := Nat.not_lt.mpr c5
        refine lv_iload hx hb dM_row_123 (lv_at hl 6 rfl) ?_
        refine lv_istore (lv' := [(5, .int (nI (bsN σ s9 p9 d9 x a (b9 - a)))), (7, .int (nI ((stN σ s9 (mr σ (4 * p9 + d9)) a b9) + (x ((9 * (d9 + 1)) + b9))))), (0, .ref (ad 0)), (1, .int (nI p9)), (2, .int (nI j)), (3, .int (nI d9)), (4, .int (nI a)), (6, .int (nI b9))]) hx hb dM_row_125 hl (by decide) rfl (fun ls hl => ?_)
        refine lv_iinc (v := nI (b9 + 1)) (lv' := [(6, .int (nI (b9 + 1))), (5, .int (nI (bsN σ s9 p9 d9 x a (b9 - a)))), (7, .int (nI ((stN σ s9 (mr σ (4 * p9 + d9)) a b9) + (x ((9 * (d9 + 1)) + b9))))), (0, .ref (ad 0)), (1, .int (nI p9)), (2, .int (nI j)), (3, .int (nI d9)), (4, .int (nI a))]) hx hb dM_row_127 hl (k := 7) rfl (by exact nI_1 _) (by decide) rfl (fun ls hl => ?_)
        refine lv_goto (tgt := 70) hx hb dM_row_130 (by decide) ?_
        have ev6 : (nI (bsN σ s9 p9 d9 x a (b9 - a)) : Int32) = nI (bsN σ s9 p9 d9 x a ((b9 + 1) - a)) := by rw [show b9 + 1 - a = (b9 - a) + 1 by omega, bsN, show a + (b9 - a) = b9 by omega]; simp only [c5, if_true, if_false]
        rw [ev6] at hl
        exact ih (b9 + 1) (by omega) (by omega) (by omega) _ _ ls hE (lv_sub hl [3, 4, 5, 6, 7, 1, 0] rfl)
      · have c5 : ¬ ((bsN σ s9 p9 d9 x a (b9 - a)) ≤ ((stN σ s9 (mr σ (4 * p9 + d9)) a b9) + (x ((9 * (d9 + 1)) + b9)))) := fun h => c5 ((nI_leI (by omega) (by omega)).mpr h)
        have c5 := Nat.not_le.mp c5
        refine lv_iload hx hb dM_row_118 (lv_at hl 0 rfl) ?_
        refine lv_goto (tgt := 125) hx hb dM_row_120 (by decide) ?_
        refine lv_istore (lv' := [(5, .int (nI ((stN σ s9 (mr σ (4 * p9 + d9)) a b9) + (x ((9 * (d9 + 1)) + b9))))), (7, .int (nI ((stN σ s9 (mr σ (4 * p9 + d9)) a b9) + (x ((9 * (d9 + 1)) + b9))))), (0, .ref (ad 0)), (1, .int (nI p9)), (2, .int (nI j)), (3, .int (nI d9)), (4, .int (nI a)), (6, .int (nI b9))]) hx hb dM_row_125 hl (by decide) rfl (fun ls hl => ?_)
        refine lv_iinc (v := nI (b9 + 1)) (lv' := [(6, .int (nI (b9 + 1))), (5, .int (nI ((stN σ s9 (mr σ (4 * p9 + d9)) a b9) + (x ((9 * (d9 + 1)) + b9))))), (7, .int (nI ((stN σ s9 (mr σ (4 * p9 + d9)) a b9) + (x ((9 * (d9 + 1)) + b9))))), (0, .ref (ad 0)), (1, .int (nI p9)), (2, .int (nI j)), (3, .int (nI d9)), (4, .int (nI a))]) hx hb dM_row_127 hl (k := 7) rfl (by exact nI_1 _) (by decide) rfl (fun ls hl => ?_)
        refine lv_goto (tgt := 70) hx hb dM_row_130 (by decide) ?_
        have ev7 : (nI ((stN σ s9 (mr σ (4 * p9 + d9)) a b9) + (x ((9 * (d9 + 1)) + b9))) : Int32) = nI (bsN σ s9 p9 d9 x a ((b9 + 1) - a)) := by rw [show b9 + 1 - a = (b9 - a) + 1 by omega, bsN, show a + (b9 - a) = b9 by omega]; simp only [c5, if_true, if_false]
        rw [ev7] at hl
        exact ih (b9 + 1) (by omega) (by omega) (by omega) _ _ ls hE (lv_sub hl [3, 4, 5, 6, 7, 1, 0] rfl)
set_option maxHeartbeats 4000000 in
set_option maxRecDepth 100000 in
theorem lp_M_row3 {p : Program} {l : Launch} {e : Env} {s : State} {m : MethodId} {below : List Frame} {meth : Method} {c : Code} {D : va_G} {cs : Nat → ClassId} {ad : Nat → Nat} {A : Nat → Prop} {Q : State → Prop} {σ : Mem} {s9 r9 : Nat → Nat} {P p9 j : Nat} (C : bC p s m ([.ref (ad 0), .int (nI p9), .int (nI j)] : List Value).toArray meth c bM_row 8 "EarleyChartModel" none) (hk : wk D cs s) (hA : ∀ q : Nat, s.heap.size ≤ q → A q) (hg : mG σ P) (hpp : p9 < P) (hj : j < 9) (hs9 : leN s9) (hr9 : leN r9) (d9 : Nat) (x : Nat → Nat) (hd : d9 < mn σ p9) (hx9 : leN x) (K : ∀ (H : Heap) (locs : List Loc) (ls : Array Slot), wS (wM D cs ad) A s.heap (msr σ s9 (rwA σ s9 p9 d9 j x (j + 1))) H locs → lv_has ls 8 [(0, .ref (ad 0)), (1, .int (nI p9)), (2, .int (nI j)), (3, .int (nI d9))] → W p l e (rmF 1 23) s m ([.ref (ad 0), .int (nI p9), .int (nI j)] : List Value).toArray below meth c H locs 0 0 Q (F0 m 153 ls [])) :
    ∀ (n : Nat) (a : Nat), (j + 1 - a) < n → (a ≤ j + 1) → ∀ (H : Heap) (locs : List Loc) (ls : Array Slot), wS (wM D cs ad) A s.heap (msr σ s9 (rwA σ s9 p9 d9 j x a)) H locs → lv_has ls 8 [(0, .ref (ad 0)), (1, .int (nI p9)), (2, .int (nI j)), (3, .int (nI d9)), (4, .int (nI a))] → W p l e (rmF 1 23) s m ([.ref (ad 0), .int (nI p9), .int (nI j)] : List Value).toArray below meth c H locs 0 0 Q (F0 m 56 ls []) := by
  obtain ⟨hx, hb, hml, hown, hts, hr, hlocks⟩ := id C
  have hP8 := hg.1
  obtain ⟨h1, h1b, h2, h2b, h3⟩ := hg.2.2 p9 hpp
  intro n
  induction n with
  | zero => intro a h; exact absurd h (Nat.not_lt_zero _)
  | succ n ih =>
    intro a hn ha H locs ls hE hl
    refine lv_iload hx hb dM_row_56 (lv_at hl 4 rfl) ?_
    refine lv_iload_n hx hb dM_row_58 rfl (lv_at hl 2 rfl) ?_
    refine lv_icmp_gt (tgt := 153) hx hb dM_row_59 (by decide) (fun c1 => ?_) (fun c1 => ?_)
    · have c1 : j < a := (nI_ltI (by omega) (by omega)).mp c1
      exact K  _ _ ls (wS_eq (show msr σ s9 (rwA σ s9 p9 d9 j x a) = msr σ s9 (rwA σ s9 p9 d9 j x (j + 1)) by rw [show j + 1 = a by omega]) hE) (lv_sub hl [0, 1, 2, 3] rfl)
    · have c1 : ¬ (j < a) := fun h => c1 ((nI_ltI (by omega) (by omega)).mpr h)
      refine lv_ldc (v := nI 1000000) hx hb hown (hts _ tw_715) dM_row_62 ?_
      refine lv_istore (lv' := [(5, .int (nI 1000000)), (0, .ref (ad 0)), (1, .int (nI p9)), (2, .int (nI j)), (3, .int (nI d9)), (4, .int (nI a))]) hx hb dM_row_64 hl (by decide) rfl (fun ls hl => ?_)
      refine lv_iload hx hb dM_row_66 (lv_at hl 5 rfl) ?_
      refine lv_istore (lv' := [(6, .int (nI a)), (5, .int (nI 1000000)), (0, .ref (ad 0)), (1, .int (nI p9)), (2, .int (nI j)), (3, .int (nI d9)), (4, .int (nI a))]) hx hb dM_row_68 hl (by decide) rfl (fun ls hl => ?_)
      have ev2 : (nI 1000000 : Int32) = nI (bsN σ s9 p9 d9 (rwA σ s9 p9 d9 j x a) a (a - a)) := by rw [Nat.sub_self]; rfl
      rw [ev2] at hl
      refine lp_M_row4 C hk hA hg hpp hj hs9 hr9 d9 a (rwA σ s9 p9 d9 j x a) (hd) (by omega) (leN_rwA hx9 _) (fun H locs ls hE hl => ?_) _ a (Nat.lt_succ_self _) (Nat.le_refl _) (by omega) _ _ ls hE (lv_sub hl [2, 3, 4, 5, 6, 1, 0] rfl)
      refine lv_aload_n hx hb dM_row_133 rfl (lv_at hl 0 rfl) ?_
      refine w_get C hk hE (K := R_M) (T := F_M) (N := 17) (ci := 6) in_M 0 (Nat.le_of_ble_eq_true rfl) rfl rfl 13 (by decide) tw_595 rfl rfl dM_row_134 ?_
      refine lv_bipush (v := nI 9) hx hb dM_row_137 (by decide) ?_
      refine lv_iload_n hx hb dM_row_139 rfl (lv_at hl 3 rfl) ?_
      refine lv_imul hx hb dM_row_140 ?_
      refine w_top (y := nI (9 * d9)) (by exact pk_mul _ _) ?_
      refine lv_iload hx hb dM_row_141 (lv_at hl 4 rfl) ?_
      refine lv_iadd hx hb dM_row_143 ?_
      refine w_top (y := nI ((9 * d9) + a)) (by first | exact nI_add _ _ | simp only [nI_add, Nat.add_assoc, Nat.add_zero, Nat.zero_add]) ?_
      refine lv_iload hx hb dM_row_144 (lv_at hl 5 rfl) ?_
      refine w_iast C hk hE 7 (by exact Nat.le_of_ble_eq_true rfl) (n := 45) (fun _ => rfl) (by omega) (by first | decide | omega) dM_row_146 (fun H locs hE => ?_)
      rw [msr_set7] at hE
      refine lv_iinc (v := nI (a + 1)) (lv' := [(4, .int (nI (a + 1))), (0, .ref (ad 0)), (1, .int (nI p9)), (2, .int (nI j)), (3, .int (nI d9)), (5, .int (nI (bsN σ s9 p9 d9 (rwA σ s9 p9 d9 j x a) a (j + 1 - a))))]) hx hb dM_row_147 hl (k := 4) rfl (by exact nI_1 _) (by decide) rfl (fun ls hl => ?_)
      refine lv_goto (tgt := 56) hx hb dM_row_150 (by decide) ?_
      exact ih (a + 1) (by omega) (by omega) _ _ ls (wS_eq (show msr σ s9 (updN (rwA σ s9 p9 d9 j x a) ((9 * d9) + a) (bsN σ s9 p9 d9 (rwA σ s9 p9 d9 j x a) a (j + 1 - a))) = msr σ s9 (rwA σ s9 p9 d9 j x (a + 1)) by rfl) hE) (lv_sub hl [1, 2, 3, 4, 0] rfl)
set_option maxHeartbeats 4000000 in
set_option maxRecDepth 100000 in
theorem lp_M_row2 {p : Program} {l : Launch} {e : Env} {s : State} {m : MethodId} {below : List Frame} {meth : Method} {c : Code} {D : va_G} {cs : Nat → ClassId} {ad : Nat → Nat} {A : Nat → Prop} {σ : Mem} {s9 r9 : Nat → Nat} {P p9 j : Nat} (C : bC p s m ([.ref (ad 0), .int (nI p9), .int (nI j)] : List Value).toArray meth c bM_row 8 "EarleyChartModel" none) (hk : wk D cs s) (hA : ∀ q : Nat, s.heap.size ≤ q → A q) (hg : mG σ P) (hpp : p9 < P) (hj : j < 9) (hs9 : leN s9) (hr9 : leN r9)   :
    ∀ (n : Nat) (t : Nat) (x : Nat → Nat), t < n → (t ≤ mn σ p9) → (leN x) → (rwD σ s9 p9 j t x = rowN σ s9 p9 j r9) → ∀ (H : Heap) (locs : List Loc) (ls : Array Slot), wS (wM D cs ad) A s.heap (msr σ s9 x) H locs → lv_has ls 8 [(0, .ref (ad 0)), (1, .int (nI p9)), (2, .int (nI j)), (3, .int (dn t))] → W p l e (rmF 1 23) s m ([.ref (ad 0), .int (nI p9), .int (nI j)] : List Value).toArray below meth c H locs 0 0 (wQv (wM D cs ad) A (fun τ => τ = msr σ s9 (rowN σ s9 p9 j r9)) s below ([.ref (ad 0), .int (nI p9), .int (nI j)] : List Value).toArray) (F0 m 49 ls []) := by
  obtain ⟨hx, hb, hml, hown, hts, hr, hlocks⟩ := id C
  have hP8 := hg.1
  obtain ⟨h1, h1b, h2, h2b, h3⟩ := hg.2.2 p9 hpp
  intro n
  induction n with
  | zero => intro t x h; exact absurd h (Nat.not_lt_zero _)
  | succ n ih =>
    intro t x hn ht9 hx9 hres H locs ls hE hl
    refine lv_iload_n hx hb dM_row_49 rfl (lv_at hl 3 rfl) ?_
    refine lv_if_lt (tgt := 159) hx hb dM_row_50 (by decide) (fun c1 => ?_) (fun c1 => ?_)
    · have hd0 := dn_lt (by omega) c1
      exact w_retv C hE (by rw [← hres, hd0]; rfl) dM_row_159
    · obtain ⟨d9, rfl⟩ := dn_ge c1
      have hl : lv_has ls 8 [(0, .ref (ad 0)), (1, .int (nI p9)), (2, .int (nI j)), (3, .int (nI d9))] := hl
      refine lv_iconst (v := nI 0) hx hb dM_row_53 (by decide) ?_
      refine lv_istore (lv' := [(4, .int (nI 0)), (0, .ref (ad 0)), (1, .int (nI p9)), (2, .int (nI j)), (3, .int (nI d9))]) hx hb dM_row_54 hl (by decide) rfl (fun ls hl => ?_)
      refine lp_M_row3 C hk hA hg hpp hj hs9 hr9 d9 x (by omega) (hx9) (fun H locs ls hE hl => ?_) _ 0 (Nat.lt_succ_self _) (Nat.zero_le _) _ _ ls (wS_eq (show msr σ s9 x = msr σ s9 (rwA σ s9 p9 d9 j x 0) by rfl) hE) (lv_sub hl [1, 2, 3, 4, 0] rfl)
      refine lv_iinc (v := (nI d9) + -1) (lv' := [(3, .int ((nI d9) + -1)), (0, .ref (ad 0)), (1, .int (nI p9)), (2, .int (nI j))]) hx hb dM_row_153 hl (k := 3) rfl (rfl) (by decide) rfl (fun ls hl => ?_)
      refine lv_goto (tgt := 49) hx hb dM_row_156 (by decide) ?_
      have ev2 : ((nI d9) + -1 : Int32) = dn d9 := by exact dn_pred _
      rw [ev2] at hl
      exact ih d9 (rwA σ s9 p9 d9 j x (j + 1)) (by omega) (by omega) (leN_rwA hx9 _) (by rw [← hres, rwD]) _ _ ls hE (lv_sub hl [1, 2, 3, 0] rfl)
set_option maxHeartbeats 4000000 in
set_option maxRecDepth 100000 in
theorem lp_M_row1 {p : Program} {l : Launch} {e : Env} {s : State} {m : MethodId} {below : List Frame} {meth : Method} {c : Code} {D : va_G} {cs : Nat → ClassId} {ad : Nat → Nat} {A : Nat → Prop} {Q : State → Prop} {σ : Mem} {s9 r9 : Nat → Nat} {P p9 j : Nat} (C : bC p s m ([.ref (ad 0), .int (nI p9), .int (nI j)] : List Value).toArray meth c bM_row 8 "EarleyChartModel" none) (hk : wk D cs s) (hA : ∀ q : Nat, s.heap.size ≤ q → A q) (hg : mG σ P) (hpp : p9 < P) (hj : j < 9) (hs9 : leN s9) (hr9 : leN r9)   (K : ∀ (H : Heap) (locs : List Loc) (ls : Array Slot), wS (wM D cs ad) A s.heap (msr σ s9 (rwB (mn σ p9) j r9 (j + 1))) H locs → lv_has ls 8 [(0, .ref (ad 0)), (1, .int (nI p9)), (2, .int (nI j))] → W p l e (rmF 1 23) s m ([.ref (ad 0), .int (nI p9), .int (nI j)] : List Value).toArray below meth c H locs 0 0 Q (F0 m 40 ls [])) :
    ∀ (n : Nat) (a : Nat), (j + 1 - a) < n → (a ≤ j + 1) → ∀ (H : Heap) (locs : List Loc) (ls : Array Slot), wS (wM D cs ad) A s.heap (msr σ s9 (rwB (mn σ p9) j r9 a)) H locs → lv_has ls 8 [(0, .ref (ad 0)), (1, .int (nI p9)), (2, .int (nI j)), (3, .int (nI a))] → W p l e (rmF 1 23) s m ([.ref (ad 0), .int (nI p9), .int (nI j)] : List Value).toArray below meth c H locs 0 0 Q (F0 m 2 ls []) := by
  obtain ⟨hx, hb, hml, hown, hts, hr, hlocks⟩ := id C
  have hP8 := hg.1
  obtain ⟨h1, h1b, h2, h2b, h3⟩ := hg.2.2 p9 hpp
  intro n
  induction n with
  | zero => intro a h; exact absurd h (Nat.not_lt_zero _)
  | succ n ih =>
    intro a hn ha H locs ls hE hl
    refine lv_iload_n hx hb dM_row_2 rfl (lv_at hl 3 rfl) ?_
    refine lv_iload_n hx hb dM_row_3 rfl (lv_at hl 2 rfl) ?_
    refine lv_icmp_gt (tgt := 40) hx hb dM_row_4 (by decide) (fun c1 => ?_) (fun c1 => ?_)
    · have c1 : j < a := (nI_ltI (by omega) (by omega)).mp c1
      exact K  _ _ ls (wS_eq (show msr σ s9 (rwB (mn σ p9) j r9 a) = msr σ s9 (rwB (mn σ p9) j r9 (j + 1)) by rw [show j + 1 = a by omega]) hE) (lv_sub hl [0, 1, 2] rfl)
    · have c1 : ¬ (j < a) := fun h => c1 ((nI_ltI (by omega) (by omega)).mpr h)
      refine lv_aload_n hx hb dM_row_7 rfl (lv_at hl 0 rfl) ?_
      refine w_get C hk hE (K := R_M) (T := F_M) (N := 17) (ci := 6) in_M 0 (Nat.le_of_ble_eq_true rfl) rfl rfl 13 (by decide) tw_595 rfl rfl dM_row_8 ?_
      refine lv_bipush (v := nI 9) hx hb dM_row_11 (by decide) ?_
      refine lv_aload_n hx hb dM_row_13 rfl (lv_at hl 0 rfl) ?_
      refine w_get C hk hE (K := R_M) (T := F_M) (N := 17) (ci := 6) in_M 0 (Nat.le_of_ble_eq_true rfl) rfl rfl 5 (by decide) tw_587 rfl rfl dM_row_14 ?_
      refine lv_iload_n hx hb dM_row_17 rfl (lv_at hl 1 rfl) ?_
      refine w_iald C hk hE 2 (by exact Nat.le_of_ble_eq_true rfl) (n := 8) rfl (by omega) (by first | decide | omega) dM_row_18 ?_
      refine w_top (y := σ 2 p9) (by simp [mset, mrow, upd, mhc, msr, nR]) ?_
      refine w_top (y := nI (mn σ p9)) (h2) ?_
      refine lv_imul hx hb dM_row_19 ?_
      refine w_top (y := nI (9 * (mn σ p9))) (by exact pk_mul _ _) ?_
      refine lv_iload_n hx hb dM_row_20 rfl (lv_at hl 3 rfl) ?_
      refine lv_iadd hx hb dM_row_21 ?_
      refine w_top (y := nI ((9 * (mn σ p9)) + a)) (by first | exact nI_add _ _ | simp only [nI_add, Nat.add_assoc, Nat.add_zero, Nat.zero_add]) ?_
      refine lv_iload_n hx hb dM_row_22 rfl (lv_at hl 3 rfl) ?_
      refine lv_iload_n hx hb dM_row_23 rfl (lv_at hl 2 rfl) ?_
      refine lv_icmp_ne (tgt := 31) hx hb dM_row_24 (by decide) (fun c2 => ?_) (fun c2 => ?_)
      · have c2 : ¬ (a = j) := fun h => c2 ((nI_eq (by omega) (by omega)).mpr h)
        refine lv_ldc (v := nI 1000000) hx hb hown (hts _ tw_715) dM_row_31 ?_
        refine w_iast C hk hE 7 (by exact Nat.le_of_ble_eq_true rfl) (n := 45) (fun _ => rfl) (by omega) (by first | decide | omega) dM_row_33 (fun H locs hE => ?_)
        rw [msr_set7] at hE
        refine lv_iinc (v := nI (a + 1)) (lv' := [(3, .int (nI (a + 1))), (0, .ref (ad 0)), (1, .int (nI p9)), (2, .int (nI j))]) hx hb dM_row_34 hl (k := 3) rfl (by exact nI_1 _) (by decide) rfl (fun ls hl => ?_)
        refine lv_goto (tgt := 2) hx hb dM_row_37 (by decide) ?_
        exact ih (a + 1) (by omega) (by omega) _ _ ls (wS_eq (show msr σ s9 (updN (rwB (mn σ p9) j r9 a) ((9 * (mn σ p9)) + a) 1000000) = msr σ s9 (rwB (mn σ p9) j r9 (a + 1)) by simp only [rwB, c2, if_true, if_false]) hE) (lv_sub hl [1, 2, 3, 0] rfl)
      · have c2 : a = j := (nI_eq (by omega) (by omega)).mp c2
        refine lv_iconst (v := nI 0) hx hb dM_row_27 (by decide) ?_
        refine lv_goto (tgt := 33) hx hb dM_row_28 (by decide) ?_
        refine w_iast C hk hE 7 (by exact Nat.le_of_ble_eq_true rfl) (n := 45) (fun _ => rfl) (by omega) (by first | decide | omega) dM_row_33 (fun H locs hE => ?_)
        rw [msr_set7] at hE
        refine lv_iinc (v := nI (a + 1)) (lv' := [(3, .int (nI (a + 1))), (0, .ref (ad 0)), (1, .int (nI p9)), (2, .int (nI j))]) hx hb dM_row_34 hl (k := 3) rfl (by exact nI_1 _) (by decide) rfl (fun ls hl => ?_)
        refine lv_goto (tgt := 2) hx hb dM_row_37 (by decide) ?_
        exact ih (a + 1) (by omega) (by omega) _ _ ls (wS_eq (show msr σ s9 (updN (rwB (mn σ p9) j r9 a) ((9 * (mn σ p9)) + a) 0) = msr σ s9 (rwB (mn σ p9) j r9 (a + 1)) by simp only [rwB, c2, if_true, if_false]) hE) (lv_sub hl [1, 2, 3, 0] rfl)
set_option maxHeartbeats 4000000 in
set_option maxRecDepth 100000 in
theorem c_M_row (l : Launch) (D : va_G) (cs : Nat → ClassId) (ad : Nat → Nat) (σ : Mem) (s9 r9 : Nat → Nat) (P p9 j : Nat) (hg : mG σ P) (hpp : p9 < P) (hj : j < 9) (hs9 : leN s9) (hr9 : leN r9) : MetV l (wM D cs ad) cs yM_row bM_row 8 1 23 [.ref (ad 0), .int (nI p9), .int (nI j)] (msr σ s9 r9) (fun τ => τ = msr σ s9 (rowN σ s9 p9 j r9)) := by
  refine MetV.start (by decide) (Nat.le_of_ble_eq_true rfl) ?_
  intro p e s m below meth c A ls C hk hA hE hl
  obtain ⟨hx, hb, hml, hown, hts, hr, hlocks⟩ := id C
  have hl : lv_has ls 8 [(0, .ref (ad 0)), (1, .int (nI p9)), (2, .int (nI j))] := hl
  have hP8 := hg.1
  obtain ⟨h1, h1b, h2, h2b, h3⟩ := hg.2.2 p9 hpp
  refine lv_iconst (v := nI 0) hx hb dM_row_0 (by decide) ?_
  refine lv_istore_n (lv' := [(3, .int (nI 0)), (0, .ref (ad 0)), (1, .int (nI p9)), (2, .int (nI j))]) hx hb dM_row_1 rfl hl (by decide) rfl (fun ls hl => ?_)
  refine lp_M_row1 C hk hA hg hpp hj hs9 hr9   (fun H locs ls hE hl => ?_) _ 0 (Nat.lt_succ_self _) (Nat.zero_le _) _ _ ls (wS_eq (show msr σ s9 r9 = msr σ s9 (rwB (mn σ p9) j r9 0) by rfl) hE) (lv_sub hl [1, 2, 3, 0] rfl)
  refine lv_aload_n hx hb dM_row_40 rfl (lv_at hl 0 rfl) ?_
  refine w_get C hk hE (K := R_M) (T := F_M) (N := 17) (ci := 6) in_M 0 (Nat.le_of_ble_eq_true rfl) rfl rfl 5 (by decide) tw_587 rfl rfl dM_row_41 ?_
  refine lv_iload_n hx hb dM_row_44 rfl (lv_at hl 1 rfl) ?_
  refine w_iald C hk hE 2 (by exact Nat.le_of_ble_eq_true rfl) (n := 8) rfl (by omega) (by first | decide | omega) dM_row_45 ?_
  refine w_top (y := σ 2 p9) (by simp [mset, mrow, upd, mhc, msr, nR]) ?_
  refine w_top (y := nI (mn σ p9)) (h2) ?_
  refine lv_iconst (v := nI 1) hx hb dM_row_46 (by decide) ?_
  refine lv_isub hx hb dM_row_47 ?_
  refine lv_istore_n (lv' := [(3, .int ((nI (mn σ p9)) - (nI 1))), (0, .ref (ad 0)), (1, .int (nI p9)), (2, .int (nI j))]) hx hb dM_row_48 rfl hl (by decide) rfl (fun ls hl => ?_)
  have ev1 : ((nI (mn σ p9)) - (nI 1) : Int32) = dn (mn σ p9) := by exact dn_sub
  rw [ev1] at hl
  exact lp_M_row2 C hk hA hg hpp hj hs9 hr9 _ (mn σ p9) (rwB (mn σ p9) j r9 (j + 1)) (Nat.lt_succ_self _) (Nat.le_refl _) (leN_rwB hr9 _) (rfl) _ _ ls hE (lv_sub hl [1, 2, 3, 0] rfl)
