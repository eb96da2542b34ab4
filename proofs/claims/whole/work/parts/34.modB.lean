set_option maxHeartbeats 4000000 in
set_option maxRecDepth 100000 in
theorem lp_M_br4 {p : Program} {l : Launch} {e : Env} {s : State} {m : MethodId} {below : List Frame} {meth : Method} {c : Code} {D : va_G} {cs : Nat → ClassId} {ad : Nat → Nat} {A : Nat → Prop} {Q : State → Prop} {σ : Mem} {P k p9 d9 o9 : Nat} (C : bC p s m ([.ref (ad 0), .int (nI k), .int (nI p9), .int (nI d9), .int (nI o9)] : List Value).toArray meth c bM_bring 9 "EarleyChartModel" none) (hk : wk D cs s) (hA : ∀ q : Nat, s.heap.size ≤ q → A q) (hg : mG σ P) (hk9 : k < 9) (hpP : p9 < P) (hd5 : d9 < 5) (hok : o9 ≤ k) (hvb : vH σ P k (σ 5, σ 0 10)) (q : Nat) (e9 : Nat) (x : HC) (hq : q < P) (he : e9 < mn σ q) (hvx : vH σ P k x) (K : ∀ (H : Heap) (locs : List Loc) (ls : Array Slot), wS (wM D cs ad) A s.heap (mhc σ (if bhF σ q e9 = σ 1 p9 then coH k q e9 o9 x (o9 + 1) else x)) H locs → lv_has ls 9 [(0, .ref (ad 0)), (1, .int (nI k)), (2, .int (nI p9)), (3, .int (nI d9)), (4, .int (nI o9)), (5, .int (bhF σ p9 d9)), (6, .int (nI q)), (7, .int (nI e9))] → W p l e (rmF 1 25) s m ([.ref (ad 0), .int (nI k), .int (nI p9), .int (nI d9), .int (nI o9)] : List Value).toArray below meth c H locs 0 0 Q (F0 m 153 ls [])) :
    ∀ (n : Nat) (w : Nat), (o9 + 1 - w) < n → (w ≤ o9 + 1) → (w = 0 ∨ bhF σ q e9 = σ 1 p9) → ∀ (H : Heap) (locs : List Loc) (ls : Array Slot), wS (wM D cs ad) A s.heap (mhc σ (coH k q e9 o9 x w)) H locs → lv_has ls 9 [(0, .ref (ad 0)), (1, .int (nI k)), (2, .int (nI p9)), (3, .int (nI d9)), (4, .int (nI o9)), (5, .int (bhF σ p9 d9)), (6, .int (nI q)), (7, .int (nI e9)), (8, .int (nI w))] → W p l e (rmF 1 25) s m ([.ref (ad 0), .int (nI k), .int (nI p9), .int (nI d9), .int (nI o9)] : List Value).toArray below meth c H locs 0 0 Q (F0 m 95 ls []) := by
  obtain ⟨hx, hb, hml, hown, hts, hr, hlocks⟩ := id C
  have hP8 := hg.1
  have hb9 : vH σ P k (σ 5, σ 0 10) := hvb
  intro n
  induction n with
  | zero => intro w h; exact absurd h (Nat.not_lt_zero _)
  | succ n ih =>
    intro w hn hw9 hc9 H locs ls hE hl
    have hmq := mG_m hg hq
    refine lv_iload hx hb dM_bring_95 (lv_at hl 8 rfl) ?_
    refine lv_iload hx hb dM_bring_97 (lv_at hl 4 rfl) ?_
    refine lv_icmp_gt (tgt := 153) hx hb dM_bring_99 (by decide) (fun c1 => ?_) (fun c1 => ?_)
    · have c1 : o9 < w := (nI_ltI (by omega) (by omega)).mp c1
      exact K  _ _ ls (wS_eq (show mhc σ (coH k q e9 o9 x w) = mhc σ (if bhF σ q e9 = σ 1 p9 then coH k q e9 o9 x (o9 + 1) else x) by first | rw [if_pos (hc9.resolve_left (by omega)), show o9 + 1 = w by omega] | rw [hc9.resolve_right (by assumption), if_neg (by assumption), coH]) hE) (lv_sub hl [0, 1, 2, 3, 4, 5, 6, 7] rfl)
    · have c1 : ¬ (o9 < w) := fun h => c1 ((nI_ltI (by omega) (by omega)).mpr h)
      refine lv_aload_n hx hb dM_bring_102 rfl (lv_at hl 0 rfl) ?_
      refine lv_iload hx hb dM_bring_103 (lv_at hl 6 rfl) ?_
      refine lv_iload hx hb dM_bring_105 (lv_at hl 7 rfl) ?_
      refine w_ci hE hA (w_runV C hk hE hl.1 (As := [.int (nI q), .int (nI e9)]) (rest := []) (q := 0) (c_M_behind l D cs ad (mhc σ (coH k q e9 o9 x w)) P q e9 (mG_mhc hg) (hq) (by omega) _) (Nat.le_of_ble_eq_true rfl) (ci := 6) (N := 17) (T := F_M) rfl rfl tw_663 tw_665 ts_22 tw_9 tw_666 (n := 2) (by decide +kernel) rfl rfl (Nat.le_of_ble_eq_true rfl) dM_bring_107 ⟨Nat.le_of_ble_eq_true rfl, Nat.le_of_ble_eq_true rfl⟩ ⟨Nat.zero_le _, Nat.zero_le _⟩) (fun r2 τ3 H locs hp hE _ _ => ?_)
      refine w_top (y := bhF σ q e9) (hp.1.trans bhF_mhc) ?_
      have hE := wS_eq hp.2 hE
      refine lv_aload_n hx hb dM_bring_110 rfl (lv_at hl 0 rfl) ?_
      refine w_get C hk hE (K := R_M) (T := F_M) (N := 17) (ci := 6) in_M 0 (Nat.le_of_ble_eq_true rfl) rfl rfl 4 (by decide) tw_586 rfl rfl dM_bring_111 ?_
      refine lv_iload_n hx hb dM_bring_114 rfl (lv_at hl 2 rfl) ?_
      refine w_iald C hk hE 1 (by exact Nat.le_of_ble_eq_true rfl) (n := 8) rfl (by omega) (by first | decide | omega) dM_bring_115 ?_
      refine w_top (y := σ 1 p9) (by simp [mset, mrow, upd, mhc]) ?_
      refine lv_icmp_ne (tgt := 153) hx hb dM_bring_116 (by decide) (fun c4 => ?_) (fun c4 => ?_)
      · exact K  _ _ ls (wS_eq (show mhc σ (coH k q e9 o9 x w) = mhc σ (if bhF σ q e9 = σ 1 p9 then coH k q e9 o9 x (o9 + 1) else x) by first | rw [if_pos (hc9.resolve_left (by omega)), show o9 + 1 = w by omega] | rw [hc9.resolve_right (by assumption), if_neg (by assumption), coH]) hE) (lv_sub hl [0, 1, 2, 3, 4, 5, 6, 7] rfl)
      · refine lv_aload_n hx hb dM_bring_119 rfl (lv_at hl 0 rfl) ?_
        refine lv_iload hx hb dM_bring_120 (lv_at hl 4 rfl) ?_
        refine lv_iload hx hb dM_bring_122 (lv_at hl 6 rfl) ?_
        refine lv_iload hx hb dM_bring_124 (lv_at hl 7 rfl) ?_
        refine lv_iload hx hb dM_bring_126 (lv_at hl 8 rfl) ?_
        refine w_ci hE hA (w_runV C hk hE hl.1 (As := [.int (nI o9), .int (nI q), .int (nI e9), .int (nI w)]) (rest := []) (q := 0) (c_M_isIn l D cs ad (mhc σ (coH k q e9 o9 x w)) o9 q e9 w (by omega) (by omega) (by omega) (by omega) (by rw [mhc_5]; exact (((ok_coH (x := x) hg hk9 hq he hok w (by omega)).1 hvx).1).1 _) _) (Nat.le_of_ble_eq_true rfl) (ci := 6) (N := 17) (T := F_M) rfl rfl tw_667 tw_669 ts_23 tw_9 tw_670 (n := 4) (by decide +kernel) rfl rfl (Nat.le_of_ble_eq_true rfl) dM_bring_128 ⟨Nat.le_of_ble_eq_true rfl, Nat.le_of_ble_eq_true rfl⟩ ⟨Nat.zero_le _, Nat.zero_le _⟩) (fun r5 τ6 H locs hp hE _ _ => ?_)
        refine w_top (y := (coH k q e9 o9 x w).1 (ix o9 q e9 w)) (hp.1.trans (by rw [mhc_5])) ?_
        have hE := wS_eq hp.2 hE
        refine lv_if_eq (tgt := 147) hx hb dM_bring_131 (by decide) (fun c7 => ?_) (fun c7 => ?_)
        · refine lv_iinc (v := nI (w + 1)) (lv' := [(8, .int (nI (w + 1))), (0, .ref (ad 0)), (1, .int (nI k)), (2, .int (nI p9)), (3, .int (nI d9)), (4, .int (nI o9)), (5, .int (bhF σ p9 d9)), (6, .int (nI q)), (7, .int (nI e9))]) hx hb dM_bring_147 hl (k := 8) rfl (by exact nI_1 _) (by decide) rfl (fun ls hl => ?_)
          refine lv_goto (tgt := 95) hx hb dM_bring_150 (by decide) ?_
          exact ih (w + 1) (by omega) (by omega) (Or.inr c4) _ _ ls (wS_eq (show mhc σ (coH k q e9 o9 x w) = mhc σ (coH k q e9 o9 x (w + 1)) by simp only [coH, c7, if_true, if_false]) hE) (lv_sub hl [1, 2, 3, 4, 5, 6, 7, 8, 0] rfl)
        · refine lv_aload_n hx hb dM_bring_134 rfl (lv_at hl 0 rfl) ?_
          refine lv_iload_n hx hb dM_bring_135 rfl (lv_at hl 1 rfl) ?_
          refine lv_iload hx hb dM_bring_136 (lv_at hl 6 rfl) ?_
          refine lv_iload hx hb dM_bring_138 (lv_at hl 7 rfl) ?_
          refine lv_iconst (v := nI 1) hx hb dM_bring_140 (by decide) ?_
          refine lv_iadd hx hb dM_bring_141 ?_
          refine w_top (y := nI (e9 + 1)) (by first | exact nI_add _ _ | simp only [nI_add, Nat.add_assoc, Nat.add_zero, Nat.zero_add]) ?_
          refine lv_iload hx hb dM_bring_142 (lv_at hl 8 rfl) ?_
          refine w_cv hE hA (w_runV C hk hE hl.1 (As := [.int (nI k), .int (nI q), .int (nI (e9 + 1)), .int (nI w)]) (rest := []) (q := 0) (c_M_put l D cs ad (mhc σ (coH k q e9 o9 x w)) k q (e9 + 1) w (hk9) (by omega) (by omega) (by omega) _) (Nat.le_of_ble_eq_true rfl) (ci := 6) (N := 17) (T := F_M) rfl rfl tw_659 tw_661 ts_21 tw_9 tw_662 (n := 4) (by decide +kernel) rfl rfl (Nat.le_of_ble_eq_true rfl) dM_bring_144 ⟨Nat.le_of_ble_eq_true rfl, Nat.le_of_ble_eq_true rfl⟩ ⟨Nat.zero_le _, Nat.zero_le _⟩) (fun τ9 H locs hp hE _ _ => ?_)
          have hE : wS (wM D cs ad) A s.heap (mhc σ (putH (coH k q e9 o9 x w) (ix k q (e9 + 1) w))) H locs := wS_eq (hp.trans (by rw [mhc_mhc, mhc_5, mhc_10])) hE
          refine lv_iinc (v := nI (w + 1)) (lv' := [(8, .int (nI (w + 1))), (0, .ref (ad 0)), (1, .int (nI k)), (2, .int (nI p9)), (3, .int (nI d9)), (4, .int (nI o9)), (5, .int (bhF σ p9 d9)), (6, .int (nI q)), (7, .int (nI e9))]) hx hb dM_bring_147 hl (k := 8) rfl (by exact nI_1 _) (by decide) rfl (fun ls hl => ?_)
          refine lv_goto (tgt := 95) hx hb dM_bring_150 (by decide) ?_
          exact ih (w + 1) (by omega) (by omega) (Or.inr c4) _ _ ls (wS_eq (show mhc σ (putH (coH k q e9 o9 x w) (ix k q (e9 + 1) w)) = mhc σ (coH k q e9 o9 x (w + 1)) by simp only [coH, c7, if_true, if_false]) hE) (lv_sub hl [1, 2, 3, 4, 5, 6, 7, 8, 0] rfl)
set_option maxHeartbeats 4000000 in
set_option maxRecDepth 100000 in
theorem lp_M_br3 {p : Program} {l : Launch} {e : Env} {s : State} {m : MethodId} {below : List Frame} {meth : Method} {c : Code} {D : va_G} {cs : Nat → ClassId} {ad : Nat → Nat} {A : Nat → Prop} {Q : State → Prop} {σ : Mem} {P k p9 d9 o9 : Nat} (C : bC p s m ([.ref (ad 0), .int (nI k), .int (nI p9), .int (nI d9), .int (nI o9)] : List Value).toArray meth c bM_bring 9 "EarleyChartModel" none) (hk : wk D cs s) (hA : ∀ q : Nat, s.heap.size ≤ q → A q) (hg : mG σ P) (hk9 : k < 9) (hpP : p9 < P) (hd5 : d9 < 5) (hok : o9 ≤ k) (hvb : vH σ P k (σ 5, σ 0 10)) (q : Nat) (x : HC) (hq : q < P) (hvx : vH σ P k x) (K : ∀ (H : Heap) (locs : List Loc) (ls : Array Slot), wS (wM D cs ad) A s.heap (mhc σ (cdH σ k p9 q o9 x (mn σ q))) H locs → lv_has ls 9 [(0, .ref (ad 0)), (1, .int (nI k)), (2, .int (nI p9)), (3, .int (nI d9)), (4, .int (nI o9)), (5, .int (bhF σ p9 d9)), (6, .int (nI q))] → W p l e (rmF 1 25) s m ([.ref (ad 0), .int (nI k), .int (nI p9), .int (nI d9), .int (nI o9)] : List Value).toArray below meth c H locs 0 0 Q (F0 m 159 ls [])) :
    ∀ (n : Nat) (e9 : Nat), (mn σ q - e9) < n → (e9 ≤ mn σ q) → ∀ (H : Heap) (locs : List Loc) (ls : Array Slot), wS (wM D cs ad) A s.heap (mhc σ (cdH σ k p9 q o9 x e9)) H locs → lv_has ls 9 [(0, .ref (ad 0)), (1, .int (nI k)), (2, .int (nI p9)), (3, .int (nI d9)), (4, .int (nI o9)), (5, .int (bhF σ p9 d9)), (6, .int (nI q)), (7, .int (nI e9))] → W p l e (rmF 1 25) s m ([.ref (ad 0), .int (nI k), .int (nI p9), .int (nI d9), .int (nI o9)] : List Value).toArray below meth c H locs 0 0 Q (F0 m 80 ls []) := by
  obtain ⟨hx, hb, hml, hown, hts, hr, hlocks⟩ := id C
  have hP8 := hg.1
  have hb9 : vH σ P k (σ 5, σ 0 10) := hvb
  intro n
  induction n with
  | zero => intro e9 h; exact absurd h (Nat.not_lt_zero _)
  | succ n ih =>
    intro e9 hn he9 H locs ls hE hl
    have hmq := mG_m hg hq
    refine lv_iload hx hb dM_bring_80 (lv_at hl 7 rfl) ?_
    refine lv_aload_n hx hb dM_bring_82 rfl (lv_at hl 0 rfl) ?_
    refine w_get C hk hE (K := R_M) (T := F_M) (N := 17) (ci := 6) in_M 0 (Nat.le_of_ble_eq_true rfl) rfl rfl 5 (by decide) tw_587 rfl rfl dM_bring_83 ?_
    refine lv_iload hx hb dM_bring_86 (lv_at hl 6 rfl) ?_
    refine w_iald C hk hE 2 (by exact Nat.le_of_ble_eq_true rfl) (n := 8) rfl (by omega) (by first | decide | omega) dM_bring_88 ?_
    refine w_top (y := σ 2 q) (by simp [mset, mrow, upd, mhc]) ?_
    refine w_top (y := nI (mn σ q)) ((hg.2.2 q (by omega)).2.2.1) ?_
    refine lv_icmp_ge (tgt := 159) hx hb dM_bring_89 (by decide) (fun c1 => ?_) (fun c1 => ?_)
    · have c1 : (mn σ q) ≤ e9 := (nI_leI (by omega) (by omega)).mp c1
      exact K  _ _ ls (wS_eq (show mhc σ (cdH σ k p9 q o9 x e9) = mhc σ (cdH σ k p9 q o9 x (mn σ q)) by rw [show mn σ q = e9 by omega]) hE) (lv_sub hl [0, 1, 2, 3, 4, 5, 6] rfl)
    · have c1 : ¬ ((mn σ q) ≤ e9) := fun h => c1 ((nI_leI (by omega) (by omega)).mpr h)
      refine lv_iconst (v := nI 0) hx hb dM_bring_92 (by decide) ?_
      refine lv_istore (lv' := [(8, .int (nI 0)), (0, .ref (ad 0)), (1, .int (nI k)), (2, .int (nI p9)), (3, .int (nI d9)), (4, .int (nI o9)), (5, .int (bhF σ p9 d9)), (6, .int (nI q)), (7, .int (nI e9))]) hx hb dM_bring_93 hl (by decide) rfl (fun ls hl => ?_)
      refine lp_M_br4 C hk hA hg hk9 hpP hd5 hok hvb q e9 (cdH σ k p9 q o9 x e9) (hq) (by omega) ((ok_cdH (x := x) hg hk9 hq hok e9 (by omega)).1 hvx) (fun H locs ls hE hl => ?_) _ 0 (Nat.lt_succ_self _) (Nat.zero_le _) (Or.inl rfl) _ _ ls (wS_eq (show mhc σ (cdH σ k p9 q o9 x e9) = mhc σ (coH k q e9 o9 (cdH σ k p9 q o9 x e9) 0) by rfl) hE) (lv_sub hl [1, 2, 3, 4, 5, 6, 7, 8, 0] rfl)
      refine lv_iinc (v := nI (e9 + 1)) (lv' := [(7, .int (nI (e9 + 1))), (0, .ref (ad 0)), (1, .int (nI k)), (2, .int (nI p9)), (3, .int (nI d9)), (4, .int (nI o9)), (5, .int (bhF σ p9 d9)), (6, .int (nI q))]) hx hb dM_bring_153 hl (k := 7) rfl (by exact nI_1 _) (by decide) rfl (fun ls hl => ?_)
      refine lv_goto (tgt := 80) hx hb dM_bring_156 (by decide) ?_
      exact ih (e9 + 1) (by omega) (by omega) _ _ ls (wS_eq (show mhc σ (if bhF σ q e9 = σ 1 p9 then coH k q e9 o9 (cdH σ k p9 q o9 x e9) (o9 + 1) else (cdH σ k p9 q o9 x e9)) = mhc σ (cdH σ k p9 q o9 x (e9 + 1)) by rfl) hE) (lv_sub hl [1, 2, 3, 4, 5, 6, 7, 0] rfl)
set_option maxHeartbeats 4000000 in
set_option maxRecDepth 100000 in
theorem lp_M_br2 {p : Program} {l : Launch} {e : Env} {s : State} {m : MethodId} {below : List Frame} {meth : Method} {c : Code} {D : va_G} {cs : Nat → ClassId} {ad : Nat → Nat} {A : Nat → Prop} {σ : Mem} {P k p9 d9 o9 : Nat} (C : bC p s m ([.ref (ad 0), .int (nI k), .int (nI p9), .int (nI d9), .int (nI o9)] : List Value).toArray meth c bM_bring 9 "EarleyChartModel" none) (hk : wk D cs s) (hA : ∀ q : Nat, s.heap.size ≤ q → A q) (hg : mG σ P) (hk9 : k < 9) (hpP : p9 < P) (hd5 : d9 < 5) (hok : o9 ≤ k) (hvb : vH σ P k (σ 5, σ 0 10))   :
    ∀ (n : Nat) (q : Nat), (P - q) < n → (q ≤ P) → (bhF σ p9 d9 < 0) → ∀ (H : Heap) (locs : List Loc) (ls : Array Slot), wS (wM D cs ad) A s.heap (mhc σ (cqH σ k p9 o9 (σ 5, σ 0 10) q)) H locs → lv_has ls 9 [(0, .ref (ad 0)), (1, .int (nI k)), (2, .int (nI p9)), (3, .int (nI d9)), (4, .int (nI o9)), (5, .int (bhF σ p9 d9)), (6, .int (nI q))] → W p l e (rmF 1 25) s m ([.ref (ad 0), .int (nI k), .int (nI p9), .int (nI d9), .int (nI o9)] : List Value).toArray below meth c H locs 0 0 (wQv (wM D cs ad) A (fun τ => τ = mhc σ (brH σ P k p9 d9 o9 (σ 5, σ 0 10))) s below ([.ref (ad 0), .int (nI k), .int (nI p9), .int (nI d9), .int (nI o9)] : List Value).toArray) (F0 m 68 ls []) := by
  obtain ⟨hx, hb, hml, hown, hts, hr, hlocks⟩ := id C
  have hP8 := hg.1
  have hb9 : vH σ P k (σ 5, σ 0 10) := hvb
  intro n
  induction n with
  | zero => intro q h; exact absurd h (Nat.not_lt_zero _)
  | succ n ih =>
    intro q hn hq9 h65 H locs ls hE hl
    refine lv_iload hx hb dM_bring_68 (lv_at hl 6 rfl) ?_
    refine lv_aload_n hx hb dM_bring_70 rfl (lv_at hl 0 rfl) ?_
    refine w_get C hk hE (K := R_M) (T := F_M) (N := 17) (ci := 6) in_M 0 (Nat.le_of_ble_eq_true rfl) rfl rfl 3 (by decide) tw_585 rfl rfl dM_bring_71 ?_
    refine w_top (y := σ 0 3) (by simp [mset, mrow, upd, mhc]) ?_
    refine w_top (y := nI P) (hg.2.1) ?_
    refine lv_icmp_ge (tgt := 165) hx hb dM_bring_74 (by decide) (fun c1 => ?_) (fun c1 => ?_)
    · have c1 : P ≤ q := (nI_leI (by omega) (by omega)).mp c1
      exact w_retv C hE (by rw [brH, if_pos h65, show P = q by omega]) dM_bring_165
    · have c1 : ¬ (P ≤ q) := fun h => c1 ((nI_leI (by omega) (by omega)).mpr h)
      refine lv_iconst (v := nI 0) hx hb dM_bring_77 (by decide) ?_
      refine lv_istore (lv' := [(7, .int (nI 0)), (0, .ref (ad 0)), (1, .int (nI k)), (2, .int (nI p9)), (3, .int (nI d9)), (4, .int (nI o9)), (5, .int (bhF σ p9 d9)), (6, .int (nI q))]) hx hb dM_bring_78 hl (by decide) rfl (fun ls hl => ?_)
      refine lp_M_br3 C hk hA hg hk9 hpP hd5 hok hvb q (cqH σ k p9 o9 (σ 5, σ 0 10) q) (by omega) ((ok_cqH (x := (σ 5, σ 0 10)) hg hk9 hok q (by omega)).1 hb9) (fun H locs ls hE hl => ?_) _ 0 (Nat.lt_succ_self _) (Nat.zero_le _) _ _ ls (wS_eq (show mhc σ (cqH σ k p9 o9 (σ 5, σ 0 10) q) = mhc σ (cdH σ k p9 q o9 (cqH σ k p9 o9 (σ 5, σ 0 10) q) 0) by rfl) hE) (lv_sub hl [1, 2, 3, 4, 5, 6, 7, 0] rfl)
      refine lv_iinc (v := nI (q + 1)) (lv' := [(6, .int (nI (q + 1))), (0, .ref (ad 0)), (1, .int (nI k)), (2, .int (nI p9)), (3, .int (nI d9)), (4, .int (nI o9)), (5, .int (bhF σ p9 d9))]) hx hb dM_bring_159 hl (k := 6) rfl (by exact nI_1 _) (by decide) rfl (fun ls hl => ?_)
      refine lv_goto (tgt := 68) hx hb dM_bring_162 (by decide) ?_
      exact ih (q + 1) (by omega) (by omega) (h65) _ _ ls (wS_eq (show mhc σ (cdH σ k p9 q o9 (cqH σ k p9 o9 (σ 5, σ 0 10) q) (mn σ q)) = mhc σ (cqH σ k p9 o9 (σ 5, σ 0 10) (q + 1)) by rfl) hE) (lv_sub hl [1, 2, 3, 4, 5, 6, 0] rfl)
set_option maxHeartbeats 4000000 in
set_option maxRecDepth 100000 in
theorem lp_M_br1 {p : Program} {l : Launch} {e : Env} {s : State} {m : MethodId} {below : List Frame} {meth : Method} {c : Code} {D : va_G} {cs : Nat → ClassId} {ad : Nat → Nat} {A : Nat → Prop} {Q : State → Prop} {σ : Mem} {P k p9 d9 o9 : Nat} (C : bC p s m ([.ref (ad 0), .int (nI k), .int (nI p9), .int (nI d9), .int (nI o9)] : List Value).toArray meth c bM_bring 9 "EarleyChartModel" none) (hk : wk D cs s) (hA : ∀ q : Nat, s.heap.size ≤ q → A q) (hg : mG σ P) (hk9 : k < 9) (hpP : p9 < P) (hd5 : d9 < 5) (hok : o9 ≤ k) (hvb : vH σ P k (σ 5, σ 0 10))   (K : ∀ (H : Heap) (locs : List Loc) (ls : Array Slot), wS (wM D cs ad) A s.heap (mhc σ (prH σ k (bhF σ p9 d9) (σ 5, σ 0 10) P)) H locs → lv_has ls 9 [(0, .ref (ad 0)), (1, .int (nI k)), (2, .int (nI p9)), (3, .int (nI d9)), (4, .int (nI o9)), (5, .int (bhF σ p9 d9))] → W p l e (rmF 1 25) s m ([.ref (ad 0), .int (nI k), .int (nI p9), .int (nI d9), .int (nI o9)] : List Value).toArray below meth c H locs 0 0 Q (F0 m 59 ls [])) :
    ∀ (n : Nat) (q : Nat), (P - q) < n → (q ≤ P) → ∀ (H : Heap) (locs : List Loc) (ls : Array Slot), wS (wM D cs ad) A s.heap (mhc σ (prH σ k (bhF σ p9 d9) (σ 5, σ 0 10) q)) H locs → lv_has ls 9 [(0, .ref (ad 0)), (1, .int (nI k)), (2, .int (nI p9)), (3, .int (nI d9)), (4, .int (nI o9)), (5, .int (bhF σ p9 d9)), (6, .int (nI q))] → W p l e (rmF 1 25) s m ([.ref (ad 0), .int (nI k), .int (nI p9), .int (nI d9), .int (nI o9)] : List Value).toArray below meth c H locs 0 0 Q (F0 m 23 ls []) := by
  obtain ⟨hx, hb, hml, hown, hts, hr, hlocks⟩ := id C
  have hP8 := hg.1
  have hb9 : vH σ P k (σ 5, σ 0 10) := hvb
  intro n
  induction n with
  | zero => intro q h; exact absurd h (Nat.not_lt_zero _)
  | succ n ih =>
    intro q hn hq9 H locs ls hE hl
    refine lv_iload hx hb dM_bring_23 (lv_at hl 6 rfl) ?_
    refine lv_aload_n hx hb dM_bring_25 rfl (lv_at hl 0 rfl) ?_
    refine w_get C hk hE (K := R_M) (T := F_M) (N := 17) (ci := 6) in_M 0 (Nat.le_of_ble_eq_true rfl) rfl rfl 3 (by decide) tw_585 rfl rfl dM_bring_26 ?_
    refine w_top (y := σ 0 3) (by simp [mset, mrow, upd, mhc]) ?_
    refine w_top (y := nI P) (hg.2.1) ?_
    refine lv_icmp_ge (tgt := 59) hx hb dM_bring_29 (by decide) (fun c1 => ?_) (fun c1 => ?_)
    · have c1 : P ≤ q := (nI_leI (by omega) (by omega)).mp c1
      exact K  _ _ ls (wS_eq (show mhc σ (prH σ k (bhF σ p9 d9) (σ 5, σ 0 10) q) = mhc σ (prH σ k (bhF σ p9 d9) (σ 5, σ 0 10) P) by rw [show P = q by omega]) hE) (lv_sub hl [0, 1, 2, 3, 4, 5] rfl)
    · have c1 : ¬ (P ≤ q) := fun h => c1 ((nI_leI (by omega) (by omega)).mpr h)
      refine lv_aload_n hx hb dM_bring_32 rfl (lv_at hl 0 rfl) ?_
      refine w_get C hk hE (K := R_M) (T := F_M) (N := 17) (ci := 6) in_M 0 (Nat.le_of_ble_eq_true rfl) rfl rfl 4 (by decide) tw_586 rfl rfl dM_bring_33 ?_
      refine lv_iload hx hb dM_bring_36 (lv_at hl 6 rfl) ?_
      refine w_iald C hk hE 1 (by exact Nat.le_of_ble_eq_true rfl) (n := 8) rfl (by omega) (by first | decide | omega) dM_bring_38 ?_
      refine w_top (y := σ 1 q) (by simp [mset, mrow, upd, mhc]) ?_
      refine lv_iload hx hb dM_bring_39 (lv_at hl 5 rfl) ?_
      refine lv_icmp_ne (tgt := 53) hx hb dM_bring_41 (by decide) (fun c2 => ?_) (fun c2 => ?_)
      · refine lv_iinc (v := nI (q + 1)) (lv' := [(6, .int (nI (q + 1))), (0, .ref (ad 0)), (1, .int (nI k)), (2, .int (nI p9)), (3, .int (nI d9)), (4, .int (nI o9)), (5, .int (bhF σ p9 d9))]) hx hb dM_bring_53 hl (k := 6) rfl (by exact nI_1 _) (by decide) rfl (fun ls hl => ?_)
        refine lv_goto (tgt := 23) hx hb dM_bring_56 (by decide) ?_
        exact ih (q + 1) (by omega) (by omega) _ _ ls (wS_eq (show mhc σ (prH σ k (bhF σ p9 d9) (σ 5, σ 0 10) q) = mhc σ (prH σ k (bhF σ p9 d9) (σ 5, σ 0 10) (q + 1)) by simp only [prH, c2, if_true, if_false]) hE) (lv_sub hl [1, 2, 3, 4, 5, 6, 0] rfl)
      · refine lv_aload_n hx hb dM_bring_44 rfl (lv_at hl 0 rfl) ?_
        refine lv_iload_n hx hb dM_bring_45 rfl (lv_at hl 1 rfl) ?_
        refine lv_iload hx hb dM_bring_46 (lv_at hl 6 rfl) ?_
        refine lv_iconst (v := nI 0) hx hb dM_bring_48 (by decide) ?_
        refine lv_iload_n hx hb dM_bring_49 rfl (lv_at hl 1 rfl) ?_
        refine w_cv hE hA (w_runV C hk hE hl.1 (As := [.int (nI k), .int (nI q), .int (nI 0), .int (nI k)]) (rest := []) (q := 0) (c_M_put l D cs ad (mhc σ (prH σ k (bhF σ p9 d9) (σ 5, σ 0 10) q)) k q 0 k (hk9) (by omega) (by decide) (hk9) _) (Nat.le_of_ble_eq_true rfl) (ci := 6) (N := 17) (T := F_M) rfl rfl tw_659 tw_661 ts_21 tw_9 tw_662 (n := 4) (by decide +kernel) rfl rfl (Nat.le_of_ble_eq_true rfl) dM_bring_50 ⟨Nat.le_of_ble_eq_true rfl, Nat.le_of_ble_eq_true rfl⟩ ⟨Nat.zero_le _, Nat.zero_le _⟩) (fun τ4 H locs hp hE _ _ => ?_)
        have hE : wS (wM D cs ad) A s.heap (mhc σ (putH (prH σ k (bhF σ p9 d9) (σ 5, σ 0 10) q) (ix k q 0 k))) H locs := wS_eq (hp.trans (by rw [mhc_mhc, mhc_5, mhc_10])) hE
        refine lv_iinc (v := nI (q + 1)) (lv' := [(6, .int (nI (q + 1))), (0, .ref (ad 0)), (1, .int (nI k)), (2, .int (nI p9)), (3, .int (nI d9)), (4, .int (nI o9)), (5, .int (bhF σ p9 d9))]) hx hb dM_bring_53 hl (k := 6) rfl (by exact nI_1 _) (by decide) rfl (fun ls hl => ?_)
        refine lv_goto (tgt := 23) hx hb dM_bring_56 (by decide) ?_
        exact ih (q + 1) (by omega) (by omega) _ _ ls (wS_eq (show mhc σ (putH (prH σ k (bhF σ p9 d9) (σ 5, σ 0 10) q) (ix k q 0 k)) = mhc σ (prH σ k (bhF σ p9 d9) (σ 5, σ 0 10) (q + 1)) by simp only [prH, c2, if_true, if_false]) hE) (lv_sub hl [1, 2, 3, 4, 5, 6, 0] rfl)
set_option maxHeartbeats 4000000 in
set_option maxRecDepth 100000 in
theorem c_M_bring (l : Launch) (D : va_G) (cs : Nat → ClassId) (ad : Nat → Nat) (σ : Mem) (P k p9 d9 o9 : Nat) (hg : mG σ P) (hk9 : k < 9) (hpP : p9 < P) (hd5 : d9 < 5) (hok : o9 ≤ k) (hvb : vH σ P k (σ 5, σ 0 10)) : MetV l (wM D cs ad) cs yM_bring bM_bring 9 1 25 [.ref (ad 0), .int (nI k), .int (nI p9), .int (nI d9), .int (nI o9)] σ (fun τ => τ = mhc σ (brH σ P k p9 d9 o9 (σ 5, σ 0 10))) := by
  refine MetV.start (by decide) (Nat.le_of_ble_eq_true rfl) ?_
  intro p e s m below meth c A ls C hk hA hE hl
  obtain ⟨hx, hb, hml, hown, hts, hr, hlocks⟩ := id C
  have hl : lv_has ls 9 [(0, .ref (ad 0)), (1, .int (nI k)), (2, .int (nI p9)), (3, .int (nI d9)), (4, .int (nI o9))] := hl
  have hP8 := hg.1
  have hb9 : vH σ P k (σ 5, σ 0 10) := hvb
  refine lv_aload_n hx hb dM_bring_0 rfl (lv_at hl 0 rfl) ?_
  refine lv_iload_n hx hb dM_bring_1 rfl (lv_at hl 2 rfl) ?_
  refine lv_iload_n hx hb dM_bring_2 rfl (lv_at hl 3 rfl) ?_
  refine w_ci hE hA (w_runV C hk hE hl.1 (As := [.int (nI p9), .int (nI d9)]) (rest := []) (q := 0) (c_M_behind l D cs ad σ P p9 d9 hg hpP (by omega) _) (Nat.le_of_ble_eq_true rfl) (ci := 6) (N := 17) (T := F_M) rfl rfl tw_663 tw_665 ts_22 tw_9 tw_666 (n := 2) (by decide +kernel) rfl rfl (Nat.le_of_ble_eq_true rfl) dM_bring_3 ⟨Nat.le_of_ble_eq_true rfl, Nat.le_of_ble_eq_true rfl⟩ ⟨Nat.zero_le _, Nat.zero_le _⟩) (fun r1 τ2 H locs hp hE _ _ => ?_)
  refine w_top hp.1 ?_
  have hE := wS_eq hp.2 hE
  refine lv_istore (lv' := [(5, .int (bhF σ p9 d9)), (0, .ref (ad 0)), (1, .int (nI k)), (2, .int (nI p9)), (3, .int (nI d9)), (4, .int (nI o9))]) hx hb dM_bring_6 hl (by decide) rfl (fun ls hl => ?_)
  refine lv_iload hx hb dM_bring_8 (lv_at hl 0 rfl) ?_
  refine lv_if_lt (tgt := 59) hx hb dM_bring_10 (by decide) (fun c3 => ?_) (fun c3 => ?_)
  · have h65 := c3
    refine lv_iload hx hb dM_bring_59 (lv_at hl 0 rfl) ?_
    refine lv_if_lt (tgt := 65) hx hb dM_bring_61 (by decide) (fun c4 => ?_) (fun c4 => ?_)
    · refine lv_iconst (v := nI 0) hx hb dM_bring_65 (by decide) ?_
      refine lv_istore (lv' := [(6, .int (nI 0)), (5, .int (bhF σ p9 d9)), (0, .ref (ad 0)), (1, .int (nI k)), (2, .int (nI p9)), (3, .int (nI d9)), (4, .int (nI o9))]) hx hb dM_bring_66 hl (by decide) rfl (fun ls hl => ?_)
      exact lp_M_br2 C hk hA hg hk9 hpP hd5 hok hvb _ 0 (Nat.lt_succ_self _) (Nat.zero_le _) (h65) _ _ ls (wS_eq (show σ = mhc σ (cqH σ k p9 o9 (σ 5, σ 0 10) 0) by rw [cqH, mhc_id]) hE) (lv_sub hl [2, 3, 4, 5, 6, 1, 0] rfl)
    · exact absurd h65 c4
  · have h59 := c3
    refine lv_iload hx hb dM_bring_13 (lv_at hl 0 rfl) ?_
    refine lv_bipush (v := nI 100) hx hb dM_bring_15 (by decide) ?_
    refine lv_icmp_ge (tgt := 59) hx hb dM_bring_17 (by decide) (fun c5 => ?_) (fun c5 => ?_)
    · have h59c := c5
      refine lv_iload hx hb dM_bring_59 (lv_at hl 0 rfl) ?_
      refine lv_if_lt (tgt := 65) hx hb dM_bring_61 (by decide) (fun c6 => ?_) (fun c6 => ?_)
      · exact absurd c6 h59
      · exact w_retv C hE (by first | (rw [brH, if_neg h59, if_neg h59b]; done) | (rw [brH, if_neg h59, if_pos h59c, mhc_id]; done)) dM_bring_64
    · have h59b := c5
      refine lv_iconst (v := nI 0) hx hb dM_bring_20 (by decide) ?_
      refine lv_istore (lv' := [(6, .int (nI 0)), (5, .int (bhF σ p9 d9)), (0, .ref (ad 0)), (1, .int (nI k)), (2, .int (nI p9)), (3, .int (nI d9)), (4, .int (nI o9))]) hx hb dM_bring_21 hl (by decide) rfl (fun ls hl => ?_)
      refine lp_M_br1 C hk hA hg hk9 hpP hd5 hok hvb   (fun H locs ls hE hl => ?_) _ 0 (Nat.lt_succ_self _) (Nat.zero_le _) _ _ ls (wS_eq (show σ = mhc σ (prH σ k (bhF σ p9 d9) (σ 5, σ 0 10) 0) by rw [prH, mhc_id]) hE) (lv_sub hl [2, 3, 4, 5, 6, 1, 0] rfl)
      refine lv_iload hx hb dM_bring_59 (lv_at hl 5 rfl) ?_
      refine lv_if_lt (tgt := 65) hx hb dM_bring_61 (by decide) (fun c7 => ?_) (fun c7 => ?_)
      · exact absurd c7 h59
      · exact w_retv C hE (by first | (rw [brH, if_neg h59, if_neg h59b]; done) | (rw [brH, if_neg h59, if_pos h59c, mhc_id]; done)) dM_bring_64
