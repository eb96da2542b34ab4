set_option maxHeartbeats 4000000 in
set_option maxRecDepth 100000 in
theorem lp_M_fi6 {p : Program} {l : Launch} {e : Env} {s : State} {m : MethodId} {below : List Frame} {meth : Method} {c : Code} {D : va_G} {cs : Nat → ClassId} {ad : Nat → Nat} {A : Nat → Prop} {Q : State → Prop} {σ : Mem} {P k : Nat} (C : bC p s m ([.ref (ad 0), .int (nI k)] : List Value).toArray meth c bM_fill 5 "EarleyChartModel" none) (hk : wk D cs s) (hA : ∀ q : Nat, s.heap.size ≤ q → A q) (hg : mG σ P) (hk9 : k < 9) (hvb : bH (σ 5, σ 0 10)) (x : HC) (hvx : vH σ P k x) (K : ∀ (H : Heap) (locs : List Loc) (ls : Array Slot), wS (wM D cs ad) A s.heap (mhc σ (swH σ P k x 360)) H locs → lv_has ls 5 [(0, .ref (ad 0)), (1, .int (nI k))] → W p l e (rmF 2 53) s m ([.ref (ad 0), .int (nI k)] : List Value).toArray below meth c H locs 0 0 Q (F0 m 210 ls [])) :
    ∀ (n : Nat) (i : Nat), (360 - i) < n → (i ≤ 360) → ∀ (H : Heap) (locs : List Loc) (ls : Array Slot), wS (wM D cs ad) A s.heap (mhc σ (swH σ P k x i)) H locs → lv_has ls 5 [(0, .ref (ad 0)), (1, .int (nI k)), (2, .int (nI i))] → W p l e (rmF 2 53) s m ([.ref (ad 0), .int (nI k)] : List Value).toArray below meth c H locs 0 0 Q (F0 m 163 ls []) := by
  obtain ⟨hx, hb, hml, hown, hts, hr, hlocks⟩ := id C
  have hP8 := hg.1
  intro n
  induction n with
  | zero => intro i h; exact absurd h (Nat.not_lt_zero _)
  | succ n ih =>
    intro i hn hi H locs ls hE hl
    refine lv_iload_n hx hb dM_fill_163 rfl (lv_at hl 2 rfl) ?_
    refine lv_sipush (v := nI 360) hx hb dM_fill_164 (by decide) ?_
    refine lv_icmp_ge (tgt := 210) hx hb dM_fill_167 (by decide) (fun c1 => ?_) (fun c1 => ?_)
    · have c1 : 360 ≤ i := (nI_leI (by omega) (by omega)).mp c1
      exact K  _ _ ls (wS_eq (show mhc σ (swH σ P k x i) = mhc σ (swH σ P k x 360) by rw [show 360 = i by omega]) hE) (lv_sub hl [0, 1] rfl)
    · have c1 : ¬ (360 ≤ i) := fun h => c1 ((nI_leI (by omega) (by omega)).mpr h)
      refine lv_aload_n hx hb dM_fill_170 rfl (lv_at hl 0 rfl) ?_
      refine w_get C hk hE (K := R_M) (T := F_M) (N := 17) (ci := 6) in_M 0 (Nat.le_of_ble_eq_true rfl) rfl rfl 9 (by decide) tw_591 rfl rfl dM_fill_171 ?_
      refine lv_sipush (v := nI 360) hx hb dM_fill_174 (by decide) ?_
      refine lv_iload_n hx hb dM_fill_177 rfl (lv_at hl 1 rfl) ?_
      refine lv_imul hx hb dM_fill_178 ?_
      refine w_top (y := nI (360 * k)) (by exact pk_mul _ _) ?_
      refine lv_iload_n hx hb dM_fill_179 rfl (lv_at hl 2 rfl) ?_
      refine lv_iadd hx hb dM_fill_180 ?_
      refine w_top (y := nI ((360 * k) + i)) (by first | exact nI_add _ _ | simp only [nI_add, Nat.add_assoc, Nat.add_zero, Nat.zero_add]) ?_
      refine w_zald C hk hE 5 (by exact Nat.le_of_ble_eq_true rfl) (n := 3240) rfl (by omega) (by first | decide | omega) dM_fill_181 ?_
      refine w_top (y := (swH σ P k x i).1 ((360 * k) + i)) (by simp [mset, mrow, upd, mhc]) ?_
      refine lv_if_eq (tgt := 204) hx hb dM_fill_182 (by decide) (fun c2 => ?_) (fun c2 => ?_)
      · refine lv_iinc (v := nI (i + 1)) (lv' := [(2, .int (nI (i + 1))), (0, .ref (ad 0)), (1, .int (nI k))]) hx hb dM_fill_204 hl (k := 2) rfl (by exact nI_1 _) (by decide) rfl (fun ls hl => ?_)
        refine lv_goto (tgt := 163) hx hb dM_fill_207 (by decide) ?_
        exact ih (i + 1) (by omega) (by omega) _ _ ls (wS_eq (show mhc σ (swH σ P k x i) = mhc σ (swH σ P k x (i + 1)) by simp only [swH, c2, if_true, if_false]) hE) (lv_sub hl [1, 2, 0] rfl)
      · obtain ⟨g1, g2, g3⟩ := GI_of hg hk9 (by omega) (((ok_swH hg hk9 hvx i (by omega)).1 hvx).2 _ (by omega) (by omega) c2)
        refine lv_aload_n hx hb dM_fill_185 rfl (lv_at hl 0 rfl) ?_
        refine lv_iload_n hx hb dM_fill_186 rfl (lv_at hl 1 rfl) ?_
        refine lv_iload_n hx hb dM_fill_187 rfl (lv_at hl 2 rfl) ?_
        refine lv_bipush (v := nI 45) hx hb dM_fill_188 (by decide) ?_
        refine lv_idiv hx hb dM_fill_190 (by decide) ?_
        refine w_top (y := nI (i / 45)) (by exact pk_div (by omega) (by decide) (by decide)) ?_
        refine lv_iload_n hx hb dM_fill_191 rfl (lv_at hl 2 rfl) ?_
        refine lv_bipush (v := nI 9) hx hb dM_fill_192 (by decide) ?_
        refine lv_idiv hx hb dM_fill_194 (by decide) ?_
        refine w_top (y := nI (i / 9)) (by exact pk_div (by omega) (by decide) (by decide)) ?_
        refine lv_iconst (v := nI 5) hx hb dM_fill_195 (by decide) ?_
        refine lv_irem hx hb dM_fill_196 (by decide) ?_
        refine w_top (y := nI ((i / 9) % 5)) (by exact pk_rem (by omega) (by decide) (by decide)) ?_
        refine lv_iload_n hx hb dM_fill_197 rfl (lv_at hl 2 rfl) ?_
        refine lv_bipush (v := nI 9) hx hb dM_fill_198 (by decide) ?_
        refine lv_irem hx hb dM_fill_200 (by decide) ?_
        refine w_top (y := nI (i % 9)) (by exact pk_rem (by omega) (by decide) (by decide)) ?_
        refine w_cv hE hA (w_runV C hk hE hl.1 (As := [.int (nI k), .int (nI (i / 45)), .int (nI ((i / 9) % 5)), .int (nI (i % 9))]) (rest := []) (q := 0) (c_M_bring l D cs ad (mhc σ (swH σ P k x i)) P k (i / 45) (i / 9 % 5) (i % 9) (mG_mhc hg) hk9 g1 (by omega) g3 (by rw [mhc_5, mhc_10]; exact vH_mhc ((ok_swH hg hk9 hvx i (by omega)).1 hvx)) _) (Nat.le_of_ble_eq_true rfl) (ci := 6) (N := 17) (T := F_M) rfl rfl tw_671 tw_673 ts_24 tw_9 tw_674 (n := 4) (by decide +kernel) rfl rfl (Nat.le_of_ble_eq_true rfl) dM_fill_201 ⟨Nat.le_of_ble_eq_true rfl, Nat.le_of_ble_eq_true rfl⟩ ⟨Nat.zero_le _, Nat.zero_le _⟩) (fun τ4 H locs hp hE _ _ => ?_)
        have hE : wS (wM D cs ad) A s.heap (mhc σ (brH σ P k (i / 45) (i / 9 % 5) (i % 9) (swH σ P k x i))) H locs := wS_eq (hp.trans (by rw [mhc_mhc, mhc_5, mhc_10, brH_mhc])) hE
        refine lv_iinc (v := nI (i + 1)) (lv' := [(2, .int (nI (i + 1))), (0, .ref (ad 0)), (1, .int (nI k))]) hx hb dM_fill_204 hl (k := 2) rfl (by exact nI_1 _) (by decide) rfl (fun ls hl => ?_)
        refine lv_goto (tgt := 163) hx hb dM_fill_207 (by decide) ?_
        exact ih (i + 1) (by omega) (by omega) _ _ ls (wS_eq (show mhc σ (brH σ P k (i / 45) (i / 9 % 5) (i % 9) (swH σ P k x i)) = mhc σ (swH σ P k x (i + 1)) by simp only [swH, c2, if_true, if_false]) hE) (lv_sub hl [1, 2, 0] rfl)
set_option maxHeartbeats 4000000 in
set_option maxRecDepth 100000 in
theorem lp_M_fi5 {p : Program} {l : Launch} {e : Env} {s : State} {m : MethodId} {below : List Frame} {meth : Method} {c : Code} {D : va_G} {cs : Nat → ClassId} {ad : Nat → Nat} {A : Nat → Prop} {σ : Mem} {P k : Nat} (C : bC p s m ([.ref (ad 0), .int (nI k)] : List Value).toArray meth c bM_fill 5 "EarleyChartModel" none) (hk : wk D cs s) (hA : ∀ q : Nat, s.heap.size ≤ q → A q) (hg : mG σ P) (hk9 : k < 9) (hvb : bH (σ 5, σ 0 10))   :
    ∀ (n : Nat) (x : HC), (zeH k x) < n → (vH σ P k x) → (∃ N0, ∀ N, whH σ P k (N0 + N) (flH (spH σ k (clH k (σ 5, σ 0 10) 360) P) (nI 1)) = whH σ P k N x) → ∀ (H : Heap) (locs : List Loc) (ls : Array Slot), wS (wM D cs ad) A s.heap (mhc σ x) H locs → lv_has ls 5 [(0, .ref (ad 0)), (1, .int (nI k))] → W p l e (rmF 2 53) s m ([.ref (ad 0), .int (nI k)] : List Value).toArray below meth c H locs 0 0 (wQv (wM D cs ad) A (filP σ P k) s below ([.ref (ad 0), .int (nI k)] : List Value).toArray) (F0 m 149 ls []) := by
  obtain ⟨hx, hb, hml, hown, hts, hr, hlocks⟩ := id C
  have hP8 := hg.1
  intro n
  induction n with
  | zero => intro x h; exact absurd h (Nat.not_lt_zero _)
  | succ n ih =>
    intro x hn hvx hres H locs ls hE hl
    refine lv_aload_n hx hb dM_fill_149 rfl (lv_at hl 0 rfl) ?_
    refine w_get C hk hE (K := R_M) (T := F_M) (N := 17) (ci := 6) in_M 0 (Nat.le_of_ble_eq_true rfl) rfl rfl 10 (by decide) tw_592 rfl rfl dM_fill_150 ?_
    refine w_top (y := x.2) (by simp [mset, mrow, upd, mhc]) ?_
    refine lv_if_eq (tgt := 213) hx hb dM_fill_153 (by decide) (fun c1 => ?_) (fun c1 => ?_)
    · exact w_retv C hE (wh_exit c1 hres) dM_fill_213
    · refine lv_aload_n hx hb dM_fill_156 rfl (lv_at hl 0 rfl) ?_
      refine lv_iconst (v := nI 0) hx hb dM_fill_157 (by decide) ?_
      refine w_put C hk hE (K := R_M) (T := F_M) (N := 17) (ci := 6) in_M ft_M_ok fn_M 0 (Nat.le_of_ble_eq_true rfl) rfl rfl 10 (by decide) tw_592 rfl rfl (rfl) (rfl) (Nat.le_of_ble_eq_true rfl) rfl dM_fill_158 (fun H locs hE => ?_)
      rw [mset_mhc0] at hE
      refine lv_iconst (v := nI 0) hx hb dM_fill_161 (by decide) ?_
      refine lv_istore_n (lv' := [(2, .int (nI 0)), (0, .ref (ad 0)), (1, .int (nI k))]) hx hb dM_fill_162 rfl hl (by decide) rfl (fun ls hl => ?_)
      refine lp_M_fi6 C hk hA hg hk9 hvb (flH x (nI 0)) (vH_fl hvx (Or.inl rfl)) (fun H locs ls hE hl => ?_) _ 0 (Nat.lt_succ_self _) (by decide) _ _ ls (wS_eq (show mhc σ (flH x (nI 0)) = mhc σ (swH σ P k (flH x (nI 0)) 0) by rfl) hE) (lv_sub hl [1, 2, 0] rfl)
      refine lv_goto (tgt := 149) hx hb dM_fill_210 (by decide) ?_
      exact ih (swH σ P k (flH x (nI 0)) 360) (Nat.lt_of_lt_of_le (zeH_lt c1 (ok_swH hg hk9 (vH_fl hvx (Or.inl rfl)) 360 (Nat.le_refl _))) (Nat.le_of_lt_succ hn)) ((ok_swH hg hk9 (vH_fl hvx (Or.inl rfl)) 360 (Nat.le_refl _)).1 (vH_fl hvx (Or.inl rfl))) (wh_back c1 hres) _ _ ls hE (lv_sub hl [0, 1] rfl)
set_option maxHeartbeats 4000000 in
set_option maxRecDepth 100000 in
theorem lp_M_fi4 {p : Program} {l : Launch} {e : Env} {s : State} {m : MethodId} {below : List Frame} {meth : Method} {c : Code} {D : va_G} {cs : Nat → ClassId} {ad : Nat → Nat} {A : Nat → Prop} {Q : State → Prop} {σ : Mem} {P k : Nat} (C : bC p s m ([.ref (ad 0), .int (nI k)] : List Value).toArray meth c bM_fill 5 "EarleyChartModel" none) (hk : wk D cs s) (hA : ∀ q : Nat, s.heap.size ≤ q → A q) (hg : mG σ P) (hk9 : k < 9) (hvb : bH (σ 5, σ 0 10)) (p9 : Nat) (d9 : Nat) (x : HC) (hpp : p9 < P) (hd : d9 < mn σ p9) (hvx : vH σ P k x) (K : ∀ (H : Heap) (locs : List Loc) (ls : Array Slot), wS (wM D cs ad) A s.heap (mhc σ (if bhF σ p9 d9 = σ 4 k then scH k p9 d9 x k else x)) H locs → lv_has ls 5 [(0, .ref (ad 0)), (1, .int (nI k)), (2, .int (nI p9)), (3, .int (nI d9))] → W p l e (rmF 2 53) s m ([.ref (ad 0), .int (nI k)] : List Value).toArray below meth c H locs 0 0 Q (F0 m 132 ls [])) :
    ∀ (n : Nat) (o : Nat), (k - o) < n → (o ≤ k) → (o = 0 ∨ bhF σ p9 d9 = σ 4 k) → ∀ (H : Heap) (locs : List Loc) (ls : Array Slot), wS (wM D cs ad) A s.heap (mhc σ (scH k p9 d9 x o)) H locs → lv_has ls 5 [(0, .ref (ad 0)), (1, .int (nI k)), (2, .int (nI p9)), (3, .int (nI d9)), (4, .int (nI o))] → W p l e (rmF 2 53) s m ([.ref (ad 0), .int (nI k)] : List Value).toArray below meth c H locs 0 0 Q (F0 m 80 ls []) := by
  obtain ⟨hx, hb, hml, hown, hts, hr, hlocks⟩ := id C
  have hP8 := hg.1
  intro n
  induction n with
  | zero => intro o h; exact absurd h (Nat.not_lt_zero _)
  | succ n ih =>
    intro o hn ho9 hc9 H locs ls hE hl
    have hmq := mG_m hg hpp
    refine lv_iload hx hb dM_fill_80 (lv_at hl 4 rfl) ?_
    refine lv_iload_n hx hb dM_fill_82 rfl (lv_at hl 1 rfl) ?_
    refine lv_icmp_ge (tgt := 132) hx hb dM_fill_83 (by decide) (fun c1 => ?_) (fun c1 => ?_)
    · have c1 : k ≤ o := (nI_leI (by omega) (by omega)).mp c1
      exact K  _ _ ls (wS_eq (show mhc σ (scH k p9 d9 x o) = mhc σ (if bhF σ p9 d9 = σ 4 k then scH k p9 d9 x k else x) by first | (rw [hc9.resolve_right (by assumption), if_neg (by assumption), scH]; done) | (rw [if_pos (hc9.resolve_left (by omega)), show k = o by omega]; done) | (rcases hc9 with h | h; (rw [h, show k = 0 by omega, scH, ite_self]); (rw [if_pos h, show k = o by omega]))) hE) (lv_sub hl [0, 1, 2, 3] rfl)
    · have c1 : ¬ (k ≤ o) := fun h => c1 ((nI_leI (by omega) (by omega)).mpr h)
      refine lv_aload_n hx hb dM_fill_86 rfl (lv_at hl 0 rfl) ?_
      refine lv_iload_n hx hb dM_fill_87 rfl (lv_at hl 2 rfl) ?_
      refine lv_iload_n hx hb dM_fill_88 rfl (lv_at hl 3 rfl) ?_
      refine w_ci hE hA (w_runV C hk hE hl.1 (As := [.int (nI p9), .int (nI d9)]) (rest := []) (q := 0) (c_M_behind l D cs ad (mhc σ (scH k p9 d9 x o)) P p9 d9 (mG_mhc hg) (hpp) (by omega) _) (Nat.le_of_ble_eq_true rfl) (ci := 6) (N := 17) (T := F_M) rfl rfl tw_663 tw_665 ts_22 tw_9 tw_666 (n := 2) (by decide +kernel) rfl rfl (Nat.le_of_ble_eq_true rfl) dM_fill_89 ⟨Nat.le_of_ble_eq_true rfl, Nat.le_of_ble_eq_true rfl⟩ ⟨Nat.zero_le _, Nat.zero_le _⟩) (fun r2 τ3 H locs hp hE _ _ => ?_)
      refine w_top (y := bhF σ p9 d9) (hp.1.trans bhF_mhc) ?_
      have hE := wS_eq hp.2 hE
      refine lv_aload_n hx hb dM_fill_92 rfl (lv_at hl 0 rfl) ?_
      refine w_get C hk hE (K := R_M) (T := F_M) (N := 17) (ci := 6) in_M 0 (Nat.le_of_ble_eq_true rfl) rfl rfl 8 (by decide) tw_590 rfl rfl dM_fill_93 ?_
      refine lv_iload_n hx hb dM_fill_96 rfl (lv_at hl 1 rfl) ?_
      refine w_iald C hk hE 4 (by exact Nat.le_of_ble_eq_true rfl) (n := 9) rfl (by omega) (by first | decide | omega) dM_fill_97 ?_
      refine w_top (y := σ 4 k) (by simp [mset, mrow, upd, mhc]) ?_
      refine lv_icmp_ne (tgt := 132) hx hb dM_fill_98 (by decide) (fun c4 => ?_) (fun c4 => ?_)
      · exact K  _ _ ls (wS_eq (show mhc σ (scH k p9 d9 x o) = mhc σ (if bhF σ p9 d9 = σ 4 k then scH k p9 d9 x k else x) by first | (rw [hc9.resolve_right (by assumption), if_neg (by assumption), scH]; done) | (rw [if_pos (hc9.resolve_left (by omega)), show k = o by omega]; done) | (rcases hc9 with h | h; (rw [h, show k = 0 by omega, scH, ite_self]); (rw [if_pos h, show k = o by omega]))) hE) (lv_sub hl [0, 1, 2, 3] rfl)
      · refine lv_aload_n hx hb dM_fill_101 rfl (lv_at hl 0 rfl) ?_
        refine lv_iload_n hx hb dM_fill_102 rfl (lv_at hl 1 rfl) ?_
        refine lv_iconst (v := nI 1) hx hb dM_fill_103 (by decide) ?_
        refine lv_isub hx hb dM_fill_104 ?_
        refine w_top (y := nI (k - 1)) (w_sub (by omega) (by omega)) ?_
        refine lv_iload_n hx hb dM_fill_105 rfl (lv_at hl 2 rfl) ?_
        refine lv_iload_n hx hb dM_fill_106 rfl (lv_at hl 3 rfl) ?_
        refine lv_iload hx hb dM_fill_107 (lv_at hl 4 rfl) ?_
        refine w_ci hE hA (w_runV C hk hE hl.1 (As := [.int (nI (k - 1)), .int (nI p9), .int (nI d9), .int (nI o)]) (rest := []) (q := 0) (c_M_isIn l D cs ad (mhc σ (scH k p9 d9 x o)) (k - 1) p9 d9 o (by omega) (by omega) (by omega) (by omega) (by rw [mhc_5]; exact (((ok_scH (x := x) hg hk9 hpp hd o (by omega)).1 hvx).1).1 _) _) (Nat.le_of_ble_eq_true rfl) (ci := 6) (N := 17) (T := F_M) rfl rfl tw_667 tw_669 ts_23 tw_9 tw_670 (n := 4) (by decide +kernel) rfl rfl (Nat.le_of_ble_eq_true rfl) dM_fill_109 ⟨Nat.le_of_ble_eq_true rfl, Nat.le_of_ble_eq_true rfl⟩ ⟨Nat.zero_le _, Nat.zero_le _⟩) (fun r5 τ6 H locs hp hE _ _ => ?_)
        refine w_top (y := (scH k p9 d9 x o).1 (ix (k - 1) p9 d9 o)) (hp.1.trans (by rw [mhc_5])) ?_
        have hE := wS_eq hp.2 hE
        refine lv_if_eq (tgt := 126) hx hb dM_fill_112 (by decide) (fun c7 => ?_) (fun c7 => ?_)
        · refine lv_iinc (v := nI (o + 1)) (lv' := [(4, .int (nI (o + 1))), (0, .ref (ad 0)), (1, .int (nI k)), (2, .int (nI p9)), (3, .int (nI d9))]) hx hb dM_fill_126 hl (k := 4) rfl (by exact nI_1 _) (by decide) rfl (fun ls hl => ?_)
          refine lv_goto (tgt := 80) hx hb dM_fill_129 (by decide) ?_
          exact ih (o + 1) (by omega) (by omega) (Or.inr c4) _ _ ls (wS_eq (show mhc σ (scH k p9 d9 x o) = mhc σ (scH k p9 d9 x (o + 1)) by simp only [scH, c7, if_true, if_false]) hE) (lv_sub hl [1, 2, 3, 4, 0] rfl)
        · refine lv_aload_n hx hb dM_fill_115 rfl (lv_at hl 0 rfl) ?_
          refine lv_iload_n hx hb dM_fill_116 rfl (lv_at hl 1 rfl) ?_
          refine lv_iload_n hx hb dM_fill_117 rfl (lv_at hl 2 rfl) ?_
          refine lv_iload_n hx hb dM_fill_118 rfl (lv_at hl 3 rfl) ?_
          refine lv_iconst (v := nI 1) hx hb dM_fill_119 (by decide) ?_
          refine lv_iadd hx hb dM_fill_120 ?_
          refine w_top (y := nI (d9 + 1)) (by first | exact nI_add _ _ | simp only [nI_add, Nat.add_assoc, Nat.add_zero, Nat.zero_add]) ?_
          refine lv_iload hx hb dM_fill_121 (lv_at hl 4 rfl) ?_
          refine w_cv hE hA (w_runV C hk hE hl.1 (As := [.int (nI k), .int (nI p9), .int (nI (d9 + 1)), .int (nI o)]) (rest := []) (q := 0) (c_M_put l D cs ad (mhc σ (scH k p9 d9 x o)) k p9 (d9 + 1) o (hk9) (by omega) (by omega) (by omega) _) (Nat.le_of_ble_eq_true rfl) (ci := 6) (N := 17) (T := F_M) rfl rfl tw_659 tw_661 ts_21 tw_9 tw_662 (n := 4) (by decide +kernel) rfl rfl (Nat.le_of_ble_eq_true rfl) dM_fill_123 ⟨Nat.le_of_ble_eq_true rfl, Nat.le_of_ble_eq_true rfl⟩ ⟨Nat.zero_le _, Nat.zero_le _⟩) (fun τ9 H locs hp hE _ _ => ?_)
          have hE : wS (wM D cs ad) A s.heap (mhc σ (putH (scH k p9 d9 x o) (ix k p9 (d9 + 1) o))) H locs := wS_eq (hp.trans (by rw [mhc_mhc, mhc_5, mhc_10])) hE
          refine lv_iinc (v := nI (o + 1)) (lv' := [(4, .int (nI (o + 1))), (0, .ref (ad 0)), (1, .int (nI k)), (2, .int (nI p9)), (3, .int (nI d9))]) hx hb dM_fill_126 hl (k := 4) rfl (by exact nI_1 _) (by decide) rfl (fun ls hl => ?_)
          refine lv_goto (tgt := 80) hx hb dM_fill_129 (by decide) ?_
          exact ih (o + 1) (by omega) (by omega) (Or.inr c4) _ _ ls (wS_eq (show mhc σ (putH (scH k p9 d9 x o) (ix k p9 (d9 + 1) o)) = mhc σ (scH k p9 d9 x (o + 1)) by simp only [scH, c7, if_true, if_false]) hE) (lv_sub hl [1, 2, 3, 4, 0] rfl)
set_option maxHeartbeats 4000000 in
set_option maxRecDepth 100000 in
theorem lp_M_fi3 {p : Program} {l : Launch} {e : Env} {s : State} {m : MethodId} {below : List Frame} {meth : Method} {c : Code} {D : va_G} {cs : Nat → ClassId} {ad : Nat → Nat} {A : Nat → Prop} {Q : State → Prop} {σ : Mem} {P k : Nat} (C : bC p s m ([.ref (ad 0), .int (nI k)] : List Value).toArray meth c bM_fill 5 "EarleyChartModel" none) (hk : wk D cs s) (hA : ∀ q : Nat, s.heap.size ≤ q → A q) (hg : mG σ P) (hk9 : k < 9) (hvb : bH (σ 5, σ 0 10)) (p9 : Nat) (x : HC) (hpp : p9 < P) (hvx : vH σ P k x) (K : ∀ (H : Heap) (locs : List Loc) (ls : Array Slot), wS (wM D cs ad) A s.heap (mhc σ (sdH σ k p9 x (mn σ p9))) H locs → lv_has ls 5 [(0, .ref (ad 0)), (1, .int (nI k)), (2, .int (nI p9))] → W p l e (rmF 2 53) s m ([.ref (ad 0), .int (nI k)] : List Value).toArray below meth c H locs 0 0 Q (F0 m 138 ls [])) :
    ∀ (n : Nat) (d9 : Nat), (mn σ p9 - d9) < n → (d9 ≤ mn σ p9) → ∀ (H : Heap) (locs : List Loc) (ls : Array Slot), wS (wM D cs ad) A s.heap (mhc σ (sdH σ k p9 x d9)) H locs → lv_has ls 5 [(0, .ref (ad 0)), (1, .int (nI k)), (2, .int (nI p9)), (3, .int (nI d9))] → W p l e (rmF 2 53) s m ([.ref (ad 0), .int (nI k)] : List Value).toArray below meth c H locs 0 0 Q (F0 m 67 ls []) := by
  obtain ⟨hx, hb, hml, hown, hts, hr, hlocks⟩ := id C
  have hP8 := hg.1
  intro n
  induction n with
  | zero => intro d9 h; exact absurd h (Nat.not_lt_zero _)
  | succ n ih =>
    intro d9 hn hd9 H locs ls hE hl
    have hmq := mG_m hg hpp
    refine lv_iload_n hx hb dM_fill_67 rfl (lv_at hl 3 rfl) ?_
    refine lv_aload_n hx hb dM_fill_68 rfl (lv_at hl 0 rfl) ?_
    refine w_get C hk hE (K := R_M) (T := F_M) (N := 17) (ci := 6) in_M 0 (Nat.le_of_ble_eq_true rfl) rfl rfl 5 (by decide) tw_587 rfl rfl dM_fill_69 ?_
    refine lv_iload_n hx hb dM_fill_72 rfl (lv_at hl 2 rfl) ?_
    refine w_iald C hk hE 2 (by exact Nat.le_of_ble_eq_true rfl) (n := 8) rfl (by omega) (by first | decide | omega) dM_fill_73 ?_
    refine w_top (y := σ 2 p9) (by simp [mset, mrow, upd, mhc]) ?_
    refine w_top (y := nI (mn σ p9)) ((hg.2.2 p9 (by omega)).2.2.1) ?_
    refine lv_icmp_ge (tgt := 138) hx hb dM_fill_74 (by decide) (fun c1 => ?_) (fun c1 => ?_)
    · have c1 : (mn σ p9) ≤ d9 := (nI_leI (by omega) (by omega)).mp c1
      exact K  _ _ ls (wS_eq (show mhc σ (sdH σ k p9 x d9) = mhc σ (sdH σ k p9 x (mn σ p9)) by rw [show mn σ p9 = d9 by omega]) hE) (lv_sub hl [0, 1, 2] rfl)
    · have c1 : ¬ ((mn σ p9) ≤ d9) := fun h => c1 ((nI_leI (by omega) (by omega)).mpr h)
      refine lv_iconst (v := nI 0) hx hb dM_fill_77 (by decide) ?_
      refine lv_istore (lv' := [(4, .int (nI 0)), (0, .ref (ad 0)), (1, .int (nI k)), (2, .int (nI p9)), (3, .int (nI d9))]) hx hb dM_fill_78 hl (by decide) rfl (fun ls hl => ?_)
      refine lp_M_fi4 C hk hA hg hk9 hvb p9 d9 (sdH σ k p9 x d9) (hpp) (by omega) ((ok_sdH (x := x) hg hk9 hpp d9 (by omega)).1 hvx) (fun H locs ls hE hl => ?_) _ 0 (Nat.lt_succ_self _) (Nat.zero_le _) (Or.inl rfl) _ _ ls (wS_eq (show mhc σ (sdH σ k p9 x d9) = mhc σ (scH k p9 d9 (sdH σ k p9 x d9) 0) by rfl) hE) (lv_sub hl [1, 2, 3, 4, 0] rfl)
      refine lv_iinc (v := nI (d9 + 1)) (lv' := [(3, .int (nI (d9 + 1))), (0, .ref (ad 0)), (1, .int (nI k)), (2, .int (nI p9))]) hx hb dM_fill_132 hl (k := 3) rfl (by exact nI_1 _) (by decide) rfl (fun ls hl => ?_)
      refine lv_goto (tgt := 67) hx hb dM_fill_135 (by decide) ?_
      exact ih (d9 + 1) (by omega) (by omega) _ _ ls (wS_eq (show mhc σ (if bhF σ p9 d9 = σ 4 k then scH k p9 d9 (sdH σ k p9 x d9) k else (sdH σ k p9 x d9)) = mhc σ (sdH σ k p9 x (d9 + 1)) by rfl) hE) (lv_sub hl [1, 2, 3, 0] rfl)
set_option maxHeartbeats 4000000 in
set_option maxRecDepth 100000 in
theorem lp_M_fi2 {p : Program} {l : Launch} {e : Env} {s : State} {m : MethodId} {below : List Frame} {meth : Method} {c : Code} {D : va_G} {cs : Nat → ClassId} {ad : Nat → Nat} {A : Nat → Prop} {Q : State → Prop} {σ : Mem} {P k : Nat} (C : bC p s m ([.ref (ad 0), .int (nI k)] : List Value).toArray meth c bM_fill 5 "EarleyChartModel" none) (hk : wk D cs s) (hA : ∀ q : Nat, s.heap.size ≤ q → A q) (hg : mG σ P) (hk9 : k < 9) (hvb : bH (σ 5, σ 0 10)) (x : HC) (hvx : vH σ P k x) (K : ∀ (H : Heap) (locs : List Loc) (ls : Array Slot), wS (wM D cs ad) A s.heap (mhc σ (spH σ k x P)) H locs → lv_has ls 5 [(0, .ref (ad 0)), (1, .int (nI k))] → W p l e (rmF 2 53) s m ([.ref (ad 0), .int (nI k)] : List Value).toArray below meth c H locs 0 0 Q (F0 m 144 ls [])) :
    ∀ (n : Nat) (p9 : Nat), (P - p9) < n → (p9 ≤ P) → ∀ (H : Heap) (locs : List Loc) (ls : Array Slot), wS (wM D cs ad) A s.heap (mhc σ (spH σ k x p9)) H locs → lv_has ls 5 [(0, .ref (ad 0)), (1, .int (nI k)), (2, .int (nI p9))] → W p l e (rmF 2 53) s m ([.ref (ad 0), .int (nI k)] : List Value).toArray below meth c H locs 0 0 Q (F0 m 30 ls []) := by
  obtain ⟨hx, hb, hml, hown, hts, hr, hlocks⟩ := id C
  have hP8 := hg.1
  intro n
  induction n with
  | zero => intro p9 h; exact absurd h (Nat.not_lt_zero _)
  | succ n ih =>
    intro p9 hn hp9 H locs ls hE hl
    refine lv_iload_n hx hb dM_fill_30 rfl (lv_at hl 2 rfl) ?_
    refine lv_aload_n hx hb dM_fill_31 rfl (lv_at hl 0 rfl) ?_
    refine w_get C hk hE (K := R_M) (T := F_M) (N := 17) (ci := 6) in_M 0 (Nat.le_of_ble_eq_true rfl) rfl rfl 3 (by decide) tw_585 rfl rfl dM_fill_32 ?_
    refine w_top (y := σ 0 3) (by simp [mset, mrow, upd, mhc]) ?_
    refine w_top (y := nI P) (hg.2.1) ?_
    refine lv_icmp_ge (tgt := 144) hx hb dM_fill_35 (by decide) (fun c1 => ?_) (fun c1 => ?_)
    · have c1 : P ≤ p9 := (nI_leI (by omega) (by omega)).mp c1
      exact K  _ _ ls (wS_eq (show mhc σ (spH σ k x p9) = mhc σ (spH σ k x P) by rw [show P = p9 by omega]) hE) (lv_sub hl [0, 1] rfl)
    · have c1 : ¬ (P ≤ p9) := fun h => c1 ((nI_leI (by omega) (by omega)).mpr h)
      refine lv_iload_n hx hb dM_fill_38 rfl (lv_at hl 1 rfl) ?_
      refine lv_if_ne (tgt := 65) hx hb dM_fill_39 (by decide) (fun c2 => ?_) (fun c2 => ?_)
      · have c2 := w_n0 (by omega) c2
        refine lv_iconst (v := nI 0) hx hb dM_fill_65 (by decide) ?_
        refine lv_istore_n (lv' := [(3, .int (nI 0)), (0, .ref (ad 0)), (1, .int (nI k)), (2, .int (nI p9))]) hx hb dM_fill_66 rfl hl (by decide) rfl (fun ls hl => ?_)
        refine lp_M_fi3 C hk hA hg hk9 hvb p9 (s0H σ k p9 (spH σ k x p9)) (by omega) ((okH_tr (ok_spH (x := x) hg hk9 p9 (by omega)) (ok_s0H hg hk9 (by omega))).1 hvx) (fun H locs ls hE hl => ?_) _ 0 (Nat.lt_succ_self _) (Nat.zero_le _) _ _ ls (wS_eq (show mhc σ (spH σ k x p9) = mhc σ (sdH σ k p9 (s0H σ k p9 (spH σ k x p9)) 0) by simp only [sdH, s0H, c2, if_true, if_false]) hE) (lv_sub hl [1, 2, 3, 0] rfl)
        refine lv_iinc (v := nI (p9 + 1)) (lv' := [(2, .int (nI (p9 + 1))), (0, .ref (ad 0)), (1, .int (nI k))]) hx hb dM_fill_138 hl (k := 2) rfl (by exact nI_1 _) (by decide) rfl (fun ls hl => ?_)
        refine lv_goto (tgt := 30) hx hb dM_fill_141 (by decide) ?_
        exact ih (p9 + 1) (by omega) (by omega) _ _ ls (wS_eq (show mhc σ (sdH σ k p9 (s0H σ k p9 (spH σ k x p9)) (mn σ p9)) = mhc σ (spH σ k x (p9 + 1)) by rfl) hE) (lv_sub hl [1, 2, 0] rfl)
      · have c2 := w_z0 (by omega) c2
        refine lv_aload_n hx hb dM_fill_42 rfl (lv_at hl 0 rfl) ?_
        refine w_get C hk hE (K := R_M) (T := F_M) (N := 17) (ci := 6) in_M 0 (Nat.le_of_ble_eq_true rfl) rfl rfl 4 (by decide) tw_586 rfl rfl dM_fill_43 ?_
        refine lv_iload_n hx hb dM_fill_46 rfl (lv_at hl 2 rfl) ?_
        refine w_iald C hk hE 1 (by exact Nat.le_of_ble_eq_true rfl) (n := 8) rfl (by omega) (by first | decide | omega) dM_fill_47 ?_
        refine w_top (y := σ 1 p9) (by simp [mset, mrow, upd, mhc]) ?_
        refine lv_aload_n hx hb dM_fill_48 rfl (lv_at hl 0 rfl) ?_
        refine w_get C hk hE (K := R_M) (T := F_M) (N := 17) (ci := 6) in_M 0 (Nat.le_of_ble_eq_true rfl) rfl rfl 4 (by decide) tw_586 rfl rfl dM_fill_49 ?_
        refine lv_iconst (v := nI 0) hx hb dM_fill_52 (by decide) ?_
        refine w_iald C hk hE 1 (by exact Nat.le_of_ble_eq_true rfl) (n := 8) rfl (by omega) (by first | decide | omega) dM_fill_53 ?_
        refine w_top (y := σ 1 0) (by simp [mset, mrow, upd, mhc]) ?_
        refine lv_icmp_ne (tgt := 65) hx hb dM_fill_54 (by decide) (fun c3 => ?_) (fun c3 => ?_)
        · refine lv_iconst (v := nI 0) hx hb dM_fill_65 (by decide) ?_
          refine lv_istore_n (lv' := [(3, .int (nI 0)), (0, .ref (ad 0)), (1, .int (nI k)), (2, .int (nI p9))]) hx hb dM_fill_66 rfl hl (by decide) rfl (fun ls hl => ?_)
          refine lp_M_fi3 C hk hA hg hk9 hvb p9 (s0H σ k p9 (spH σ k x p9)) (by omega) ((okH_tr (ok_spH (x := x) hg hk9 p9 (by omega)) (ok_s0H hg hk9 (by omega))).1 hvx) (fun H locs ls hE hl => ?_) _ 0 (Nat.lt_succ_self _) (Nat.zero_le _) _ _ ls (wS_eq (show mhc σ (spH σ k x p9) = mhc σ (sdH σ k p9 (s0H σ k p9 (spH σ k x p9)) 0) by simp only [sdH, s0H, c2, c3, if_true, if_false]) hE) (lv_sub hl [1, 2, 3, 0] rfl)
          refine lv_iinc (v := nI (p9 + 1)) (lv' := [(2, .int (nI (p9 + 1))), (0, .ref (ad 0)), (1, .int (nI k))]) hx hb dM_fill_138 hl (k := 2) rfl (by exact nI_1 _) (by decide) rfl (fun ls hl => ?_)
          refine lv_goto (tgt := 30) hx hb dM_fill_141 (by decide) ?_
          exact ih (p9 + 1) (by omega) (by omega) _ _ ls (wS_eq (show mhc σ (sdH σ k p9 (s0H σ k p9 (spH σ k x p9)) (mn σ p9)) = mhc σ (spH σ k x (p9 + 1)) by rfl) hE) (lv_sub hl [1, 2, 0] rfl)
        · refine lv_aload_n hx hb dM_fill_57 rfl (lv_at hl 0 rfl) ?_
          refine lv_iconst (v := nI 0) hx hb dM_fill_58 (by decide) ?_
          refine lv_iload_n hx hb dM_fill_59 rfl (lv_at hl 2 rfl) ?_
          refine lv_iconst (v := nI 0) hx hb dM_fill_60 (by decide) ?_
          refine lv_iconst (v := nI 0) hx hb dM_fill_61 (by decide) ?_
          refine w_cv hE hA (w_runV C hk hE hl.1 (As := [.int (nI 0), .int (nI p9), .int (nI 0), .int (nI 0)]) (rest := []) (q := 0) (c_M_put l D cs ad (mhc σ (spH σ k x p9)) 0 p9 0 0 (by decide) (by omega) (by decide) (by decide) _) (Nat.le_of_ble_eq_true rfl) (ci := 6) (N := 17) (T := F_M) rfl rfl tw_659 tw_661 ts_21 tw_9 tw_662 (n := 4) (by decide +kernel) rfl rfl (Nat.le_of_ble_eq_true rfl) dM_fill_62 ⟨Nat.le_of_ble_eq_true rfl, Nat.le_of_ble_eq_true rfl⟩ ⟨Nat.zero_le _, Nat.zero_le _⟩) (fun τ5 H locs hp hE _ _ => ?_)
          have hE : wS (wM D cs ad) A s.heap (mhc σ (putH (spH σ k x p9) (ix 0 p9 0 0))) H locs := wS_eq (hp.trans (by rw [mhc_mhc, mhc_5, mhc_10])) hE
          refine lv_iconst (v := nI 0) hx hb dM_fill_65 (by decide) ?_
          refine lv_istore_n (lv' := [(3, .int (nI 0)), (0, .ref (ad 0)), (1, .int (nI k)), (2, .int (nI p9))]) hx hb dM_fill_66 rfl hl (by decide) rfl (fun ls hl => ?_)
          refine lp_M_fi3 C hk hA hg hk9 hvb p9 (s0H σ k p9 (spH σ k x p9)) (by omega) ((okH_tr (ok_spH (x := x) hg hk9 p9 (by omega)) (ok_s0H hg hk9 (by omega))).1 hvx) (fun H locs ls hE hl => ?_) _ 0 (Nat.lt_succ_self _) (Nat.zero_le _) _ _ ls (wS_eq (show mhc σ (putH (spH σ k x p9) (ix 0 p9 0 0)) = mhc σ (sdH σ k p9 (s0H σ k p9 (spH σ k x p9)) 0) by simp only [sdH, s0H, c2, c3, if_true, if_false]) hE) (lv_sub hl [1, 2, 3, 0] rfl)
          refine lv_iinc (v := nI (p9 + 1)) (lv' := [(2, .int (nI (p9 + 1))), (0, .ref (ad 0)), (1, .int (nI k))]) hx hb dM_fill_138 hl (k := 2) rfl (by exact nI_1 _) (by decide) rfl (fun ls hl => ?_)
          refine lv_goto (tgt := 30) hx hb dM_fill_141 (by decide) ?_
          exact ih (p9 + 1) (by omega) (by omega) _ _ ls (wS_eq (show mhc σ (sdH σ k p9 (s0H σ k p9 (spH σ k x p9)) (mn σ p9)) = mhc σ (spH σ k x (p9 + 1)) by rfl) hE) (lv_sub hl [1, 2, 0] rfl)
set_option maxHeartbeats 4000000 in
set_option maxRecDepth 100000 in
theorem lp_M_fi1 {p : Program} {l : Launch} {e : Env} {s : State} {m : MethodId} {below : List Frame} {meth : Method} {c : Code} {D : va_G} {cs : Nat → ClassId} {ad : Nat → Nat} {A : Nat → Prop} {Q : State → Prop} {σ : Mem} {P k : Nat} (C : bC p s m ([.ref (ad 0), .int (nI k)] : List Value).toArray meth c bM_fill 5 "EarleyChartModel" none) (hk : wk D cs s) (hA : ∀ q : Nat, s.heap.size ≤ q → A q) (hg : mG σ P) (hk9 : k < 9) (hvb : bH (σ 5, σ 0 10))   (K : ∀ (H : Heap) (locs : List Loc) (ls : Array Slot), wS (wM D cs ad) A s.heap (mhc σ (clH k (σ 5, σ 0 10) 360)) H locs → lv_has ls 5 [(0, .ref (ad 0)), (1, .int (nI k))] → W p l e (rmF 2 53) s m ([.ref (ad 0), .int (nI k)] : List Value).toArray below meth c H locs 0 0 Q (F0 m 28 ls [])) :
    ∀ (n : Nat) (i : Nat), (360 - i) < n → (i ≤ 360) → ∀ (H : Heap) (locs : List Loc) (ls : Array Slot), wS (wM D cs ad) A s.heap (mhc σ (clH k (σ 5, σ 0 10) i)) H locs → lv_has ls 5 [(0, .ref (ad 0)), (1, .int (nI k)), (2, .int (nI i))] → W p l e (rmF 2 53) s m ([.ref (ad 0), .int (nI k)] : List Value).toArray below meth c H locs 0 0 Q (F0 m 2 ls []) := by
  obtain ⟨hx, hb, hml, hown, hts, hr, hlocks⟩ := id C
  have hP8 := hg.1
  intro n
  induction n with
  | zero => intro i h; exact absurd h (Nat.not_lt_zero _)
  | succ n ih =>
    intro i hn hi H locs ls hE hl
    refine lv_iload_n hx hb dM_fill_2 rfl (lv_at hl 2 rfl) ?_
    refine lv_sipush (v := nI 360) hx hb dM_fill_3 (by decide) ?_
    refine lv_icmp_ge (tgt := 28) hx hb dM_fill_6 (by decide) (fun c1 => ?_) (fun c1 => ?_)
    · have c1 : 360 ≤ i := (nI_leI (by omega) (by omega)).mp c1
      exact K  _ _ ls (wS_eq (show mhc σ (clH k (σ 5, σ 0 10) i) = mhc σ (clH k (σ 5, σ 0 10) 360) by rw [show 360 = i by omega]) hE) (lv_sub hl [0, 1] rfl)
    · have c1 : ¬ (360 ≤ i) := fun h => c1 ((nI_leI (by omega) (by omega)).mpr h)
      refine lv_aload_n hx hb dM_fill_9 rfl (lv_at hl 0 rfl) ?_
      refine w_get C hk hE (K := R_M) (T := F_M) (N := 17) (ci := 6) in_M 0 (Nat.le_of_ble_eq_true rfl) rfl rfl 9 (by decide) tw_591 rfl rfl dM_fill_10 ?_
      refine lv_sipush (v := nI 360) hx hb dM_fill_13 (by decide) ?_
      refine lv_iload_n hx hb dM_fill_16 rfl (lv_at hl 1 rfl) ?_
      refine lv_imul hx hb dM_fill_17 ?_
      refine w_top (y := nI (360 * k)) (by exact pk_mul _ _) ?_
      refine lv_iload_n hx hb dM_fill_18 rfl (lv_at hl 2 rfl) ?_
      refine lv_iadd hx hb dM_fill_19 ?_
      refine w_top (y := nI ((360 * k) + i)) (by first | exact nI_add _ _ | simp only [nI_add, Nat.add_assoc, Nat.add_zero, Nat.zero_add]) ?_
      refine lv_iconst (v := nI 0) hx hb dM_fill_20 (by decide) ?_
      refine w_zast C hk hE 5 (Nat.le_of_ble_eq_true rfl) (n := 3240) (fun _ => rfl) (by omega) (by decide) (by first | exact Or.inl rfl | exact Or.inr rfl) dM_fill_21 (fun H locs hE => ?_)
      rw [mset_mhc] at hE
      refine lv_iinc (v := nI (i + 1)) (lv' := [(2, .int (nI (i + 1))), (0, .ref (ad 0)), (1, .int (nI k))]) hx hb dM_fill_22 hl (k := 2) rfl (by exact nI_1 _) (by decide) rfl (fun ls hl => ?_)
      refine lv_goto (tgt := 2) hx hb dM_fill_25 (by decide) ?_
      exact ih (i + 1) (by omega) (by omega) _ _ ls (wS_eq (show mhc σ (stH (clH k (σ 5, σ 0 10) i) ((360 * k) + i) (nI 0)) = mhc σ (clH k (σ 5, σ 0 10) (i + 1)) by rfl) hE) (lv_sub hl [1, 2, 0] rfl)
set_option maxHeartbeats 4000000 in
set_option maxRecDepth 100000 in
theorem c_M_fill (l : Launch) (D : va_G) (cs : Nat → ClassId) (ad : Nat → Nat) (σ : Mem) (P k : Nat) (hg : mG σ P) (hk9 : k < 9) (hvb : bH (σ 5, σ 0 10)) : MetV l (wM D cs ad) cs yM_fill bM_fill 5 2 53 [.ref (ad 0), .int (nI k)] σ (filP σ P k) := by
  refine MetV.start (by decide) (Nat.le_of_ble_eq_true rfl) ?_
  intro p e s m below meth c A ls C hk hA hE hl
  obtain ⟨hx, hb, hml, hown, hts, hr, hlocks⟩ := id C
  have hl : lv_has ls 5 [(0, .ref (ad 0)), (1, .int (nI k))] := hl
  have hP8 := hg.1
  refine lv_iconst (v := nI 0) hx hb dM_fill_0 (by decide) ?_
  refine lv_istore_n (lv' := [(2, .int (nI 0)), (0, .ref (ad 0)), (1, .int (nI k))]) hx hb dM_fill_1 rfl hl (by decide) rfl (fun ls hl => ?_)
  refine lp_M_fi1 C hk hA hg hk9 hvb   (fun H locs ls hE hl => ?_) _ 0 (Nat.lt_succ_self _) (by decide) _ _ ls (wS_eq (show σ = mhc σ (clH k (σ 5, σ 0 10) 0) by rw [clH, mhc_id]) hE) (lv_sub hl [1, 2, 0] rfl)
  refine lv_iconst (v := nI 0) hx hb dM_fill_28 (by decide) ?_
  refine lv_istore_n (lv' := [(2, .int (nI 0)), (0, .ref (ad 0)), (1, .int (nI k))]) hx hb dM_fill_29 rfl hl (by decide) rfl (fun ls hl => ?_)
  refine lp_M_fi2 C hk hA hg hk9 hvb (clH k (σ 5, σ 0 10) 360) (vH_cl hvb) (fun H locs ls hE hl => ?_) _ 0 (Nat.lt_succ_self _) (Nat.zero_le _) _ _ ls (wS_eq (show mhc σ (clH k (σ 5, σ 0 10) 360) = mhc σ (spH σ k (clH k (σ 5, σ 0 10) 360) 0) by rfl) hE) (lv_sub hl [1, 2, 0] rfl)
  refine lv_aload_n hx hb dM_fill_144 rfl (lv_at hl 0 rfl) ?_
  refine lv_iconst (v := nI 1) hx hb dM_fill_145 (by decide) ?_
  refine w_put C hk hE (K := R_M) (T := F_M) (N := 17) (ci := 6) in_M ft_M_ok fn_M 0 (Nat.le_of_ble_eq_true rfl) rfl rfl 10 (by decide) tw_592 rfl rfl (rfl) (rfl) (Nat.le_of_ble_eq_true rfl) rfl dM_fill_146 (fun H locs hE => ?_)
  rw [mset_mhc0] at hE
  exact lp_M_fi5 C hk hA hg hk9 hvb _ (flH (spH σ k (clH k (σ 5, σ 0 10) 360) P) (nI 1)) (Nat.lt_succ_self _) (vH_fl ((ok_spH (x := clH k (σ 5, σ 0 10) 360) hg hk9 P (Nat.le_refl _)).1 (vH_cl hvb)) (Or.inr rfl)) (⟨0, fun N => by rw [Nat.zero_add]⟩) _ _ ls hE (lv_sub hl [0, 1] rfl)
