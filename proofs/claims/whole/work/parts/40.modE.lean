set_option maxHeartbeats 4000000 in
set_option maxRecDepth 100000 in
theorem lp_M_wk5 {p : Program} {l : Launch} {e : Env} {s : State} {m : MethodId} {below : List Frame} {meth : Method} {c : Code} {D : va_G} {cs : Nat → ClassId} {ad : Nat → Nat} {A : Nat → Prop} {Q : State → Prop} {σ κ : Mem} {s9 r9 : Nat → Nat} {P n9 : Nat} (C : bC p s m ([.ref (ad 0)] : List Value).toArray meth c bM_work 7 "EarleyChartModel" none) (hk : wk D cs s) (hA : ∀ q : Nat, s.heap.size ≤ q → A q) (hκ : κ = mset σ 0 12 (nI 1)) (hgσ : mG σ P) (hn7 : σ 0 7 = nI n9) (hn8 : n9 ≤ 8) (hs9 : leN s9) (hr9 : leN r9) (p9 : Nat) (j : Nat) (r : Nat → Nat) (x : Bool × (Nat → Nat)) (hpp : p9 < P) (hj8 : j ≤ n9) (hrl : leN r) (hxl : leN x.2) (K : ∀ (H : Heap) (locs : List Loc) (ls : Array Slot), wS (wM D cs ad) A s.heap (msr κ (wiN κ p9 j r x (j + 1)).2 r) H locs → lv_has ls 7 [(0, .ref (ad 0)), (1, .int (zb (wiN κ p9 j r x (j + 1)).1)), (2, .int (nI p9)), (3, .int (nI j))] → W p l e (rmF 2 50) s m ([.ref (ad 0)] : List Value).toArray below meth c H locs 0 0 Q (F0 m 168 ls [])) :
    ∀ (n : Nat) (i : Nat), (j + 1 - i) < n → (i ≤ j + 1) → ∀ (H : Heap) (locs : List Loc) (ls : Array Slot), wS (wM D cs ad) A s.heap (msr κ (wiN κ p9 j r x i).2 r) H locs → lv_has ls 7 [(0, .ref (ad 0)), (1, .int (zb (wiN κ p9 j r x i).1)), (2, .int (nI p9)), (3, .int (nI j)), (4, .int (nI i))] → W p l e (rmF 2 50) s m ([.ref (ad 0)] : List Value).toArray below meth c H locs 0 0 Q (F0 m 73 ls []) := by
  obtain ⟨hx, hb, hml, hown, hts, hr, hlocks⟩ := id C
  have hg : mG κ P := by rw [hκ]; exact mG_of hgσ (mset_i (by decide)) (mset_n (by decide)) (mset_n (by decide)) (mset_n (by decide))
  have hk7 : κ 0 7 = nI n9 := by rw [hκ, mset_i (by decide)]; exact hn7
  have hP8 := hg.1
  intro n
  induction n with
  | zero => intro i h; exact absurd h (Nat.not_lt_zero _)
  | succ n ih =>
    intro i hn hi H locs ls hE hl
    have hl6 := (hg.2.2 p9 hpp).2.1
    have hri := hrl i
    have hwi := (wiN_ok (σ := κ) (r := r) (x := x) hl6 (by omega : j < 9) i hi).1 (wcl κ p9 i j)
    have hxi := hxl (wcl κ p9 i j)
    have hwc : wcl κ p9 i j = 81 * ml κ p9 + 9 * i + j := rfl
    refine lv_iload hx hb dM_work_73 (lv_at hl 4 rfl) ?_
    refine lv_iload_n hx hb dM_work_75 rfl (lv_at hl 3 rfl) ?_
    refine lv_icmp_gt (tgt := 168) hx hb dM_work_76 (by decide) (fun c1 => ?_) (fun c1 => ?_)
    · have c1 : j < i := (nI_ltI (by omega) (by omega)).mp c1
      have ev2 : (zb (wiN κ p9 j r x i).1 : Int32) = zb (wiN κ p9 j r x (j + 1)).1 := by rw [show j + 1 = i by omega]
      rw [ev2] at hl
      exact K  _ _ ls (wS_eq (show msr κ (wiN κ p9 j r x i).2 r = msr κ (wiN κ p9 j r x (j + 1)).2 r by rw [show j + 1 = i by omega]) hE) (lv_sub hl [0, 1, 2, 3] rfl)
    · have c1 : ¬ (j < i) := fun h => c1 ((nI_ltI (by omega) (by omega)).mpr h)
      refine lv_bipush (v := nI 81) hx hb dM_work_79 (by decide) ?_
      refine lv_aload_n hx hb dM_work_81 rfl (lv_at hl 0 rfl) ?_
      refine w_get C hk hE (K := R_M) (T := F_M) (N := 17) (ci := 6) in_M 0 (Nat.le_of_ble_eq_true rfl) rfl rfl 4 (by decide) tw_586 rfl rfl dM_work_82 ?_
      refine lv_iload_n hx hb dM_work_85 rfl (lv_at hl 2 rfl) ?_
      refine w_iald C hk hE 1 (by exact Nat.le_of_ble_eq_true rfl) (n := 8) rfl (by omega) (by first | decide | omega) dM_work_86 ?_
      refine w_top (y := κ 1 p9) (by simp [mset, mrow, upd, mhc, msr, nR]) ?_
      refine w_top (y := nI (ml κ p9)) ((hg.2.2 p9 (by omega)).1) ?_
      refine lv_imul hx hb dM_work_87 ?_
      refine w_top (y := nI (81 * (ml κ p9))) (by exact pk_mul _ _) ?_
      refine lv_bipush (v := nI 9) hx hb dM_work_88 (by decide) ?_
      refine lv_iload hx hb dM_work_90 (lv_at hl 4 rfl) ?_
      refine lv_imul hx hb dM_work_92 ?_
      refine w_top (y := nI (9 * i)) (by exact pk_mul _ _) ?_
      refine lv_iadd hx hb dM_work_93 ?_
      refine w_top (y := nI ((81 * (ml κ p9)) + (9 * i))) (by first | exact nI_add _ _ | simp only [nI_add, Nat.add_assoc, Nat.add_zero, Nat.zero_add]) ?_
      refine lv_iload_n hx hb dM_work_94 rfl (lv_at hl 3 rfl) ?_
      refine lv_iadd hx hb dM_work_95 ?_
      refine w_top (y := nI (((81 * (ml κ p9)) + (9 * i)) + j)) (by first | exact nI_add _ _ | simp only [nI_add, Nat.add_assoc, Nat.add_zero, Nat.zero_add]) ?_
      refine lv_istore (lv' := [(5, .int (nI (((81 * (ml κ p9)) + (9 * i)) + j))), (0, .ref (ad 0)), (1, .int (zb (wiN κ p9 j r x i).1)), (2, .int (nI p9)), (3, .int (nI j)), (4, .int (nI i))]) hx hb dM_work_96 hl (by decide) rfl (fun ls hl => ?_)
      have hl : lv_has ls 7 [(5, .int (nI (wcl κ p9 i j))), (0, .ref (ad 0)), (1, .int (zb (wiN κ p9 j r x i).1)), (2, .int (nI p9)), (3, .int (nI j)), (4, .int (nI i))] := hl
      refine lv_aload_n hx hb dM_work_98 rfl (lv_at hl 1 rfl) ?_
      refine w_get C hk hE (K := R_M) (T := F_M) (N := 17) (ci := 6) in_M 0 (Nat.le_of_ble_eq_true rfl) rfl rfl 13 (by decide) tw_595 rfl rfl dM_work_99 ?_
      refine lv_iload hx hb dM_work_102 (lv_at hl 5 rfl) ?_
      refine w_iald C hk hE 7 (by exact Nat.le_of_ble_eq_true rfl) (n := 45) rfl (by omega) (by first | decide | omega) dM_work_104 ?_
      refine w_top (y := nI (r i)) (by first | exact msr_7 | exact congrFun msr_7 _) ?_
      refine lv_iconst (v := nI 1) hx hb dM_work_105 (by decide) ?_
      refine lv_iadd hx hb dM_work_106 ?_
      refine w_top (y := nI ((r i) + 1)) (by first | exact nI_add _ _ | simp only [nI_add, Nat.add_assoc, Nat.add_zero, Nat.zero_add]) ?_
      refine lv_istore (lv' := [(6, .int (nI ((r i) + 1))), (5, .int (nI (wcl κ p9 i j))), (0, .ref (ad 0)), (1, .int (zb (wiN κ p9 j r x i).1)), (2, .int (nI p9)), (3, .int (nI j)), (4, .int (nI i))]) hx hb dM_work_107 hl (by decide) rfl (fun ls hl => ?_)
      refine lv_iload_n hx hb dM_work_109 rfl (lv_at hl 3 rfl) ?_
      refine lv_if_ne (tgt := 125) hx hb dM_work_110 (by decide) (fun c3 => ?_) (fun c3 => ?_)
      · have c3 := zb_ne0 c3
        refine lv_iconst (v := nI 1) hx hb dM_work_125 (by decide) ?_
        refine lv_goto (tgt := 130) hx hb dM_work_126 (by decide) ?_
        refine lv_istore_n (lv' := [(1, .int (nI 1)), (6, .int (nI ((r i) + 1))), (5, .int (nI (wcl κ p9 i j))), (0, .ref (ad 0)), (2, .int (nI p9)), (3, .int (nI j)), (4, .int (nI i))]) hx hb dM_work_130 rfl hl (by decide) rfl (fun ls hl => ?_)
        refine lv_aload_n hx hb dM_work_131 rfl (lv_at hl 3 rfl) ?_
        refine w_get C hk hE (K := R_M) (T := F_M) (N := 17) (ci := 6) in_M 0 (Nat.le_of_ble_eq_true rfl) rfl rfl 11 (by decide) tw_593 rfl rfl dM_work_132 ?_
        refine lv_iload hx hb dM_work_135 (lv_at hl 2 rfl) ?_
        refine lv_iload hx hb dM_work_137 (lv_at hl 1 rfl) ?_
        refine lv_aload_n hx hb dM_work_139 rfl (lv_at hl 3 rfl) ?_
        refine w_get C hk hE (K := R_M) (T := F_M) (N := 17) (ci := 6) in_M 0 (Nat.le_of_ble_eq_true rfl) rfl rfl 11 (by decide) tw_593 rfl rfl dM_work_140 ?_
        refine lv_iload hx hb dM_work_143 (lv_at hl 2 rfl) ?_
        refine w_iald C hk hE 6 (by exact Nat.le_of_ble_eq_true rfl) (n := 486) rfl (by omega) (by first | decide | omega) dM_work_145 ?_
        refine w_top (y := nI (((wiN κ p9 j r x i).2) (wcl κ p9 i j))) (by first | exact msr_6 | exact congrFun msr_6 _) ?_
        refine lv_icmp_ge (tgt := 154) hx hb dM_work_146 (by decide) (fun c4 => ?_) (fun c4 => ?_)
        · have c4 : (((wiN κ p9 j r x i).2) (wcl κ p9 i j)) ≤ ((r i) + 1) := (nI_leI (by omega) (by omega)).mp c4
          refine lv_aload_n hx hb dM_work_154 rfl (lv_at hl 3 rfl) ?_
          refine w_get C hk hE (K := R_M) (T := F_M) (N := 17) (ci := 6) in_M 0 (Nat.le_of_ble_eq_true rfl) rfl rfl 11 (by decide) tw_593 rfl rfl dM_work_155 ?_
          refine lv_iload hx hb dM_work_158 (lv_at hl 2 rfl) ?_
          refine w_iald C hk hE 6 (by exact Nat.le_of_ble_eq_true rfl) (n := 486) rfl (by omega) (by first | decide | omega) dM_work_160 ?_
          refine w_top (y := nI (((wiN κ p9 j r x i).2) (wcl κ p9 i j))) (by first | exact msr_6 | exact congrFun msr_6 _) ?_
          refine w_iast C hk hE 6 (by exact Nat.le_of_ble_eq_true rfl) (n := 486) (fun _ => rfl) (by omega) (by first | decide | omega) dM_work_161 (fun H locs hE => ?_)
          rw [msr_set6] at hE
          refine lv_iinc (v := nI (i + 1)) (lv' := [(4, .int (nI (i + 1))), (1, .int (nI 1)), (6, .int (nI ((r i) + 1))), (5, .int (nI (wcl κ p9 i j))), (0, .ref (ad 0)), (2, .int (nI p9)), (3, .int (nI j))]) hx hb dM_work_162 hl (k := 6) rfl (by exact nI_1 _) (by decide) rfl (fun ls hl => ?_)
          refine lv_goto (tgt := 73) hx hb dM_work_165 (by decide) ?_
          have ev5 : (nI 1 : Int32) = zb (wiN κ p9 j r x (i + 1)).1 := by first | (exfalso; omega) | (rw [wiN]; simp [zb, c3]; try omega)
          rw [ev5] at hl
          exact ih (i + 1) (by omega) (by omega) _ _ ls (wS_eq (show msr κ (updN ((wiN κ p9 j r x i).2) (wcl κ p9 i j) (((wiN κ p9 j r x i).2) (wcl κ p9 i j))) r = msr κ (wiN κ p9 j r x (i + 1)).2 r by first | (exfalso; omega) | (rw [wiN, if_pos (by omega)]) | (rw [wiN, if_neg (by omega)])) hE) (lv_sub hl [4, 1, 5, 6, 0] rfl)
        · have c4 : ¬ ((((wiN κ p9 j r x i).2) (wcl κ p9 i j)) ≤ ((r i) + 1)) := fun h => c4 ((nI_leI (by omega) (by omega)).mpr h)
          refine lv_iload hx hb dM_work_149 (lv_at hl 1 rfl) ?_
          refine lv_goto (tgt := 161) hx hb dM_work_151 (by decide) ?_
          refine w_iast C hk hE 6 (by exact Nat.le_of_ble_eq_true rfl) (n := 486) (fun _ => rfl) (by omega) (by first | decide | omega) dM_work_161 (fun H locs hE => ?_)
          rw [msr_set6] at hE
          refine lv_iinc (v := nI (i + 1)) (lv' := [(4, .int (nI (i + 1))), (1, .int (nI 1)), (6, .int (nI ((r i) + 1))), (5, .int (nI (wcl κ p9 i j))), (0, .ref (ad 0)), (2, .int (nI p9)), (3, .int (nI j))]) hx hb dM_work_162 hl (k := 6) rfl (by exact nI_1 _) (by decide) rfl (fun ls hl => ?_)
          refine lv_goto (tgt := 73) hx hb dM_work_165 (by decide) ?_
          have ev6 : (nI 1 : Int32) = zb (wiN κ p9 j r x (i + 1)).1 := by first | (exfalso; omega) | (rw [wiN]; simp [zb, c3]; try omega)
          rw [ev6] at hl
          exact ih (i + 1) (by omega) (by omega) _ _ ls (wS_eq (show msr κ (updN ((wiN κ p9 j r x i).2) (wcl κ p9 i j) ((r i) + 1)) r = msr κ (wiN κ p9 j r x (i + 1)).2 r by first | (exfalso; omega) | (rw [wiN, if_pos (by omega)]) | (rw [wiN, if_neg (by omega)])) hE) (lv_sub hl [4, 1, 5, 6, 0] rfl)
      · have c3 := zb_eq0 c3
        refine lv_iload hx hb dM_work_113 (lv_at hl 0 rfl) ?_
        refine lv_aload_n hx hb dM_work_115 rfl (lv_at hl 2 rfl) ?_
        refine w_get C hk hE (K := R_M) (T := F_M) (N := 17) (ci := 6) in_M 0 (Nat.le_of_ble_eq_true rfl) rfl rfl 11 (by decide) tw_593 rfl rfl dM_work_116 ?_
        refine lv_iload hx hb dM_work_119 (lv_at hl 1 rfl) ?_
        refine w_iald C hk hE 6 (by exact Nat.le_of_ble_eq_true rfl) (n := 486) rfl (by omega) (by first | decide | omega) dM_work_121 ?_
        refine w_top (y := nI (((wiN κ p9 j r x i).2) (wcl κ p9 i j))) (by first | exact msr_6 | exact congrFun msr_6 _) ?_
        refine lv_icmp_ge (tgt := 129) hx hb dM_work_122 (by decide) (fun c7 => ?_) (fun c7 => ?_)
        · have c7 : (((wiN κ p9 j r x i).2) (wcl κ p9 i j)) ≤ ((r i) + 1) := (nI_leI (by omega) (by omega)).mp c7
          refine lv_iconst (v := nI 0) hx hb dM_work_129 (by decide) ?_
          refine lv_istore_n (lv' := [(1, .int (nI 0)), (6, .int (nI ((r i) + 1))), (5, .int (nI (wcl κ p9 i j))), (0, .ref (ad 0)), (2, .int (nI p9)), (3, .int (nI j)), (4, .int (nI i))]) hx hb dM_work_130 rfl hl (by decide) rfl (fun ls hl => ?_)
          refine lv_aload_n hx hb dM_work_131 rfl (lv_at hl 3 rfl) ?_
          refine w_get C hk hE (K := R_M) (T := F_M) (N := 17) (ci := 6) in_M 0 (Nat.le_of_ble_eq_true rfl) rfl rfl 11 (by decide) tw_593 rfl rfl dM_work_132 ?_
          refine lv_iload hx hb dM_work_135 (lv_at hl 2 rfl) ?_
          refine lv_iload hx hb dM_work_137 (lv_at hl 1 rfl) ?_
          refine lv_aload_n hx hb dM_work_139 rfl (lv_at hl 3 rfl) ?_
          refine w_get C hk hE (K := R_M) (T := F_M) (N := 17) (ci := 6) in_M 0 (Nat.le_of_ble_eq_true rfl) rfl rfl 11 (by decide) tw_593 rfl rfl dM_work_140 ?_
          refine lv_iload hx hb dM_work_143 (lv_at hl 2 rfl) ?_
          refine w_iald C hk hE 6 (by exact Nat.le_of_ble_eq_true rfl) (n := 486) rfl (by omega) (by first | decide | omega) dM_work_145 ?_
          refine w_top (y := nI (((wiN κ p9 j r x i).2) (wcl κ p9 i j))) (by first | exact msr_6 | exact congrFun msr_6 _) ?_
          refine lv_icmp_ge (tgt := 154) hx hb dM_work_146 (by decide) (fun c8 => ?_) (fun c8 => ?_)
          · have c8 : (((wiN κ p9 j r x i).2) (wcl κ p9 i j)) ≤ ((r i) + 1) := (nI_leI (by omega) (by omega)).mp c8
            refine lv_aload_n hx hb dM_work_154 rfl (lv_at hl 3 rfl) ?_
            refine w_get C hk hE (K := R_M) (T := F_M) (N := 17) (ci := 6) in_M 0 (Nat.le_of_ble_eq_true rfl) rfl rfl 11 (by decide) tw_593 rfl rfl dM_work_155 ?_
            refine lv_iload hx hb dM_work_158 (lv_at hl 2 rfl) ?_
            refine w_iald C hk hE 6 (by exact Nat.le_of_ble_eq_true rfl) (n := 486) rfl (by omega) (by first | decide | omega) dM_work_160 ?_
            refine w_top (y := nI (((wiN κ p9 j r x i).2) (wcl κ p9 i j))) (by first | exact msr_6 | exact congrFun msr_6 _) ?_
            refine w_iast C hk hE 6 (by exact Nat.le_of_ble_eq_true rfl) (n := 486) (fun _ => rfl) (by omega) (by first | decide | omega) dM_work_161 (fun H locs hE => ?_)
            rw [msr_set6] at hE
            refine lv_iinc (v := nI (i + 1)) (lv' := [(4, .int (nI (i + 1))), (1, .int (nI 0)), (6, .int (nI ((r i) + 1))), (5, .int (nI (wcl κ p9 i j))), (0, .ref (ad 0)), (2, .int (nI p9)), (3, .int (nI j))]) hx hb dM_work_162 hl (k := 6) rfl (by exact nI_1 _) (by decide) rfl (fun ls hl => ?_)
            refine lv_goto (tgt := 73) hx hb dM_work_165 (by decide) ?_
            have ev9 : (nI 0 : Int32) = zb (wiN κ p9 j r x (i + 1)).1 := by first | (exfalso; omega) | (rw [wiN]; simp [zb, c3, c7]; try omega)
            rw [ev9] at hl
            exact ih (i + 1) (by omega) (by omega) _ _ ls (wS_eq (show msr κ (updN ((wiN κ p9 j r x i).2) (wcl κ p9 i j) (((wiN κ p9 j r x i).2) (wcl κ p9 i j))) r = msr κ (wiN κ p9 j r x (i + 1)).2 r by first | (exfalso; omega) | (rw [wiN, if_pos (by omega)]) | (rw [wiN, if_neg (by omega)])) hE) (lv_sub hl [4, 1, 5, 6, 0] rfl)
          · have c8 : ¬ ((((wiN κ p9 j r x i).2) (wcl κ p9 i j)) ≤ ((r i) + 1)) := fun h => c8 ((nI_leI (by omega) (by omega)).mpr h)
            refine lv_iload hx hb dM_work_149 (lv_at hl 1 rfl) ?_
            refine lv_goto (tgt := 161) hx hb dM_work_151 (by decide) ?_
            refine w_iast C hk hE 6 (by exact Nat.le_of_ble_eq_true rfl) (n := 486) (fun _ => rfl) (by omega) (by first | decide | omega) dM_work_161 (fun H locs hE => ?_)
            rw [msr_set6] at hE
            refine lv_iinc (v := nI (i + 1)) (lv' := [(4, .int (nI (i + 1))), (1, .int (nI 0)), (6, .int (nI ((r i) + 1))), (5, .int (nI (wcl κ p9 i j))), (0, .ref (ad 0)), (2, .int (nI p9)), (3, .int (nI j))]) hx hb dM_work_162 hl (k := 6) rfl (by exact nI_1 _) (by decide) rfl (fun ls hl => ?_)
            refine lv_goto (tgt := 73) hx hb dM_work_165 (by decide) ?_
            have ev10 : (nI 0 : Int32) = zb (wiN κ p9 j r x (i + 1)).1 := by first | (exfalso; omega) | (rw [wiN]; simp [zb, c3, c7]; try omega)
            rw [ev10] at hl
            exact ih (i + 1) (by omega) (by omega) _ _ ls (wS_eq (show msr κ (updN ((wiN κ p9 j r x i).2) (wcl κ p9 i j) ((r i) + 1)) r = msr κ (wiN κ p9 j r x (i + 1)).2 r by first | (exfalso; omega) | (rw [wiN, if_pos (by omega)]) | (rw [wiN, if_neg (by omega)])) hE) (lv_sub hl [4, 1, 5, 6, 0] rfl)
        · have c7 : ¬ ((((wiN κ p9 j r x i).2) (wcl κ p9 i j)) ≤ ((r i) + 1)) := fun h => c7 ((nI_leI (by omega) (by omega)).mpr h)
          refine lv_iconst (v := nI 1) hx hb dM_work_125 (by decide) ?_
          refine lv_goto (tgt := 130) hx hb dM_work_126 (by decide) ?_
          refine lv_istore_n (lv' := [(1, .int (nI 1)), (6, .int (nI ((r i) + 1))), (5, .int (nI (wcl κ p9 i j))), (0, .ref (ad 0)), (2, .int (nI p9)), (3, .int (nI j)), (4, .int (nI i))]) hx hb dM_work_130 rfl hl (by decide) rfl (fun ls hl => ?_)
          refine lv_aload_n hx hb dM_work_131 rfl (lv_at hl 3 rfl) ?_
          refine w_get C hk hE (K := R_M) (T := F_M) (N := 17) (ci := 6) in_M 0 (Nat.le_of_ble_eq_true rfl) rfl rfl 11 (by decide) tw_593 rfl rfl dM_work_132 ?_
          refine lv_iload hx hb dM_work_135 (lv_at hl 2 rfl) ?_
          refine lv_iload hx hb dM_work_137 (lv_at hl 1 rfl) ?_
          refine lv_aload_n hx hb dM_work_139 rfl (lv_at hl 3 rfl) ?_
          refine w_get C hk hE (K := R_M) (T := F_M) (N := 17) (ci := 6) in_M 0 (Nat.le_of_ble_eq_true rfl) rfl rfl 11 (by decide) tw_593 rfl rfl dM_work_140 ?_
          refine lv_iload hx hb dM_work_143 (lv_at hl 2 rfl) ?_
          refine w_iald C hk hE 6 (by exact Nat.le_of_ble_eq_true rfl) (n := 486) rfl (by omega) (by first | decide | omega) dM_work_145 ?_
          refine w_top (y := nI (((wiN κ p9 j r x i).2) (wcl κ p9 i j))) (by first | exact msr_6 | exact congrFun msr_6 _) ?_
          refine lv_icmp_ge (tgt := 154) hx hb dM_work_146 (by decide) (fun c11 => ?_) (fun c11 => ?_)
          · have c11 : (((wiN κ p9 j r x i).2) (wcl κ p9 i j)) ≤ ((r i) + 1) := (nI_leI (by omega) (by omega)).mp c11
            refine lv_aload_n hx hb dM_work_154 rfl (lv_at hl 3 rfl) ?_
            refine w_get C hk hE (K := R_M) (T := F_M) (N := 17) (ci := 6) in_M 0 (Nat.le_of_ble_eq_true rfl) rfl rfl 11 (by decide) tw_593 rfl rfl dM_work_155 ?_
            refine lv_iload hx hb dM_work_158 (lv_at hl 2 rfl) ?_
            refine w_iald C hk hE 6 (by exact Nat.le_of_ble_eq_true rfl) (n := 486) rfl (by omega) (by first | decide | omega) dM_work_160 ?_
            refine w_top (y := nI (((wiN κ p9 j r x i).2) (wcl κ p9 i j))) (by first | exact msr_6 | exact congrFun msr_6 _) ?_
            refine w_iast C hk hE 6 (by exact Nat.le_of_ble_eq_true rfl) (n := 486) (fun _ => rfl) (by omega) (by first | decide | omega) dM_work_161 (fun H locs hE => ?_)
            rw [msr_set6] at hE
            refine lv_iinc (v := nI (i + 1)) (lv' := [(4, .int (nI (i + 1))), (1, .int (nI 1)), (6, .int (nI ((r i) + 1))), (5, .int (nI (wcl κ p9 i j))), (0, .ref (ad 0)), (2, .int (nI p9)), (3, .int (nI j))]) hx hb dM_work_162 hl (k := 6) rfl (by exact nI_1 _) (by decide) rfl (fun ls hl => ?_)
            refine lv_goto (tgt := 73) hx hb dM_work_165 (by decide) ?_
            have ev12 : (nI 1 : Int32) = zb (wiN κ p9 j r x (i + 1)).1 := by first | (exfalso; omega) | (rw [wiN]; simp [zb, c3, c7]; try omega)
            rw [ev12] at hl
            exact ih (i + 1) (by omega) (by omega) _ _ ls (wS_eq (show msr κ (updN ((wiN κ p9 j r x i).2) (wcl κ p9 i j) (((wiN κ p9 j r x i).2) (wcl κ p9 i j))) r = msr κ (wiN κ p9 j r x (i + 1)).2 r by first | (exfalso; omega) | (rw [wiN, if_pos (by omega)]) | (rw [wiN, if_neg (by omega)])) hE) (lv_sub hl [4, 1, 5, 6, 0] rfl)
          · have c11 : ¬ ((((wiN κ p9 j r x i).2) (wcl κ p9 i j)) ≤ ((r i) + 1)) := fun h => c11 ((nI_leI (by omega) (by omega)).mpr h)
            refine lv_iload hx hb dM_work_149 (lv_at hl 1 rfl) ?_
            refine lv_goto (tgt := 161) hx hb dM_work_151 (by decide) ?_
            refine w_iast C hk hE 6 (by exact Nat.le_of_ble_eq_true rfl) (n := 486) (fun _ => rfl) (by omega) (by first | decide | omega) dM_work_161 (fun H locs hE => ?_)
            rw [msr_set6] at hE
            refine lv_iinc (v := nI (i + 1)) (lv' := [(4, .int (nI (i + 1))), (1, .int (nI 1)), (6, .int (nI ((r i) + 1))), (5, .int (nI (wcl κ p9 i j))), (0, .ref (ad 0)), (2, .int (nI p9)), (3, .int (nI j))]) hx hb dM_work_162 hl (k := 6) rfl (by exact nI_1 _) (by decide) rfl (fun ls hl => ?_)
            refine lv_goto (tgt := 73) hx hb dM_work_165 (by decide) ?_
            have ev13 : (nI 1 : Int32) = zb (wiN κ p9 j r x (i + 1)).1 := by first | (exfalso; omega) | (rw [wiN]; simp [zb, c3, c7]; try omega)
            rw [ev13] at hl
            exact ih (i + 1) (by omega) (by omega) _ _ ls (wS_eq (show msr κ (updN ((wiN κ p9 j r x i).2) (wcl κ p9 i j) ((r i) + 1)) r = msr κ (wiN κ p9 j r x (i + 1)).2 r by first | (exfalso; omega) | (rw [wiN, if_pos (by omega)]) | (rw [wiN, if_neg (by omega)])) hE) (lv_sub hl [4, 1, 5, 6, 0] rfl)
set_option maxHeartbeats 4000000 in
set_option maxRecDepth 100000 in
theorem lp_M_wk4 {p : Program} {l : Launch} {e : Env} {s : State} {m : MethodId} {below : List Frame} {meth : Method} {c : Code} {D : va_G} {cs : Nat → ClassId} {ad : Nat → Nat} {A : Nat → Prop} {Q : State → Prop} {σ κ : Mem} {s9 r9 : Nat → Nat} {P n9 : Nat} (C : bC p s m ([.ref (ad 0)] : List Value).toArray meth c bM_work 7 "EarleyChartModel" none) (hk : wk D cs s) (hA : ∀ q : Nat, s.heap.size ≤ q → A q) (hκ : κ = mset σ 0 12 (nI 1)) (hgσ : mG σ P) (hn7 : σ 0 7 = nI n9) (hn8 : n9 ≤ 8) (hs9 : leN s9) (hr9 : leN r9) (p9 : Nat) (x : WT) (hpp : p9 < P) (hlx : lW x) (K : ∀ (H : Heap) (locs : List Loc) (ls : Array Slot), wS (wM D cs ad) A s.heap (msr κ (wjN κ p9 x (n9 + 1)).2.1 (wjN κ p9 x (n9 + 1)).2.2) H locs → lv_has ls 7 [(0, .ref (ad 0)), (1, .int (zb (wjN κ p9 x (n9 + 1)).1)), (2, .int (nI p9))] → W p l e (rmF 2 50) s m ([.ref (ad 0)] : List Value).toArray below meth c H locs 0 0 Q (F0 m 174 ls [])) :
    ∀ (n : Nat) (j : Nat), (n9 + 1 - j) < n → (j ≤ n9 + 1) → ∀ (H : Heap) (locs : List Loc) (ls : Array Slot), wS (wM D cs ad) A s.heap (msr κ (wjN κ p9 x j).2.1 (wjN κ p9 x j).2.2) H locs → lv_has ls 7 [(0, .ref (ad 0)), (1, .int (zb (wjN κ p9 x j).1)), (2, .int (nI p9)), (3, .int (nI j))] → W p l e (rmF 2 50) s m ([.ref (ad 0)] : List Value).toArray below meth c H locs 0 0 Q (F0 m 56 ls []) := by
  obtain ⟨hx, hb, hml, hown, hts, hr, hlocks⟩ := id C
  have hg : mG κ P := by rw [hκ]; exact mG_of hgσ (mset_i (by decide)) (mset_n (by decide)) (mset_n (by decide)) (mset_n (by decide))
  have hk7 : κ 0 7 = nI n9 := by rw [hκ, mset_i (by decide)]; exact hn7
  have hP8 := hg.1
  intro n
  induction n with
  | zero => intro j h; exact absurd h (Nat.not_lt_zero _)
  | succ n ih =>
    intro j hn hj9 H locs ls hE hl
    have hl6 := (hg.2.2 p9 hpp).2.1
    refine lv_iload_n hx hb dM_work_56 rfl (lv_at hl 3 rfl) ?_
    refine lv_aload_n hx hb dM_work_57 rfl (lv_at hl 0 rfl) ?_
    refine w_get C hk hE (K := R_M) (T := F_M) (N := 17) (ci := 6) in_M 0 (Nat.le_of_ble_eq_true rfl) rfl rfl 7 (by decide) tw_589 rfl rfl dM_work_58 ?_
    refine w_top (y := κ 0 7) (by simp [mset, mrow, upd, mhc, msr, nR]) ?_
    refine w_top (y := nI n9) (hk7) ?_
    refine lv_icmp_gt (tgt := 174) hx hb dM_work_61 (by decide) (fun c1 => ?_) (fun c1 => ?_)
    · have c1 : n9 < j := (nI_ltI (by omega) (by omega)).mp c1
      have ev2 : (zb (wjN κ p9 x j).1 : Int32) = zb (wjN κ p9 x (n9 + 1)).1 := by rw [show n9 + 1 = j by omega]
      rw [ev2] at hl
      exact K  _ _ ls (wS_eq (show msr κ (wjN κ p9 x j).2.1 (wjN κ p9 x j).2.2 = msr κ (wjN κ p9 x (n9 + 1)).2.1 (wjN κ p9 x (n9 + 1)).2.2 by rw [show n9 + 1 = j by omega]) hE) (lv_sub hl [0, 1, 2] rfl)
    · have c1 : ¬ (n9 < j) := fun h => c1 ((nI_ltI (by omega) (by omega)).mpr h)
      refine lv_aload_n hx hb dM_work_64 rfl (lv_at hl 0 rfl) ?_
      refine lv_iload_n hx hb dM_work_65 rfl (lv_at hl 2 rfl) ?_
      refine lv_iload_n hx hb dM_work_66 rfl (lv_at hl 3 rfl) ?_
      refine w_cv hE hA (w_runV C hk hE hl.1 (As := [.int (nI p9), .int (nI j)]) (rest := []) (q := 0) (c_M_row l D cs ad κ ((wjN κ p9 x j).2.1) ((wjN κ p9 x j).2.2) P p9 j hg (by omega) (by omega) (((wjN_ok (x := x) hl6 j (by omega)).2.2 hlx).1) (((wjN_ok (x := x) hl6 j (by omega)).2.2 hlx).2) _) (Nat.le_of_ble_eq_true rfl) (ci := 6) (N := 17) (T := F_M) rfl rfl tw_716 tw_718 ts_30 tw_9 tw_719 (n := 2) (by decide +kernel) rfl rfl (Nat.le_of_ble_eq_true rfl) dM_work_67 ⟨Nat.le_of_ble_eq_true rfl, Nat.le_of_ble_eq_true rfl⟩ ⟨Nat.zero_le _, Nat.zero_le _⟩) (fun τ4 H locs hp hE _ _ => ?_)
      have hE := wS_eq hp hE
      refine lv_iconst (v := nI 0) hx hb dM_work_70 (by decide) ?_
      refine lv_istore (lv' := [(4, .int (nI 0)), (0, .ref (ad 0)), (1, .int (zb (wjN κ p9 x j).1)), (2, .int (nI p9)), (3, .int (nI j))]) hx hb dM_work_71 hl (by decide) rfl (fun ls hl => ?_)
      have ev5 : (zb (wjN κ p9 x j).1 : Int32) = zb (wiN κ p9 j (rowN κ ((wjN κ p9 x j).2.1) p9 j ((wjN κ p9 x j).2.2)) ((wjN κ p9 x j).1, (wjN κ p9 x j).2.1) 0).1 := by rfl
      rw [ev5] at hl
      refine lp_M_wk5 C hk hA hκ hgσ hn7 hn8 hs9 hr9 p9 j (rowN κ ((wjN κ p9 x j).2.1) p9 j ((wjN κ p9 x j).2.2)) ((wjN κ p9 x j).1, (wjN κ p9 x j).2.1) (hpp) (by omega) (leN_row ((wjN_ok (x := x) hl6 j (by omega)).2.2 hlx).2) (((wjN_ok (x := x) hl6 j (by omega)).2.2 hlx).1) (fun H locs ls hE hl => ?_) _ 0 (Nat.lt_succ_self _) (Nat.zero_le _) _ _ ls (wS_eq (show msr κ ((wjN κ p9 x j).2.1) (rowN κ ((wjN κ p9 x j).2.1) p9 j ((wjN κ p9 x j).2.2)) = msr κ (wiN κ p9 j (rowN κ ((wjN κ p9 x j).2.1) p9 j ((wjN κ p9 x j).2.2)) ((wjN κ p9 x j).1, (wjN κ p9 x j).2.1) 0).2 (rowN κ ((wjN κ p9 x j).2.1) p9 j ((wjN κ p9 x j).2.2)) by rfl) hE) (lv_sub hl [1, 2, 3, 4, 0] rfl)
      refine lv_iinc (v := nI (j + 1)) (lv' := [(3, .int (nI (j + 1))), (0, .ref (ad 0)), (1, .int (zb (wiN κ p9 j (rowN κ ((wjN κ p9 x j).2.1) p9 j ((wjN κ p9 x j).2.2)) ((wjN κ p9 x j).1, (wjN κ p9 x j).2.1) (j + 1)).1)), (2, .int (nI p9))]) hx hb dM_work_168 hl (k := 3) rfl (by exact nI_1 _) (by decide) rfl (fun ls hl => ?_)
      refine lv_goto (tgt := 56) hx hb dM_work_171 (by decide) ?_
      have ev6 : (zb (wiN κ p9 j (rowN κ ((wjN κ p9 x j).2.1) p9 j ((wjN κ p9 x j).2.2)) ((wjN κ p9 x j).1, (wjN κ p9 x j).2.1) (j + 1)).1 : Int32) = zb (wjN κ p9 x (j + 1)).1 := by rfl
      rw [ev6] at hl
      exact ih (j + 1) (by omega) (by omega) _ _ ls (wS_eq (show msr κ (wiN κ p9 j (rowN κ ((wjN κ p9 x j).2.1) p9 j ((wjN κ p9 x j).2.2)) ((wjN κ p9 x j).1, (wjN κ p9 x j).2.1) (j + 1)).2 (rowN κ ((wjN κ p9 x j).2.1) p9 j ((wjN κ p9 x j).2.2)) = msr κ (wjN κ p9 x (j + 1)).2.1 (wjN κ p9 x (j + 1)).2.2 by rfl) hE) (lv_sub hl [1, 2, 3, 0] rfl)
set_option maxHeartbeats 4000000 in
set_option maxRecDepth 100000 in
theorem lp_M_wk3 {p : Program} {l : Launch} {e : Env} {s : State} {m : MethodId} {below : List Frame} {meth : Method} {c : Code} {D : va_G} {cs : Nat → ClassId} {ad : Nat → Nat} {A : Nat → Prop} {Q : State → Prop} {σ κ : Mem} {s9 r9 : Nat → Nat} {P n9 : Nat} (C : bC p s m ([.ref (ad 0)] : List Value).toArray meth c bM_work 7 "EarleyChartModel" none) (hk : wk D cs s) (hA : ∀ q : Nat, s.heap.size ≤ q → A q) (hκ : κ = mset σ 0 12 (nI 1)) (hgσ : mG σ P) (hn7 : σ 0 7 = nI n9) (hn8 : n9 ≤ 8) (hs9 : leN s9) (hr9 : leN r9) (x : WT) (hlx : lW x) (K : ∀ (H : Heap) (locs : List Loc) (ls : Array Slot), wS (wM D cs ad) A s.heap (msr κ (wpN κ n9 x P).2.1 (wpN κ n9 x P).2.2) H locs → lv_has ls 7 [(0, .ref (ad 0)), (1, .int (zb (wpN κ n9 x P).1))] → W p l e (rmF 2 50) s m ([.ref (ad 0)] : List Value).toArray below meth c H locs 0 0 Q (F0 m 180 ls [])) :
    ∀ (n : Nat) (p9 : Nat), (P - p9) < n → (p9 ≤ P) → ∀ (H : Heap) (locs : List Loc) (ls : Array Slot), wS (wM D cs ad) A s.heap (msr κ (wpN κ n9 x p9).2.1 (wpN κ n9 x p9).2.2) H locs → lv_has ls 7 [(0, .ref (ad 0)), (1, .int (zb (wpN κ n9 x p9).1)), (2, .int (nI p9))] → W p l e (rmF 2 50) s m ([.ref (ad 0)] : List Value).toArray below meth c H locs 0 0 Q (F0 m 46 ls []) := by
  obtain ⟨hx, hb, hml, hown, hts, hr, hlocks⟩ := id C
  have hg : mG κ P := by rw [hκ]; exact mG_of hgσ (mset_i (by decide)) (mset_n (by decide)) (mset_n (by decide)) (mset_n (by decide))
  have hk7 : κ 0 7 = nI n9 := by rw [hκ, mset_i (by decide)]; exact hn7
  have hP8 := hg.1
  intro n
  induction n with
  | zero => intro p9 h; exact absurd h (Nat.not_lt_zero _)
  | succ n ih =>
    intro p9 hn hp9 H locs ls hE hl
    refine lv_iload_n hx hb dM_work_46 rfl (lv_at hl 2 rfl) ?_
    refine lv_aload_n hx hb dM_work_47 rfl (lv_at hl 0 rfl) ?_
    refine w_get C hk hE (K := R_M) (T := F_M) (N := 17) (ci := 6) in_M 0 (Nat.le_of_ble_eq_true rfl) rfl rfl 3 (by decide) tw_585 rfl rfl dM_work_48 ?_
    refine w_top (y := κ 0 3) (by simp [mset, mrow, upd, mhc, msr, nR]) ?_
    refine w_top (y := nI P) (hg.2.1) ?_
    refine lv_icmp_ge (tgt := 180) hx hb dM_work_51 (by decide) (fun c1 => ?_) (fun c1 => ?_)
    · have c1 : P ≤ p9 := (nI_leI (by omega) (by omega)).mp c1
      have ev2 : (zb (wpN κ n9 x p9).1 : Int32) = zb (wpN κ n9 x P).1 := by rw [show P = p9 by omega]
      rw [ev2] at hl
      exact K  _ _ ls (wS_eq (show msr κ (wpN κ n9 x p9).2.1 (wpN κ n9 x p9).2.2 = msr κ (wpN κ n9 x P).2.1 (wpN κ n9 x P).2.2 by rw [show P = p9 by omega]) hE) (lv_sub hl [0, 1] rfl)
    · have c1 : ¬ (P ≤ p9) := fun h => c1 ((nI_leI (by omega) (by omega)).mpr h)
      refine lv_iconst (v := nI 0) hx hb dM_work_54 (by decide) ?_
      refine lv_istore_n (lv' := [(3, .int (nI 0)), (0, .ref (ad 0)), (1, .int (zb (wpN κ n9 x p9).1)), (2, .int (nI p9))]) hx hb dM_work_55 rfl hl (by decide) rfl (fun ls hl => ?_)
      have ev3 : (zb (wpN κ n9 x p9).1 : Int32) = zb (wjN κ p9 (wpN κ n9 x p9) 0).1 := by rfl
      rw [ev3] at hl
      refine lp_M_wk4 C hk hA hκ hgσ hn7 hn8 hs9 hr9 p9 (wpN κ n9 x p9) (by omega) ((wpN_ok hg hn8 p9 (by omega)).2.2 hlx) (fun H locs ls hE hl => ?_) _ 0 (Nat.lt_succ_self _) (Nat.zero_le _) _ _ ls (wS_eq (show msr κ (wpN κ n9 x p9).2.1 (wpN κ n9 x p9).2.2 = msr κ (wjN κ p9 (wpN κ n9 x p9) 0).2.1 (wjN κ p9 (wpN κ n9 x p9) 0).2.2 by rfl) hE) (lv_sub hl [1, 2, 3, 0] rfl)
      refine lv_iinc (v := nI (p9 + 1)) (lv' := [(2, .int (nI (p9 + 1))), (0, .ref (ad 0)), (1, .int (zb (wjN κ p9 (wpN κ n9 x p9) (n9 + 1)).1))]) hx hb dM_work_174 hl (k := 2) rfl (by exact nI_1 _) (by decide) rfl (fun ls hl => ?_)
      refine lv_goto (tgt := 46) hx hb dM_work_177 (by decide) ?_
      have ev4 : (zb (wjN κ p9 (wpN κ n9 x p9) (n9 + 1)).1 : Int32) = zb (wpN κ n9 x (p9 + 1)).1 := by rfl
      rw [ev4] at hl
      exact ih (p9 + 1) (by omega) (by omega) _ _ ls (wS_eq (show msr κ (wjN κ p9 (wpN κ n9 x p9) (n9 + 1)).2.1 (wjN κ p9 (wpN κ n9 x p9) (n9 + 1)).2.2 = msr κ (wpN κ n9 x (p9 + 1)).2.1 (wpN κ n9 x (p9 + 1)).2.2 by rfl) hE) (lv_sub hl [1, 2, 0] rfl)
set_option maxHeartbeats 4000000 in
set_option maxRecDepth 100000 in
theorem lp_M_wk2 {p : Program} {l : Launch} {e : Env} {s : State} {m : MethodId} {below : List Frame} {meth : Method} {c : Code} {D : va_G} {cs : Nat → ClassId} {ad : Nat → Nat} {A : Nat → Prop} {σ κ : Mem} {s9 r9 : Nat → Nat} {P n9 : Nat} (C : bC p s m ([.ref (ad 0)] : List Value).toArray meth c bM_work 7 "EarleyChartModel" none) (hk : wk D cs s) (hA : ∀ q : Nat, s.heap.size ≤ q → A q) (hκ : κ = mset σ 0 12 (nI 1)) (hgσ : mG σ P) (hn7 : σ 0 7 = nI n9) (hn8 : n9 ≤ 8) (hs9 : leN s9) (hr9 : leN r9)   :
    ∀ (n : Nat) (x : WT), (zeW x) < n → (σ 0 12 = 0) → (lW x) → (∃ N0, ∀ N, wkN κ P n9 (N0 + N) (true, fillN s9 1000000 486, r9) = wkN κ P n9 N x) → ∀ (H : Heap) (locs : List Loc) (ls : Array Slot), wS (wM D cs ad) A s.heap (msr κ x.2.1 x.2.2) H locs → lv_has ls 7 [(0, .ref (ad 0)), (1, .int (zb x.1))] → W p l e (rmF 2 50) s m ([.ref (ad 0)] : List Value).toArray below meth c H locs 0 0 (wQv (wM D cs ad) A (wrkP σ P n9 s9 r9) s below ([.ref (ad 0)] : List Value).toArray) (F0 m 38 ls []) := by
  obtain ⟨hx, hb, hml, hown, hts, hr, hlocks⟩ := id C
  have hg : mG κ P := by rw [hκ]; exact mG_of hgσ (mset_i (by decide)) (mset_n (by decide)) (mset_n (by decide)) (mset_n (by decide))
  have hk7 : κ 0 7 = nI n9 := by rw [hκ, mset_i (by decide)]; exact hn7
  have hP8 := hg.1
  intro n
  induction n with
  | zero => intro x h; exact absurd h (Nat.not_lt_zero _)
  | succ n ih =>
    intro x hn hkn0 hlx hres H locs ls hE hl
    refine lv_iload_n hx hb dM_work_38 rfl (lv_at hl 1 rfl) ?_
    refine lv_if_eq (tgt := 183) hx hb dM_work_39 (by decide) (fun c1 => ?_) (fun c1 => ?_)
    · have c1 := zb_eq0 c1
      exact w_retv C hE (wk_exit hκ hkn0 c1 hlx hres) dM_work_183
    · have c1 := zb_ne0 c1
      refine lv_iconst (v := nI 0) hx hb dM_work_42 (by decide) ?_
      refine lv_istore_n (lv' := [(1, .int (nI 0)), (0, .ref (ad 0))]) hx hb dM_work_43 rfl hl (by decide) rfl (fun ls hl => ?_)
      refine lv_iconst (v := nI 0) hx hb dM_work_44 (by decide) ?_
      refine lv_istore_n (lv' := [(2, .int (nI 0)), (1, .int (nI 0)), (0, .ref (ad 0))]) hx hb dM_work_45 rfl hl (by decide) rfl (fun ls hl => ?_)
      have ev2 : (nI 0 : Int32) = zb (wpN κ n9 (false, x.2.1, x.2.2) 0).1 := by rfl
      rw [ev2] at hl
      refine lp_M_wk3 C hk hA hκ hgσ hn7 hn8 hs9 hr9 (false, x.2.1, x.2.2) (hlx) (fun H locs ls hE hl => ?_) _ 0 (Nat.lt_succ_self _) (Nat.zero_le _) _ _ ls (wS_eq (show msr κ x.2.1 x.2.2 = msr κ (wpN κ n9 (false, x.2.1, x.2.2) 0).2.1 (wpN κ n9 (false, x.2.1, x.2.2) 0).2.2 by rfl) hE) (lv_sub hl [2, 1, 0] rfl)
      refine lv_goto (tgt := 38) hx hb dM_work_180 (by decide) ?_
      exact ih (wpN κ n9 (false, x.2.1, x.2.2) P) (Nat.lt_of_lt_of_le (zeW_lt c1 (wpN_ok hg hn8 P (Nat.le_refl _))) (Nat.le_of_lt_succ hn)) (hkn0) ((wpN_ok hg hn8 P (Nat.le_refl _)).2.2 hlx) (wk_back c1 hres) _ _ ls hE (lv_sub hl [0, 1] rfl)
set_option maxHeartbeats 4000000 in
set_option maxRecDepth 100000 in
theorem lp_M_wk1 {p : Program} {l : Launch} {e : Env} {s : State} {m : MethodId} {below : List Frame} {meth : Method} {c : Code} {D : va_G} {cs : Nat → ClassId} {ad : Nat → Nat} {A : Nat → Prop} {Q : State → Prop} {σ κ : Mem} {s9 r9 : Nat → Nat} {P n9 : Nat} (C : bC p s m ([.ref (ad 0)] : List Value).toArray meth c bM_work 7 "EarleyChartModel" none) (hk : wk D cs s) (hA : ∀ q : Nat, s.heap.size ≤ q → A q) (hκ : κ = mset σ 0 12 (nI 1)) (hgσ : mG σ P) (hn7 : σ 0 7 = nI n9) (hn8 : n9 ≤ 8) (hs9 : leN s9) (hr9 : leN r9)   (K : ∀ (H : Heap) (locs : List Loc) (ls : Array Slot), wS (wM D cs ad) A s.heap (msr κ (fillN s9 1000000 486) r9) H locs → lv_has ls 7 [(0, .ref (ad 0))] → W p l e (rmF 2 50) s m ([.ref (ad 0)] : List Value).toArray below meth c H locs 0 0 Q (F0 m 36 ls [])) :
    ∀ (n : Nat) (i : Nat), (486 - i) < n → (i ≤ 486) → ∀ (H : Heap) (locs : List Loc) (ls : Array Slot), wS (wM D cs ad) A s.heap (msr κ (fillN s9 1000000 i) r9) H locs → lv_has ls 7 [(0, .ref (ad 0)), (1, .int (nI i))] → W p l e (rmF 2 50) s m ([.ref (ad 0)] : List Value).toArray below meth c H locs 0 0 Q (F0 m 15 ls []) := by
  obtain ⟨hx, hb, hml, hown, hts, hr, hlocks⟩ := id C
  have hg : mG κ P := by rw [hκ]; exact mG_of hgσ (mset_i (by decide)) (mset_n (by decide)) (mset_n (by decide)) (mset_n (by decide))
  have hk7 : κ 0 7 = nI n9 := by rw [hκ, mset_i (by decide)]; exact hn7
  have hP8 := hg.1
  intro n
  induction n with
  | zero => intro i h; exact absurd h (Nat.not_lt_zero _)
  | succ n ih =>
    intro i hn hi H locs ls hE hl
    refine lv_iload_n hx hb dM_work_15 rfl (lv_at hl 1 rfl) ?_
    refine lv_sipush (v := nI 486) hx hb dM_work_16 (by decide) ?_
    refine lv_icmp_ge (tgt := 36) hx hb dM_work_19 (by decide) (fun c1 => ?_) (fun c1 => ?_)
    · have c1 : 486 ≤ i := (nI_leI (by omega) (by omega)).mp c1
      exact K  _ _ ls (wS_eq (show msr κ (fillN s9 1000000 i) r9 = msr κ (fillN s9 1000000 486) r9 by rw [show 486 = i by omega]) hE) (lv_sub hl [0] rfl)
    · have c1 : ¬ (486 ≤ i) := fun h => c1 ((nI_leI (by omega) (by omega)).mpr h)
      refine lv_aload_n hx hb dM_work_22 rfl (lv_at hl 0 rfl) ?_
      refine w_get C hk hE (K := R_M) (T := F_M) (N := 17) (ci := 6) in_M 0 (Nat.le_of_ble_eq_true rfl) rfl rfl 11 (by decide) tw_593 rfl rfl dM_work_23 ?_
      refine lv_iload_n hx hb dM_work_26 rfl (lv_at hl 1 rfl) ?_
      refine lv_ldc (v := nI 1000000) hx hb hown (hts _ tw_715) dM_work_27 ?_
      refine w_iast C hk hE 6 (by exact Nat.le_of_ble_eq_true rfl) (n := 486) (fun _ => rfl) (by omega) (by first | decide | omega) dM_work_29 (fun H locs hE => ?_)
      rw [msr_set6] at hE
      refine lv_iinc (v := nI (i + 1)) (lv' := [(1, .int (nI (i + 1))), (0, .ref (ad 0))]) hx hb dM_work_30 hl (k := 1) rfl (by exact nI_1 _) (by decide) rfl (fun ls hl => ?_)
      refine lv_goto (tgt := 15) hx hb dM_work_33 (by decide) ?_
      exact ih (i + 1) (by omega) (by omega) _ _ ls (wS_eq (show msr κ (updN (fillN s9 1000000 i) i 1000000) r9 = msr κ (fillN s9 1000000 (i + 1)) r9 by rw [fillN_s]) hE) (lv_sub hl [1, 0] rfl)
set_option maxHeartbeats 4000000 in
set_option maxRecDepth 100000 in
theorem c_M_work (l : Launch) (D : va_G) (cs : Nat → ClassId) (ad : Nat → Nat) (σ κ : Mem) (s9 r9 : Nat → Nat) (P n9 : Nat) (hκ : κ = mset σ 0 12 (nI 1)) (hgσ : mG σ P) (hn7 : σ 0 7 = nI n9) (hn8 : n9 ≤ 8) (hs9 : leN s9) (hr9 : leN r9) : MetV l (wM D cs ad) cs yM_work bM_work 7 2 50 [.ref (ad 0)] (msr σ s9 r9) (wrkP σ P n9 s9 r9) := by
  refine MetV.start (by decide) (Nat.le_of_ble_eq_true rfl) ?_
  intro p e s m below meth c A ls C hk hA hE hl
  obtain ⟨hx, hb, hml, hown, hts, hr, hlocks⟩ := id C
  have hl : lv_has ls 7 [(0, .ref (ad 0))] := hl
  have hg : mG κ P := by rw [hκ]; exact mG_of hgσ (mset_i (by decide)) (mset_n (by decide)) (mset_n (by decide)) (mset_n (by decide))
  have hk7 : κ 0 7 = nI n9 := by rw [hκ, mset_i (by decide)]; exact hn7
  have hP8 := hg.1
  refine lv_aload_n hx hb dM_work_0 rfl (lv_at hl 0 rfl) ?_
  refine w_get C hk hE (K := R_M) (T := F_M) (N := 17) (ci := 6) in_M 0 (Nat.le_of_ble_eq_true rfl) rfl rfl 12 (by decide) tw_594 rfl rfl dM_work_1 ?_
  refine w_top (y := σ 0 12) (by simp [mset, mrow, upd, mhc, msr, nR]) ?_
  refine lv_if_eq (tgt := 8) hx hb dM_work_4 (by decide) (fun c1 => ?_) (fun c1 => ?_)
  · refine lv_aload_n hx hb dM_work_8 rfl (lv_at hl 0 rfl) ?_
    refine lv_iconst (v := nI 1) hx hb dM_work_9 (by decide) ?_
    refine w_put C hk hE (K := R_M) (T := F_M) (N := 17) (ci := 6) in_M ft_M_ok fn_M 0 (Nat.le_of_ble_eq_true rfl) rfl rfl 12 (by decide) tw_594 rfl rfl (rfl) (rfl) (Nat.le_of_ble_eq_true rfl) rfl dM_work_10 (fun H locs hE => ?_)
    rw [mset_msr (by decide) (by decide)] at hE
    rw [← hκ] at hE
    refine lv_iconst (v := nI 0) hx hb dM_work_13 (by decide) ?_
    refine lv_istore_n (lv' := [(1, .int (nI 0)), (0, .ref (ad 0))]) hx hb dM_work_14 rfl hl (by decide) rfl (fun ls hl => ?_)
    refine lp_M_wk1 C hk hA hκ hgσ hn7 hn8 hs9 hr9   (fun H locs ls hE hl => ?_) _ 0 (Nat.lt_succ_self _) (by decide) _ _ ls (wS_eq (show msr κ s9 r9 = msr κ (fillN s9 1000000 0) r9 by rw [fillN_0]) hE) (lv_sub hl [1, 0] rfl)
    refine lv_iconst (v := nI 1) hx hb dM_work_36 (by decide) ?_
    refine lv_istore_n (lv' := [(1, .int (nI 1)), (0, .ref (ad 0))]) hx hb dM_work_37 rfl hl (by decide) rfl (fun ls hl => ?_)
    have ev2 : (nI 1 : Int32) = zb (true, fillN s9 1000000 486, r9).1 := by rfl
    rw [ev2] at hl
    exact lp_M_wk2 C hk hA hκ hgσ hn7 hn8 hs9 hr9 _ (true, fillN s9 1000000 486, r9) (Nat.lt_succ_self _) (c1) (⟨leN_fill hs9, hr9⟩) (⟨0, fun N => by rw [Nat.zero_add]⟩) _ _ ls (wS_eq (show msr κ (fillN s9 1000000 486) r9 = msr κ (true, fillN s9 1000000 486, r9).2.1 (true, fillN s9 1000000 486, r9).2.2 by rfl) hE) (lv_sub hl [1, 0] rfl)
  · exact w_retv C hE (Or.inl ⟨c1, rfl⟩) dM_work_7
set_option maxHeartbeats 4000000 in
set_option maxRecDepth 100000 in
theorem lp_M_choose {p : Program} {l : Launch} {e : Env} {s : State} {m : MethodId} {below : List Frame} {meth : Method} {c : Code} {D : va_G} {cs : Nat → ClassId} {ad : Nat → Nat} {A : Nat → Prop} {σ : Mem} {s9 r9 : Nat → Nat} {P v i j : Nat} (C : bC p s m ([.ref (ad 0), .int (nI v), .int (nI i), .int (nI j)] : List Value).toArray meth c bM_choose 6 "EarleyChartModel" (some .int)) (hk : wk D cs s) (hA : ∀ q : Nat, s.heap.size ≤ q → A q) (hg : mG σ P) (hv : v < 6) (hi : i ≤ j) (hj : j < 9) (hs9 : leN s9) (hr9 : leN r9)   :
    ∀ (n : Nat) (p9 : Nat) (x : Nat → Nat), (P - p9) < n → (p9 ≤ P) → (leN x) → (chN σ s9 v i j (P - p9) p9 x = chN σ s9 v i j P 0 r9) → ∀ (H : Heap) (locs : List Loc) (ls : Array Slot), wS (wM D cs ad) A s.heap (msr σ s9 x) H locs → lv_has ls 6 [(0, .ref (ad 0)), (1, .int (nI v)), (2, .int (nI i)), (3, .int (nI j)), (4, .int (nI (stN σ s9 v i j))), (5, .int (nI p9))] → W p l e (rmF 2 50) s m ([.ref (ad 0), .int (nI v), .int (nI i), .int (nI j)] : List Value).toArray below meth c H locs 0 0 (wQi (wM D cs ad) A (fun r τ => r = (chN σ s9 v i j P 0 r9).1 ∧ τ = msr σ s9 (chN σ s9 v i j P 0 r9).2) s below ([.ref (ad 0), .int (nI v), .int (nI i), .int (nI j)] : List Value).toArray) (F0 m 12 ls []) := by
  obtain ⟨hx, hb, hml, hown, hts, hr, hlocks⟩ := id C
  have hP8 := hg.1
  intro n
  induction n with
  | zero => intro p9 x h; exact absurd h (Nat.not_lt_zero _)
  | succ n ih =>
    intro p9 x hn hp9 hx9 hres H locs ls hE hl
    refine lv_iload hx hb dM_choose_12 (lv_at hl 5 rfl) ?_
    refine lv_aload_n hx hb dM_choose_14 rfl (lv_at hl 0 rfl) ?_
    refine w_get C hk hE (K := R_M) (T := F_M) (N := 17) (ci := 6) in_M 0 (Nat.le_of_ble_eq_true rfl) rfl rfl 3 (by decide) tw_585 rfl rfl dM_choose_15 ?_
    refine w_top (y := σ 0 3) (by simp [mset, mrow, upd, mhc, msr, nR]) ?_
    refine w_top (y := nI P) (hg.2.1) ?_
    refine lv_icmp_ge (tgt := 61) hx hb dM_choose_18 (by decide) (fun c1 => ?_) (fun c1 => ?_)
    · have c1 : P ≤ p9 := (nI_leI (by omega) (by omega)).mp c1
      refine lv_iconst (v := (-1)) hx hb dM_choose_61 (by decide) ?_
      exact w_reti C hE (⟨by rw [← hres, show P - p9 = 0 by omega, chN], by rw [← hres, show P - p9 = 0 by omega, chN]⟩) dM_choose_62
    · have c1 : ¬ (P ≤ p9) := fun h => c1 ((nI_leI (by omega) (by omega)).mpr h)
      have hl6 := (hg.2.2 p9 (by omega)).2.1
      refine lv_aload_n hx hb dM_choose_21 rfl (lv_at hl 0 rfl) ?_
      refine w_get C hk hE (K := R_M) (T := F_M) (N := 17) (ci := 6) in_M 0 (Nat.le_of_ble_eq_true rfl) rfl rfl 4 (by decide) tw_586 rfl rfl dM_choose_22 ?_
      refine lv_iload hx hb dM_choose_25 (lv_at hl 5 rfl) ?_
      refine w_iald C hk hE 1 (by exact Nat.le_of_ble_eq_true rfl) (n := 8) rfl (by omega) (by first | decide | omega) dM_choose_27 ?_
      refine w_top (y := σ 1 p9) (by simp [mset, mrow, upd, mhc, msr, nR]) ?_
      refine w_top (y := nI (ml σ p9)) ((hg.2.2 p9 (by omega)).1) ?_
      refine lv_iload_n hx hb dM_choose_28 rfl (lv_at hl 1 rfl) ?_
      refine lv_icmp_ne (tgt := 55) hx hb dM_choose_29 (by decide) (fun c2 => ?_) (fun c2 => ?_)
      · have c2 : ¬ ((ml σ p9) = v) := fun h => c2 ((nI_eq (by omega) (by omega)).mpr h)
        refine lv_iinc (v := nI (p9 + 1)) (lv' := [(5, .int (nI (p9 + 1))), (0, .ref (ad 0)), (1, .int (nI v)), (2, .int (nI i)), (3, .int (nI j)), (4, .int (nI (stN σ s9 v i j)))]) hx hb dM_choose_55 hl (k := 5) rfl (by exact nI_1 _) (by decide) rfl (fun ls hl => ?_)
        refine lv_goto (tgt := 12) hx hb dM_choose_58 (by decide) ?_
        exact ih (p9 + 1) x (by omega) (by omega) (hx9) (by rw [← hres, show P - p9 = (P - (p9 + 1)) + 1 by omega, chN]; simp only [c2, if_true, if_false]) _ _ ls hE (lv_sub hl [1, 2, 3, 4, 5, 0] rfl)
      · have c2 : (ml σ p9) = v := (nI_eq (by omega) (by omega)).mp c2
        refine lv_aload_n hx hb dM_choose_32 rfl (lv_at hl 0 rfl) ?_
        refine lv_iload hx hb dM_choose_33 (lv_at hl 5 rfl) ?_
        refine lv_iload_n hx hb dM_choose_35 rfl (lv_at hl 3 rfl) ?_
        refine w_cv hE hA (w_runV C hk hE hl.1 (As := [.int (nI p9), .int (nI j)]) (rest := []) (q := 0) (c_M_row l D cs ad σ s9 x P p9 j hg (by omega) hj hs9 hx9 _) (Nat.le_of_ble_eq_true rfl) (ci := 6) (N := 17) (T := F_M) rfl rfl tw_716 tw_718 ts_30 tw_9 tw_719 (n := 2) (by decide +kernel) rfl rfl (Nat.le_of_ble_eq_true rfl) dM_choose_36 ⟨Nat.le_of_ble_eq_true rfl, Nat.le_of_ble_eq_true rfl⟩ ⟨Nat.zero_le _, Nat.zero_le _⟩) (fun τ4 H locs hp hE _ _ => ?_)
        have hE := wS_eq hp hE
        refine lv_aload_n hx hb dM_choose_39 rfl (lv_at hl 0 rfl) ?_
        refine w_get C hk hE (K := R_M) (T := F_M) (N := 17) (ci := 6) in_M 0 (Nat.le_of_ble_eq_true rfl) rfl rfl 13 (by decide) tw_595 rfl rfl dM_choose_40 ?_
        refine lv_iload_n hx hb dM_choose_43 rfl (lv_at hl 2 rfl) ?_
        refine w_iald C hk hE 7 (by exact Nat.le_of_ble_eq_true rfl) (n := 45) rfl (by omega) (by first | decide | omega) dM_choose_44 ?_
        refine w_top (y := nI ((rowN σ s9 p9 j x) i)) (by first | exact msr_7 | exact congrFun msr_7 _) ?_
        refine lv_iload hx hb dM_choose_45 (lv_at hl 4 rfl) ?_
        refine lv_iconst (v := nI 1) hx hb dM_choose_47 (by decide) ?_
        refine lv_isub hx hb dM_choose_48 ?_
        refine lv_icmp_ne (tgt := 55) hx hb dM_choose_49 (by decide) (fun c5 => ?_) (fun c5 => ?_)
        · refine lv_iinc (v := nI (p9 + 1)) (lv' := [(5, .int (nI (p9 + 1))), (0, .ref (ad 0)), (1, .int (nI v)), (2, .int (nI i)), (3, .int (nI j)), (4, .int (nI (stN σ s9 v i j)))]) hx hb dM_choose_55 hl (k := 5) rfl (by exact nI_1 _) (by decide) rfl (fun ls hl => ?_)
          refine lv_goto (tgt := 12) hx hb dM_choose_58 (by decide) ?_
          exact ih (p9 + 1) (rowN σ s9 p9 j x) (by omega) (by omega) (leN_row hx9) (by rw [← hres, show P - p9 = (P - (p9 + 1)) + 1 by omega, chN]; simp only [c2, c5, if_true, if_false]) _ _ ls hE (lv_sub hl [1, 2, 3, 4, 5, 0] rfl)
        · refine lv_iload hx hb dM_choose_52 (lv_at hl 5 rfl) ?_
          exact w_reti C hE (⟨by rw [← hres, show P - p9 = (P - (p9 + 1)) + 1 by omega, chN, if_pos c2, if_pos c5], by rw [← hres, show P - p9 = (P - (p9 + 1)) + 1 by omega, chN, if_pos c2, if_pos c5]⟩) dM_choose_54
set_option maxHeartbeats 4000000 in
set_option maxRecDepth 100000 in
theorem c_M_choose (l : Launch) (D : va_G) (cs : Nat → ClassId) (ad : Nat → Nat) (σ : Mem) (s9 r9 : Nat → Nat) (P v i j : Nat) (hg : mG σ P) (hv : v < 6) (hi : i ≤ j) (hj : j < 9) (hs9 : leN s9) (hr9 : leN r9) : MetI l (wM D cs ad) cs yM_choose bM_choose 6 (some .int) 2 50 [.ref (ad 0), .int (nI v), .int (nI i), .int (nI j)] (msr σ s9 r9) (fun r τ => r = (chN σ s9 v i j P 0 r9).1 ∧ τ = msr σ s9 (chN σ s9 v i j P 0 r9).2) := by
  refine MetI.start (by decide) (Nat.le_of_ble_eq_true rfl) ?_
  intro p e s m below meth c A ls C hk hA hE hl
  obtain ⟨hx, hb, hml, hown, hts, hr, hlocks⟩ := id C
  have hl : lv_has ls 6 [(0, .ref (ad 0)), (1, .int (nI v)), (2, .int (nI i)), (3, .int (nI j))] := hl
  have hP8 := hg.1
  refine lv_aload_n hx hb dM_choose_0 rfl (lv_at hl 0 rfl) ?_
  refine lv_iload_n hx hb dM_choose_1 rfl (lv_at hl 1 rfl) ?_
  refine lv_iload_n hx hb dM_choose_2 rfl (lv_at hl 2 rfl) ?_
  refine lv_iload_n hx hb dM_choose_3 rfl (lv_at hl 3 rfl) ?_
  refine w_ci hE hA (w_runV C hk hE hl.1 (As := [.int (nI v), .int (nI i), .int (nI j)]) (rest := []) (q := 0) (c_M_stepsOf l D cs ad σ s9 r9 v i j (by omega) (by omega) (hj) _) (Nat.le_of_ble_eq_true rfl) (ci := 6) (N := 17) (T := F_M) rfl rfl tw_720 tw_722 ts_31 tw_9 tw_723 (n := 3) (by decide +kernel) rfl rfl (Nat.le_of_ble_eq_true rfl) dM_choose_4 ⟨Nat.le_of_ble_eq_true rfl, Nat.le_of_ble_eq_true rfl⟩ ⟨Nat.zero_le _, Nat.zero_le _⟩) (fun r1 τ2 H locs hp hE _ _ => ?_)
  refine w_top hp.1 ?_
  have hE := wS_eq hp.2 hE
  refine lv_istore (lv' := [(4, .int (nI (stN σ s9 v i j))), (0, .ref (ad 0)), (1, .int (nI v)), (2, .int (nI i)), (3, .int (nI j))]) hx hb dM_choose_7 hl (by decide) rfl (fun ls hl => ?_)
  refine lv_iconst (v := nI 0) hx hb dM_choose_9 (by decide) ?_
  refine lv_istore (lv' := [(5, .int (nI 0)), (4, .int (nI (stN σ s9 v i j))), (0, .ref (ad 0)), (1, .int (nI v)), (2, .int (nI i)), (3, .int (nI j))]) hx hb dM_choose_10 hl (by decide) rfl (fun ls hl => ?_)
  exact lp_M_choose C hk hA hg hv hi hj hs9 hr9 _ 0 r9 (Nat.lt_succ_self _) (Nat.zero_le _) (hr9) (rfl) _ _ ls hE (lv_sub hl [2, 3, 4, 5, 1, 0] rfl)
