/-! the law's start -/
theorem cE_sim {cs : Nat → ClassId} {ad ad' : Nat → Nat} (h : ∀ j, j < 58 → ad j = ad' j) {r : Nat → Int32} : ∀ k, k < 58 → va_sim (cE cs ad k r) (cE cs ad' k r)
  | 0, _ => Or.inl (by show (_ : va_E) = _; simp only [cE, h 1 (by decide), h 2 (by decide), h 3 (by decide), h 4 (by decide), h 5 (by decide)])
  | 1, _ => Or.inl (by simp only [cE, h 6 (by decide), h 7 (by decide), h 8 (by decide), h 9 (by decide)])
  | 2, _ => Or.inl (by simp only [cE, h 10 (by decide)])
  | 3, _ => Or.inl (by simp only [cE, h 1 (by decide), h 11 (by decide), h 12 (by decide)])
  | 4, _ => Or.inl (by simp only [cE, h 1 (by decide), h 2 (by decide), h 13 (by decide), h 14 (by decide)])
  | 5, _ => Or.inl (by simp only [cE, h 1 (by decide), h 4 (by decide), h 15 (by decide), h 16 (by decide), h 17 (by decide), h 18 (by decide)])
  | 6, _ => Or.inl rfl
  | 7, _ => Or.inl rfl
  | 8, _ => Or.inl rfl
  | 9, _ => Or.inl rfl
  | 10, _ => Or.inl rfl
  | 11, _ => Or.inr ⟨cs 1, 9, fun i => some (ad (i + 19)), fun i => some (ad' (i + 19)), rfl, rfl, fun j hj => by show some _ = some _; rw [h _ (by omega)]⟩
  | 12, _ => Or.inl rfl
  | 13, _ => Or.inr ⟨cs 1, 6, fun i => some (ad (i + 28)), fun i => some (ad' (i + 28)), rfl, rfl, fun j hj => by show some _ = some _; rw [h _ (by omega)]⟩
  | 14, _ => Or.inr ⟨cs 1, 24, fun i => some (ad (i + 34)), fun i => some (ad' (i + 34)), rfl, rfl, fun j hj => by show some _ = some _; rw [h _ (by omega)]⟩
  | 15, _ => Or.inl rfl
  | 16, _ => Or.inl rfl
  | 17, _ => Or.inl rfl
  | 18, _ => Or.inl rfl
  | k + 19, _ => Or.inl rfl
theorem cM_eq {cs : Nat → ClassId} {ad ad' : Nat → Nat} (h : ∀ j, j < 10 → ad j = ad' j) {r : Nat → Int32} : ∀ k, cM cs ad k r = cM cs ad' k r
  | 0 => by simp only [cM, h 1 (by decide), h 2 (by decide), h 3 (by decide), h 4 (by decide), h 5 (by decide), h 6 (by decide), h 7 (by decide), h 8 (by decide), h 9 (by decide)]
  | 1 => rfl
  | 2 => rfl
  | 3 => rfl
  | 4 => rfl
  | 5 => rfl
  | 6 => rfl
  | 7 => rfl
  | 8 => rfl
  | _ + 9 => rfl
def adL (ad1 ad2 : Nat → Nat) (q : Nat) (k : Nat) : Nat := if k < 58 then ad1 k else if k < 68 then ad2 (k - 58) else q
def muL (σ0 σ2 : Mem) : Mem := fun k => if k < 58 then σ0 k else if k < 68 then σ2 (k - 58) else fun _ => 0
theorem law_world {D : va_G} {cs : Nat → ClassId} {ad1 ad2 : Nat → Nat} {q : Nat} {σ0 σ2 : Mem} {A : Nat → Prop} {H : Heap} (hP : va_P D classes ((wo (wE D cs ad1) σ0 ++ wo (wM D cs ad2) σ2) ++ [(q, .inl (cs 3, 1, .inr (.inl (fun _ => 0))))]) H) (hD : va_D A ((wo (wE D cs ad1) σ0 ++ wo (wM D cs ad2) σ2) ++ [(q, .inl (cs 3, 1, .inr (.inl (fun _ => 0))))])) :
    va_P D classes (wo (wL D cs (adL ad1 ad2 q)) (muL σ0 σ2)) H ∧ va_D A (wo (wL D cs (adL ad1 ad2 q)) (muL σ0 σ2)) := by
  have l1 : (wo (wE D cs ad1) σ0).length = 58 := by simp [wo]
  have l2 : (wo (wM D cs ad2) σ2).length = 10 := by simp [wo]
  refine to_wo (ω := wL D cs (adL ad1 ad2 q)) (σ := muL σ0 σ2) rfl (fun k => k) (fun k hk => ?_) (fun i j _ _ h => h) hP hD
  have hk69 : k < 69 := hk
  show ∃ e, _ = some (adL ad1 ad2 q k, e) ∧ va_sim e (cL cs (adL ad1 ad2 q) k (muL σ0 σ2 k))
  by_cases h1 : k < 58
  · refine ⟨cE cs ad1 k (σ0 k), ?_, ?_⟩
    · rw [List.getElem?_append_left (by rw [List.length_append, l1, l2]; omega), List.getElem?_append_left (by rw [l1]; exact h1), wo_at (ω := wE D cs ad1) h1]
      unfold adL; rw [if_pos h1]
    · unfold cL muL
      rw [if_pos h1, if_pos h1]
      exact cE_sim (fun j hj => by unfold adL; rw [if_pos hj]) k h1
  · by_cases h2 : k < 68
    · refine ⟨cM cs ad2 (k - 58) (σ2 (k - 58)), ?_, Or.inl ?_⟩
      · rw [List.getElem?_append_left (by rw [List.length_append, l1, l2]; omega), List.getElem?_append_right (by rw [l1]; omega), l1, wo_at (ω := wM D cs ad2) (show k - 58 < 10 by omega)]
        unfold adL; rw [if_neg h1, if_pos h2]
      · unfold cL muL
        rw [if_neg h1, if_pos h2, if_neg h1, if_pos h2]
        exact cM_eq (fun j hj => by unfold adL; rw [if_neg (by omega), if_pos (by omega), Nat.add_sub_cancel]) _
    · obtain rfl : k = 68 := by omega
      refine ⟨.inl (cs 3, 1, .inr (.inl (fun _ => 0))), ?_, Or.inl ?_⟩
      · rw [List.getElem?_append_right (by rw [List.length_append, l1, l2]; omega), List.length_append, l1, l2]; rfl
      · unfold cL muL
        rw [if_neg (by decide), if_neg (by decide), if_neg (by decide), if_neg (by decide)]
        rfl
theorem ao_spec {args : Array Value} {first s : State} {o : Option Outcome} {idx : List Nat} {t : FieldType} (h : (Cond.arrayOver (.array t)).holds args first o s idx = true) :
    ∃ comp c k, s.vm.classes[c]? = some k ∧ k.kind = .array comp (.array t) ∧ s.vm.findClass ("[" ++ (FieldType.array t).toString) = some c := by
  simp only [Cond.holds, Cond.value, beq_iff_eq] at h
  cases hc : s.vm.findClass (FieldType.array t).toString with
  | none => simp [hc] at h
  | some comp =>
    simp only [hc, Option.bind_some, Option.bind_eq_some_iff, Option.map_eq_some_iff] at h
    obtain ⟨c, hi, k, hk, hb⟩ := h
    obtain ⟨hlt, hp, -⟩ := Array.findIdx?_eq_some_iff_getElem.mp hi
    have hkk : s.vm.classes[c] = k := (Array.getElem?_eq_some_iff.mp hk).2
    rw [hkk] at hp
    cases hkind : k.kind with
    | array component ty =>
      rw [hkind] at hb hp
      simp at hb hp
      exact ⟨comp, c, k, hk, by rw [hkind, hp, hb.1], hb.2⟩
    | _ => rw [hkind] at hb; simp at hb
theorem law_known {s : State} {a0 : Array Value} (h : ∀ w ∈ lw_tbl, w.before a0 s = true) : ∃ (D : va_G) (cs : Nat → ClassId), wk D cs s := by
  have hts : ∀ w ∈ tbG, w.before a0 s = true := fun w hw => h w (List.mem_filter.mp hw).1
  have htb : ∀ w ∈ tables_1, w.before a0 s = true := fun w hw => h w (List.mem_append_right _ hw)
  obtain ⟨c0, i0, k0⟩ := u_known (C := R_G) (T := F_G) (N := 6) (n := 6) hts in_G (hts _ tw_26)
  obtain ⟨c1, i1, k1⟩ := u_known (C := R_I) (T := F_I) (N := 2) (n := 2) hts in_I (hts _ tw_65)
  obtain ⟨c2, i2, k2⟩ := u_known (C := R_S) (T := F_S) (N := 3) (n := 3) hts in_S (hts _ tw_100)
  obtain ⟨c3, i3, k3⟩ := u_known (C := R_T) (T := F_T) (N := 4) (n := 4) hts in_T (hts _ tw_79)
  obtain ⟨c4, i4, k4⟩ := u_known (C := R_W) (T := F_W) (N := 8) (n := 8) hts in_W (hts _ tw_117)
  obtain ⟨c5, i5, k5⟩ := u_known (C := R_E) (T := F_E) (N := 7) (n := 7) hts in_E (hts _ tw_18)
  obtain ⟨c6, i6, k6⟩ := u_known (C := R_M) (T := F_M) (N := 17) (n := 17) hts in_M (hts _ tw_577)
  obtain ⟨a0c, a0k, a0p, a01, a02, a03⟩ := Cond.arrayClass_spec (hts _ tw_63)
  obtain ⟨a1p, a1c, a1k, a11, a12, a13⟩ := ao_spec (t := .int) (htb (.arrayOver (.array .int)) (List.mem_of_getElem? (i := 85) (by decide +kernel)))
  obtain ⟨a2c, a2k, a2p, a21, a22, a23⟩ := Cond.arrayClass_spec (hts _ tw_634)
  obtain ⟨a3c, a3k, a3p, a31, a32, a33⟩ := Cond.arrayClass_spec (hts _ tw_764)
  refine ⟨(fun k => match k with | 0 => c0 | 1 => c1 | 2 => c2 | 3 => c3 | 4 => c4 | 5 => c5 | _ => c6, fun k => match k with | 0 => i0 | 1 => i1 | 2 => i2 | 3 => i3 | 4 => i4 | 5 => i5 | _ => i6), fun k => match k with | 0 => a0c | 1 => a1c | 2 => a2c | _ => a3c, ⟨fun k q hq => ?_, fun k q hq => ?_⟩, va_Nw.of rfl (htb _ (List.mem_of_getElem? (i := 198) (by decide +kernel))), va_Nw.of rfl (htb _ (List.mem_of_getElem? (i := 228) (by decide +kernel))), va_Nw.of rfl (htb _ (List.mem_of_getElem? (i := 507) (by decide +kernel))), va_Nw.of rfl (htb _ (List.mem_of_getElem? (i := 27) (by decide +kernel))), va_Nw.of rfl (htb _ (List.mem_of_getElem? (i := 66) (by decide +kernel)))⟩
  · match k, hq with
    | 0, hq => cases hq; exact k0
    | 1, hq => cases hq; exact k1
    | 2, hq => cases hq; exact k2
    | 3, hq => cases hq; exact k3
    | 4, hq => cases hq; exact k4
    | 5, hq => cases hq; exact k5
    | 6, hq => cases hq; exact k6
    | k + 7, hq => simp [classes] at hq
  · match k, hq with
    | 0, hq => cases hq; exact ⟨fun n z => ⟨fun k h => (by cases h), a0k, a02, a0p, a03⟩, a01⟩
    | 1, hq => cases hq; exact ⟨fun n z => ⟨fun k h => (by cases h), a1k, a11, a1p, a12⟩, a13⟩
    | 2, hq => cases hq; exact ⟨fun n z => ⟨fun k h => (by cases h), a2k, a22, a2p, a23⟩, a21⟩
    | 3, hq => cases hq; exact ⟨fun n z => ⟨fun k h => (by cases h), a3k, a32, a3p, a33⟩, a31⟩
    | k + 4, hq => simp at hq
theorem law_x0 {s : State} {a0 : Array Value} (h : ∀ w ∈ lw_tbl, w.before a0 s = true) (hg : (Jvm.Cond.and given_1 narrow_1).before a0 s = true) : x0 a0 s := by
  have hs := flat_of_before _ hg
  refine ⟨fun w hw => h w (List.mem_append_right _ hw), fun w hw => ?_⟩
  simp only [xN, List.mem_cons, List.not_mem_nil, or_false] at hw
  rcases hw with rfl | rfl | rfl | rfl
  · exact hs _ (by decide +kernel)
  · exact hs _ (by decide +kernel)
  · exact hs _ (by decide +kernel)
  · exact hs _ (by decide +kernel)
set_option maxHeartbeats 4000000 in
set_option maxRecDepth 100000 in
/-- from the entry, for every script of at most 2050 ints, the law comes to its end with true -/
theorem whole_start {p : Program} {e : Env} {s : State} {m : MethodId} {below : List Frame} {meth : Method} {c : Code} (l : Launch) (hl0 : l.stackTraces = false) {b L : Nat} {xs : Nat → Int32} (hL : L ≤ 2050) (C0 : lw_At p s m meth c b L xs) : W p l e room_1 s m #[Value.ref b] below meth c s.heap [] 0 0 (lw_Z below #[Value.ref b] s) (entryFrame m ([Value.ref b] : List Value).toArray 7) := by
  obtain ⟨hx, hb, hr, hml, hown, hts0, hXs, hbl, hlocks, hgv⟩ := id C0
  obtain ⟨D, cs, hk⟩ := law_known hts0
  have hx0 : x0 #[Value.ref b] s := law_x0 hts0 hgv
  have hts : ∀ w ∈ tbG, w.before #[Value.ref b] s = true := fun w hw => hts0 w (List.mem_filter.mp hw).1
  have C : bC p s m #[.ref b] meth c bL_law 7 "EarleyChartLaw" (some .boolean) := ⟨hx, hb, hml, hown, hts, hr, hlocks⟩
  have hC : LC p l s m meth c b L xs D cs := ⟨C, hk, hx0, hXs, hbl, hl0, hL⟩
  have hown : s.vm.findClass "EarleyChartLaw" = some m.cls := hown
  have hA : ∀ q : Nat, s.heap.size ≤ q → lA s q := fun _ h => h
  have hbA : ¬ lA s b := Nat.not_le.mpr hbl
  have hS : va_S (lA s) s.heap s.heap [] := va_S.rf
  have hP : va_P D classes [] s.heap := fun k q h => by simp at h
  have hD : va_D (lA s) [] := ⟨fun i j p q h => by simp at h, fun k q h => by simp at h⟩
  have hl := lv_entry ([.ref b]) (n := 7) (Nat.le_of_ble_eq_true rfl)
  rw [lg_entry_eq]
  generalize (lg_sl ([.ref b]) ++ List.replicate (7 - (lg_sl ([.ref b])).length) Slot.unset).toArray = ls at hl ⊢
  have hl : lv_has ls 7 [(0, .ref b)] := hl
  refine va_new (ci := 5) (fs := [.int 0, .int 0, .null, .null, .null, .null, .null]) (C := R_E) (T := F_E) (N := 7) hx hb hts in_E ft_E ft_E_ok hown (hts _ tw_17) (hts _ tw_18) (hts _ tw_1) hk.1 hP hD hS hA rfl (fun j hj => by rcases j with _ | _ | _ | _ | _ | _ | _ | j <;> first | rfl | omega) (Nat.le_of_ble_eq_true rfl) (Nat.le_of_ble_eq_true rfl) dL_law_0 (fun o H hP hD hS => ?_)
  refine lv_dup hx hb dL_law_3 rfl ?_
  refine lv_aload_n hx hb dL_law_4 rfl (lv_at hl 0 rfl) ?_
  refine lv_iconst (v := nI 0) hx hb dL_law_5 (by decide) ?_
  refine l_cell C hXs hbl hbA (by omega) (by decide) hP hS hl.1 (rest := [.ref o, .ref o]) rfl (Nat.le_of_ble_eq_true rfl) dL_law_6 ⟨Nat.le_of_ble_eq_true rfl, Nat.le_of_ble_eq_true rfl⟩ ⟨Nat.le_of_ble_eq_true rfl, Nat.le_of_ble_eq_true rfl⟩ (fun H locs hP hS => ?_)
  refine lv_aload_n hx hb dL_law_9 rfl (lv_at hl 0 rfl) ?_
  refine lv_iconst (v := nI 1) hx hb dL_law_10 (by decide) ?_
  refine l_cell C hXs hbl hbA (by omega) (by decide) hP hS hl.1 (rest := [.int (cv xs L 0), .ref o, .ref o]) rfl (Nat.le_of_ble_eq_true rfl) dL_law_11 ⟨Nat.le_of_ble_eq_true rfl, Nat.le_of_ble_eq_true rfl⟩ ⟨Nat.le_of_ble_eq_true rfl, Nat.le_of_ble_eq_true rfl⟩ (fun H locs hP hS => ?_)
  refine n_ctor C hk xK_rf (fun _ h => h) (wr := []) (wc := [(o, .inr (5, [.int 0, .int 0, .null, .null, .null, .null, .null]))]) hP hD hS hA hl.1 (As := [.int (cv xs L 0), .int (cv xs L 1)]) (rest := [.ref o]) (q := o) (c_E_init l hx0 D cs o (cv xs L 0) (cv xs L 1)) tw_19 tw_20 tw_1 tw_21 rfl (n := 2) (by decide +kernel) rfl rfl (Nat.le_of_ble_eq_true rfl) dL_law_14 ⟨Nat.le_of_ble_eq_true rfl, Nat.le_of_ble_eq_true rfl⟩ ⟨Nat.le_of_ble_eq_true rfl, Nat.le_of_ble_eq_true rfl⟩ (fun w H2 locs2 hp hP2 hD2 hS2 => ?_)
  obtain ⟨ad1, hao, rfl⟩ := hp
  subst hao
  generalize hV : vO (cv xs L 0) = V at hP2 hD2 ⊢
  generalize hT : vO (cv xs L 1) = T at hP2 hD2 ⊢
  have hP3 : va_P D classes (wo (wE D cs ad1) (gcM 0 0 0 (iniM V T))) H2 := hP2
  have hD3 : va_D (lA s) (wo (wE D cs ad1) (gcM 0 0 0 (iniM V T))) := hD2
  refine lv_astore_n (lv' := [(1, .ref (ad1 0)), (0, .ref b)]) hx hb dL_law_17 rfl hl (by decide) rfl (fun ls hl => ?_)
  refine va_new (ci := 6) (fs := [.int 0, .int 0, .int 0, .int 0, .null, .null, .null, .int 0, .null, .null, .int 0, .null, .int 0, .null, .int 0, .null, .null]) (C := R_M) (T := F_M) (N := 17) hx hb hts in_M ft_M ft_M_ok hown (hts _ tw_576) (hts _ tw_577) (hts _ tw_9) hk.1 hP3 hD3 hS2 hA rfl (fun j hj => by rcases j with _ | _ | _ | _ | _ | _ | _ | _ | _ | _ | _ | _ | _ | _ | _ | _ | _ | j <;> first | rfl | omega) (Nat.le_of_ble_eq_true rfl) (Nat.le_of_ble_eq_true rfl) dL_law_18 (fun o2 H hP hD hS => ?_)
  refine lv_dup hx hb dL_law_21 rfl ?_
  refine lv_aload_n hx hb dL_law_22 rfl (lv_at hl 1 rfl) ?_
  refine lv_iconst (v := nI 0) hx hb dL_law_23 (by decide) ?_
  refine l_cell C hXs hbl hbA (by omega) (by decide) hP hS hl.1 (rest := [.ref o2, .ref o2]) rfl (Nat.le_of_ble_eq_true rfl) dL_law_24 ⟨Nat.le_of_ble_eq_true rfl, Nat.le_of_ble_eq_true rfl⟩ ⟨Nat.le_of_ble_eq_true rfl, Nat.le_of_ble_eq_true rfl⟩ (fun H locs hP hS => ?_)
  refine lv_aload_n hx hb dL_law_27 rfl (lv_at hl 1 rfl) ?_
  refine lv_iconst (v := nI 1) hx hb dL_law_28 (by decide) ?_
  refine l_cell C hXs hbl hbA (by omega) (by decide) hP hS hl.1 (rest := [.int (cv xs L 0), .ref o2, .ref o2]) rfl (Nat.le_of_ble_eq_true rfl) dL_law_29 ⟨Nat.le_of_ble_eq_true rfl, Nat.le_of_ble_eq_true rfl⟩ ⟨Nat.le_of_ble_eq_true rfl, Nat.le_of_ble_eq_true rfl⟩ (fun H locs hP hS => ?_)
  refine n_ctor C hk xK_rf (fun _ h => h) (wr := wo (wE D cs ad1) (gcM 0 0 0 (iniM V T))) (wc := [(o2, .inr (6, [.int 0, .int 0, .int 0, .int 0, .null, .null, .null, .int 0, .null, .null, .int 0, .null, .int 0, .null, .int 0, .null, .null]))]) hP hD hS hA hl.1 (As := [.int (cv xs L 0), .int (cv xs L 1)]) (rest := [.ref o2]) (q := o2) (c_M_init l hx0 D cs o2 (cv xs L 0) (cv xs L 1)) tw_578 tw_579 tw_9 tw_580 rfl (n := 2) (by decide +kernel) rfl rfl (Nat.le_of_ble_eq_true rfl) dL_law_32 ⟨Nat.le_of_ble_eq_true rfl, Nat.le_of_ble_eq_true rfl⟩ ⟨Nat.le_of_ble_eq_true rfl, Nat.le_of_ble_eq_true rfl⟩ (fun w H4 locs4 hp hP4 hD4 hS4 => ?_)
  obtain ⟨ad2, hao, rfl⟩ := hp
  subst hao
  rw [hV, hT] at hP4 hD4
  refine lv_astore_n (lv' := [(2, .ref (ad2 0)), (1, .ref (ad1 0)), (0, .ref b)]) hx hb dL_law_35 rfl hl (by decide) rfl (fun ls hl => ?_)
  refine lv_iconst (v := nI 1) hx hb dL_law_36 (by decide) ?_
  refine n_newa C hk hP4 hD4 hS4 hA (ty := .long) rfl tw_764 3 rfl rfl (a1 := (1, .inr (.inl (fun _ => 0)))) (fun _ => rfl) (by decide) (by decide) (Nat.le_of_ble_eq_true rfl) (Nat.le_of_ble_eq_true rfl) dL_law_37 (fun q H hP hD hS => ?_)
  refine lv_astore_n (lv' := [(3, .ref q), (2, .ref (ad2 0)), (1, .ref (ad1 0)), (0, .ref b)]) hx hb dL_law_39 rfl hl (by decide) rfl (fun ls hl => ?_)
  refine lv_iconst (v := nI 2) hx hb dL_law_40 (by decide) ?_
  refine lv_istore (lv' := [(4, .int (nI 2)), (3, .ref q), (2, .ref (ad2 0)), (1, .ref (ad1 0)), (0, .ref b)]) hx hb dL_law_41 hl (by decide) rfl (fun ls hl => ?_)
  obtain ⟨hP, hD⟩ := law_world hP hD
  have hVT : V ≤ 6 ∧ T ≤ 6 := by rw [← hV, ← hT]; exact ⟨(vO_le _).2, (vO_le _).2⟩
  have hRX : RELX (msub 0 (muL (gcM 0 0 0 (iniM V T)) (iniM V T))) (msub 58 (muL (gcM 0 0 0 (iniM V T)) (iniM V T))) :=
    relx_cong (rel_ini hVT.1 hVT.2) (fun k hk => by unfold msub muL; rw [if_pos (by omega)]; rfl) (fun k hk => by unfold msub muL; rw [if_neg (by omega), if_pos (by omega), Nat.add_sub_cancel])
  refine W.widen (k := 100 + 2) (n := 40000 + 6 * 2) (Nat.le_of_ble_eq_true rfl) (Nat.le_of_ble_eq_true rfl) ?_
  exact law_loop (ad := adL ad1 ad2 q) hC 2100 2 _ _ _ ls (by omega) (by omega) ⟨⟨hP, hD, hS⟩, hRX, lv_sub hl [4, 3, 2, 1, 0] rfl⟩
