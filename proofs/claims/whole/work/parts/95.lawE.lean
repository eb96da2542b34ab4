/-! THE CLAIM OUT OF ONE WALK OF THE LAW'S BODY. Your part is whole_start (and what it stands on); all else here is the same for every law, but numbers. -/
def R_law : String := "EarleyChartLaw"
def lw_P (b : Addr) (xs : List Int32) (args : Array Value) (s : State) : Prop := args = #[.ref b] ∧ s.IntsAt b xs ∧ xs.length ≤ 2050 ∧ (Jvm.Cond.and given_1 narrow_1).before args s = true
def lw_Q (_ : Array Value) (s : State) (o : Outcome) (t : State) : Prop := o = .returned (some (.int 1)) ∧ Framed s o t [] 601024 7293000
def lw_Z (below : List Frame) (a : Array Value) (s : State) : State → Prop := fun t => ∃ o, t.status = .running ∧ Ended t below o ∧ lw_Q a s o t
/-- the law's own end, with 1 on the stack, nothing written that was there before, its room as the claim has it -/
theorem lw_ret {p : Program} {l : Launch} {e : Env} {s : State} {m : MethodId} {below : List Frame} {meth : Method} {c : Code} {b : Nat} (hx : p.tables.exec = Jvm.exec) (hb : c.code = code) (hr : meth.sig.returnType = ret) (hlocks : meth.locks = false) {pc : Nat} {H : Heap} {ls : Array Slot} (hdg : decode code pc = .ok (.ireturn, 1)) : W p l e room_1 s m #[Value.ref b] below meth c H [] 601024 7293000 (lw_Z below #[Value.ref b] s) (F0 m pc ls [.int 1]) := by
  intro T hT X
  obtain ⟨fs, hret, hrun, hended, hW, hframe⟩ := X.leave (v := some (.int 1)) (hlocks := hlocks) (fun h => by rw [hr] at h; cases h)
  have hmeth' : T.vm.method? m = some meth := X.method'
  refine ⟨T.setFrames fs, ?_, .returned (some (.int 1)), hrun, hended, rfl, ⟨_, rfl⟩, hW, hframe⟩
  jvm_step X.here [X.here.top, hx, hb, hdg, hmeth', hr, ret, narrow_b1]
  (try refine ⟨rfl, ?_⟩); (try refine ⟨rfl, ?_⟩)
  first | (intro acts; rw [hret _ acts rfl rfl rfl]) | rw [hret _ _ rfl rfl rfl]
  exact Steps.refl _
/-- what holds at the law's entry: the machine, the code, the tables' words (any of lw_tbl by 'hts w (by decide +kernel)'), the script of L ints xs at the cell b, what the Statement gives of the start (any of its parts by flat_of_before) -/
def lw_At (p : Program) (s : State) (m : MethodId) (meth : Method) (c : Code) (b L : Nat) (xs : Nat → Int32) : Prop :=
  p.tables.exec = Jvm.exec ∧ c.code = code ∧ meth.sig.returnType = ret ∧ c.maxLocals = 7 ∧ s.vm.findClass R_law = some m.cls ∧ (∀ w ∈ lw_tbl, w.before #[Value.ref b] s = true) ∧ va_X b L xs s s.heap ∧ b < s.heap.size ∧ meth.locks = false ∧ (Jvm.Cond.and given_1 narrow_1).before #[Value.ref b] s = true
/-! the law's loop -/
theorem l_sub4 {L i : Nat} (hL : L ≤ 2050) (hi : i < 2 ^ 30) (h : ¬ nI L - nI 4 < nI i) : i + 3 < L := by
  rcases Nat.lt_or_ge L 4 with h4 | h4
  · refine absurd ?_ h
    exact Int32.lt_of_lt_of_le (pk_sneg (by decide) h4) (nI_pos' (by omega))
  · rw [pk_sub h4] at h
    have h' : ¬ (L - 4 < i) := fun z => h ((nI_ltI (by omega) (by omega)).mpr z)
    omega
set_option maxHeartbeats 4000000 in
set_option maxRecDepth 100000 in
theorem law_loop {p : Program} {l : Launch} {e : Env} {s : State} {m : MethodId} {below : List Frame} {meth : Method} {c : Code} {b L : Nat} {xs : Nat → Int32} {D : va_G} {cs : Nat → ClassId} {ad : Nat → Nat} (hC : LC p l s m meth c b L xs D cs) :
    ∀ (n : Nat) (i : Nat) (μ : Mem) (H : Heap) (locs : List Loc) (ls : Array Slot), 2060 - i < n → i ≤ 2054 → LSt s D cs ad b i μ H locs ls → W p l e room_1 s m #[.ref b] below meth c H locs (100 + i) (40000 + 6 * i) (lw_Z below #[.ref b] s) (F0 m 43 ls []) := by
  have hC0 := hC
  obtain ⟨C, hk, hx0, hXs, hbl, hl0, hL⟩ := hC
  obtain ⟨hx, hb, hml, hown, hts, hr, hlocks⟩ := id C
  intro n
  induction n with
  | zero => intro i μ H locs ls h; exact absurd h (Nat.not_lt_zero _)
  | succ n ih =>
    intro i μ H locs ls hn hi hS
    have hS0 := hS
    obtain ⟨hE, hRX, hl⟩ := hS
    have hbA : ¬ lA s b := Nat.not_le.mpr hbl
    refine lv_iload hx hb dL_law_43 (lv_at hl 4 rfl) ?_
    refine lv_aload_n hx hb dL_law_45 rfl (lv_at hl 0 rfl) ?_
    refine va_slen hx hb hXs hbl hbA hE.2.2 dL_law_46 ?_
    refine lv_iconst (v := nI 4) hx hb dL_law_47 (by decide) ?_
    refine lv_isub hx hb dL_law_48 ?_
    refine lv_icmp_gt (tgt := 751) hx hb dL_law_49 (by decide) (fun h => ?_) (fun h => ?_)
    · refine lv_iconst (v := 1) hx hb dL_law_751 (by decide) ?_
      refine va_forget (fun q hq => hE.2.2.2.2 q hq) ?_
      refine W.widen (k := 601024) (n := 7293000) (by omega) (by omega) ?_
      exact lw_ret hx hb hr hlocks dL_law_752
    · have hi3 : i + 3 < L := l_sub4 hL (by omega) h
      have hcel : (100 + i) + 1 ≤ room_1.cells ∧ (40000 + 6 * i) + 6 ≤ room_1.slots := ⟨by show _ ≤ 601024; omega, by show _ ≤ 7293000; omega⟩
      have hnext : ∀ (μ : Mem) (H : Heap) (locs : List Loc) (ls : Array Slot), LSt s D cs ad b i μ H locs ls → W p l e room_1 s m #[.ref b] below meth c H locs (100 + i + 1) (40000 + 6 * i + 6) (lw_Z below #[.ref b] s) (F0 m 745 ls []) := fun μ H locs ls h => by
        obtain ⟨hE, hRX, hl⟩ := h
        refine lv_iinc (v := nI (i + 4)) (lv' := [(4, .int (nI (i + 4))), (0, .ref b), (1, .ref (ad 0)), (2, .ref (ad 58)), (3, .ref (ad 68))]) hx hb dL_law_745 hl (k := 4) rfl (by exact nI_add i 4) (by decide) rfl (fun ls hl => ?_)
        refine lv_goto (tgt := 43) hx hb dL_law_748 (by decide) ?_
        refine W.widen (k := 100 + (i + 4)) (n := 40000 + 6 * (i + 4)) (by omega) (by omega) ?_
        exact ih (i + 4) μ H locs ls (by omega) (by omega) ⟨hE, hRX, lv_sub hl [1, 2, 3, 4, 0] rfl⟩
      refine lv_aload_n hx hb dL_law_52 rfl (lv_at hl 0 rfl) ?_
      refine lv_iload hx hb dL_law_53 (lv_at hl 4 rfl) ?_
      refine l_sld hx hb hXs hbl hbA hE.2.2 (by omega) (by omega) dL_law_55 ?_
      refine lv_bipush (v := nI 15) hx hb dL_law_56 (by decide) ?_
      refine lv_iand hx hb dL_law_58 ?_
      obtain ⟨w, hw, ew⟩ := pk_andE (xs i) (m := nI 15) 4 (by decide)
      refine w_top ew ?_
      have hw16 : w < 16 := hw
      rcases (show w = 0 ∨ w = 1 ∨ w = 2 ∨ w = 3 ∨ w = 4 ∨ w = 5 ∨ w = 6 ∨ w = 7 ∨ w = 8 ∨ w = 9 ∨ w = 10 ∨ w = 11 ∨ w = 12 ∨ w = 13 ∨ w = 14 ∨ w = 15 by omega) with rfl | rfl | rfl | rfl | rfl | rfl | rfl | rfl | rfl | rfl | rfl | rfl | rfl | rfl | rfl | rfl
      · exact lv_tableIn (tgt := 132) hx hb dL_law_59 (by decide) (by decide) rfl (by decide) (case_addProd hC0 hS0 hi3 hcel hnext)
      · exact lv_tableIn (tgt := 188) hx hb dL_law_59 (by decide) (by decide) rfl (by decide) (case_addRhs hC0 hS0 hi3 hcel hnext)
      · exact lv_tableIn (tgt := 244) hx hb dL_law_59 (by decide) (by decide) rfl (by decide) (case_feed hC0 hS0 hi3 hcel hnext)
      · exact lv_tableIn (tgt := 300) hx hb dL_law_59 (by decide) (by decide) rfl (by decide) (case_alive hC0 hS0 hi3 hcel hnext)
      · exact lv_tableIn (tgt := 313) hx hb dL_law_59 (by decide) (by decide) rfl (by decide) (case_accepts hC0 hS0 hi3 hcel hnext)
      · exact lv_tableIn (tgt := 326) hx hb dL_law_59 (by decide) (by decide) rfl (by decide) (case_extract hC0 hS0 hi3 hcel hnext)
      · exact lv_tableIn (tgt := 370) hx hb dL_law_59 (by decide) (by decide) rfl (by decide) (case_witCount hC0 hS0 hi3 hcel hnext)
      · exact lv_tableIn (tgt := 383) hx hb dL_law_59 (by decide) (by decide) rfl (by decide) (case_wit hC0 hS0 hi3 hcel hnext)
      · exact lv_tableIn (tgt := 439) hx hb dL_law_59 (by decide) (by decide) rfl (by decide) (case_clear hC0 hS0 hi3 hcel hnext)
      · exact lv_tableIn (tgt := 452) hx hb dL_law_59 (by decide) (by decide) rfl (by decide) (case_erase hC0 hS0 hi3 hcel hnext)
      · exact lv_tableIn (tgt := 465) hx hb dL_law_59 (by decide) (by decide) rfl (by decide) (case_items hC0 hS0 hi3 hcel hnext)
      · exact lv_tableIn (tgt := 521) hx hb dL_law_59 (by decide) (by decide) rfl (by decide) (case_item hC0 hS0 hi3 hcel hnext)
      · exact lv_tableIn (tgt := 589) hx hb dL_law_59 (by decide) (by decide) rfl (by decide) (case_steps hC0 hS0 hi3 hcel hnext)
      · exact lv_tableIn (tgt := 669) hx hb dL_law_59 (by decide) (by decide) rfl (by decide) (case_nullable hC0 hS0 hi3 hcel hnext)
      · exact lv_tableIn (tgt := 732) hx hb dL_law_59 (by decide) (by decide) rfl (by decide) (case_fed hC0 hS0 hi3 hcel hnext)
      · refine lv_tableOut (tgt := 745) hx hb dL_law_59 (by decide) (by decide) ?_
        exact W.widen (by omega) (by omega) (hnext μ H locs ls hS0)
