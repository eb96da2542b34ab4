section
-- ===== PART A: goes FIRST, ahead of the names: the tables' words, and 'selects' of the private methods out of them =====
/-- a private method of a class that the tables say can be made, by its rows of tables_1 -/
def lw_okq (q : MethodName × Nat) : Prop := (q.1.cls ≠ "java/lang/invoke/MethodHandle" ∧ q.1.cls ≠ "java/lang/invoke/VarHandle") ∧ Cond.instantiable q.1.cls q.2 ∈ tables_1 ∧ Cond.privateMethod q.1 ∈ tables_1 ∧ Cond.instanceMethod q.1 ∈ tables_1
theorem lw_p0 : lw_okq (⟨"EarleyChart", "grammarChanged", "()V"⟩, 7) := ⟨⟨by decide +kernel, by decide +kernel⟩, List.mem_of_getElem? (i := 18) (by decide +kernel), List.mem_of_getElem? (i := 150) (by decide +kernel), List.mem_of_getElem? (i := 151) (by decide +kernel)⟩
theorem lw_p1 : lw_okq (⟨"EarleyChart$ItemSets", "predict", "(II)V"⟩, 3) := ⟨⟨by decide +kernel, by decide +kernel⟩, List.mem_of_getElem? (i := 100) (by decide +kernel), List.mem_of_getElem? (i := 169) (by decide +kernel), List.mem_of_getElem? (i := 170) (by decide +kernel)⟩
theorem lw_p2 : lw_okq (⟨"EarleyChart$ItemSets", "close", "(I)V"⟩, 3) := ⟨⟨by decide +kernel, by decide +kernel⟩, List.mem_of_getElem? (i := 100) (by decide +kernel), List.mem_of_getElem? (i := 173) (by decide +kernel), List.mem_of_getElem? (i := 174) (by decide +kernel)⟩
theorem lw_p3 : lw_okq (⟨"EarleyChart$ItemSets", "gatherWholeOrigins", "(I)V"⟩, 3) := ⟨⟨by decide +kernel, by decide +kernel⟩, List.mem_of_getElem? (i := 100) (by decide +kernel), List.mem_of_getElem? (i := 187) (by decide +kernel), List.mem_of_getElem? (i := 188) (by decide +kernel)⟩
theorem lw_p4 : lw_okq (⟨"EarleyChart$ItemSets", "grow", "(I)V"⟩, 3) := ⟨⟨by decide +kernel, by decide +kernel⟩, List.mem_of_getElem? (i := 100) (by decide +kernel), List.mem_of_getElem? (i := 195) (by decide +kernel), List.mem_of_getElem? (i := 196) (by decide +kernel)⟩
theorem lw_p5 : lw_okq (⟨"EarleyChart$ItemSets", "originsIn", "(II)I"⟩, 3) := ⟨⟨by decide +kernel, by decide +kernel⟩, List.mem_of_getElem? (i := 100) (by decide +kernel), List.mem_of_getElem? (i := 202) (by decide +kernel), List.mem_of_getElem? (i := 203) (by decide +kernel)⟩
theorem lw_p6 : lw_okq (⟨"EarleyChart$StepTable", "fillStretch", "(II)V"⟩, 4) := ⟨⟨by decide +kernel, by decide +kernel⟩, List.mem_of_getElem? (i := 79) (by decide +kernel), List.mem_of_getElem? (i := 210) (by decide +kernel), List.mem_of_getElem? (i := 211) (by decide +kernel)⟩
theorem lw_p7 : lw_okq (⟨"EarleyChart$StepTable", "lower", "(II)Z"⟩, 4) := ⟨⟨by decide +kernel, by decide +kernel⟩, List.mem_of_getElem? (i := 79) (by decide +kernel), List.mem_of_getElem? (i := 217) (by decide +kernel), List.mem_of_getElem? (i := 218) (by decide +kernel)⟩
theorem lw_p8 : lw_okq (⟨"EarleyChart$StepTable", "leastOfRow", "(III)I"⟩, 4) := ⟨⟨by decide +kernel, by decide +kernel⟩, List.mem_of_getElem? (i := 79) (by decide +kernel), List.mem_of_getElem? (i := 221) (by decide +kernel), List.mem_of_getElem? (i := 222) (by decide +kernel)⟩
theorem lw_p9 : lw_okq (⟨"java/lang/Throwable", "fillInStackTrace", "(I)Ljava/lang/Throwable;"⟩, 6) := ⟨⟨by decide +kernel, by decide +kernel⟩, List.mem_of_getElem? (i := 356) (by decide +kernel), List.mem_of_getElem? (i := 354) (by decide +kernel), List.mem_of_getElem? (i := 355) (by decide +kernel)⟩
theorem lw_p10 : lw_okq (⟨"EarleyChart", "hasVariable", "(I)Z"⟩, 7) := ⟨⟨by decide +kernel, by decide +kernel⟩, List.mem_of_getElem? (i := 18) (by decide +kernel), List.mem_of_getElem? (i := 386) (by decide +kernel), List.mem_of_getElem? (i := 387) (by decide +kernel)⟩
theorem lw_p11 : lw_okq (⟨"EarleyChart$Grammar", "openSlot", "()V"⟩, 6) := ⟨⟨by decide +kernel, by decide +kernel⟩, List.mem_of_getElem? (i := 26) (by decide +kernel), List.mem_of_getElem? (i := 410) (by decide +kernel), List.mem_of_getElem? (i := 411) (by decide +kernel)⟩
theorem lw_p12 : lw_okq (⟨"EarleyChart", "hasToken", "(I)Z"⟩, 7) := ⟨⟨by decide +kernel, by decide +kernel⟩, List.mem_of_getElem? (i := 18) (by decide +kernel), List.mem_of_getElem? (i := 430) (by decide +kernel), List.mem_of_getElem? (i := 431) (by decide +kernel)⟩
theorem lw_p13 : lw_okq (⟨"EarleyChart$Witness", "open", "(III)V"⟩, 8) := ⟨⟨by decide +kernel, by decide +kernel⟩, List.mem_of_getElem? (i := 117) (by decide +kernel), List.mem_of_getElem? (i := 487) (by decide +kernel), List.mem_of_getElem? (i := 488) (by decide +kernel)⟩
theorem lw_p14 : lw_okq (⟨"EarleyChart$Witness", "lowestProduction", "(III)I"⟩, 8) := ⟨⟨by decide +kernel, by decide +kernel⟩, List.mem_of_getElem? (i := 117) (by decide +kernel), List.mem_of_getElem? (i := 491) (by decide +kernel), List.mem_of_getElem? (i := 492) (by decide +kernel)⟩
theorem lw_p15 : lw_okq (⟨"EarleyChart$Witness", "goOn", "()V"⟩, 8) := ⟨⟨by decide +kernel, by decide +kernel⟩, List.mem_of_getElem? (i := 117) (by decide +kernel), List.mem_of_getElem? (i := 498) (by decide +kernel), List.mem_of_getElem? (i := 499) (by decide +kernel)⟩
def lw_privs_1 : List (MethodName × Nat) := [(⟨"EarleyChart", "grammarChanged", "()V"⟩, 7), (⟨"EarleyChart$ItemSets", "predict", "(II)V"⟩, 3), (⟨"EarleyChart$ItemSets", "close", "(I)V"⟩, 3), (⟨"EarleyChart$ItemSets", "gatherWholeOrigins", "(I)V"⟩, 3), (⟨"EarleyChart$ItemSets", "grow", "(I)V"⟩, 3), (⟨"EarleyChart$ItemSets", "originsIn", "(II)I"⟩, 3), (⟨"EarleyChart$StepTable", "fillStretch", "(II)V"⟩, 4), (⟨"EarleyChart$StepTable", "lower", "(II)Z"⟩, 4), (⟨"EarleyChart$StepTable", "leastOfRow", "(III)I"⟩, 4), (⟨"java/lang/Throwable", "fillInStackTrace", "(I)Ljava/lang/Throwable;"⟩, 6), (⟨"EarleyChart", "hasVariable", "(I)Z"⟩, 7), (⟨"EarleyChart$Grammar", "openSlot", "()V"⟩, 6), (⟨"EarleyChart", "hasToken", "(I)Z"⟩, 7), (⟨"EarleyChart$Witness", "open", "(III)V"⟩, 8), (⟨"EarleyChart$Witness", "lowestProduction", "(III)I"⟩, 8), (⟨"EarleyChart$Witness", "goOn", "()V"⟩, 8)]
theorem lw_r1 : ∀ q ∈ lw_privs_1, lw_okq q := List.forall_mem_cons.mpr ⟨lw_p0, List.forall_mem_cons.mpr ⟨lw_p1, List.forall_mem_cons.mpr ⟨lw_p2, List.forall_mem_cons.mpr ⟨lw_p3, List.forall_mem_cons.mpr ⟨lw_p4, List.forall_mem_cons.mpr ⟨lw_p5, List.forall_mem_cons.mpr ⟨lw_p6, List.forall_mem_cons.mpr ⟨lw_p7, List.forall_mem_cons.mpr ⟨lw_p8, List.forall_mem_cons.mpr ⟨lw_p9, List.forall_mem_cons.mpr ⟨lw_p10, List.forall_mem_cons.mpr ⟨lw_p11, List.forall_mem_cons.mpr ⟨lw_p12, List.forall_mem_cons.mpr ⟨lw_p13, List.forall_mem_cons.mpr ⟨lw_p14, List.forall_mem_cons.mpr ⟨lw_p15, fun _ h => absurd h List.not_mem_nil⟩⟩⟩⟩⟩⟩⟩⟩⟩⟩⟩⟩⟩⟩⟩⟩
theorem lw_p16 : lw_okq (⟨"EarleyChart$Witness", "shortestEnd", "(III)I"⟩, 8) := ⟨⟨by decide +kernel, by decide +kernel⟩, List.mem_of_getElem? (i := 117) (by decide +kernel), List.mem_of_getElem? (i := 502) (by decide +kernel), List.mem_of_getElem? (i := 503) (by decide +kernel)⟩
theorem lw_p17 : lw_okq (⟨"EarleyChart", "hasSet", "(I)Z"⟩, 7) := ⟨⟨by decide +kernel, by decide +kernel⟩, List.mem_of_getElem? (i := 18) (by decide +kernel), List.mem_of_getElem? (i := 539) (by decide +kernel), List.mem_of_getElem? (i := 540) (by decide +kernel)⟩
theorem lw_p18 : lw_okq (⟨"EarleyChartModel", "isVariable", "(I)Z"⟩, 17) := ⟨⟨by decide +kernel, by decide +kernel⟩, List.mem_of_getElem? (i := 576) (by decide +kernel), List.mem_of_getElem? (i := 643) (by decide +kernel), List.mem_of_getElem? (i := 644) (by decide +kernel)⟩
theorem lw_p19 : lw_okq (⟨"EarleyChartModel", "throwsBy", "(I)Z"⟩, 17) := ⟨⟨by decide +kernel, by decide +kernel⟩, List.mem_of_getElem? (i := 576) (by decide +kernel), List.mem_of_getElem? (i := 647) (by decide +kernel), List.mem_of_getElem? (i := 648) (by decide +kernel)⟩
theorem lw_p20 : lw_okq (⟨"EarleyChartModel", "grammarChanged", "()V"⟩, 17) := ⟨⟨by decide +kernel, by decide +kernel⟩, List.mem_of_getElem? (i := 576) (by decide +kernel), List.mem_of_getElem? (i := 651) (by decide +kernel), List.mem_of_getElem? (i := 652) (by decide +kernel)⟩
theorem lw_p21 : lw_okq (⟨"EarleyChartModel", "fill", "(I)V"⟩, 17) := ⟨⟨by decide +kernel, by decide +kernel⟩, List.mem_of_getElem? (i := 576) (by decide +kernel), List.mem_of_getElem? (i := 655) (by decide +kernel), List.mem_of_getElem? (i := 656) (by decide +kernel)⟩
theorem lw_p22 : lw_okq (⟨"EarleyChartModel", "put", "(IIII)V"⟩, 17) := ⟨⟨by decide +kernel, by decide +kernel⟩, List.mem_of_getElem? (i := 576) (by decide +kernel), List.mem_of_getElem? (i := 659) (by decide +kernel), List.mem_of_getElem? (i := 660) (by decide +kernel)⟩
theorem lw_p23 : lw_okq (⟨"EarleyChartModel", "behind", "(II)I"⟩, 17) := ⟨⟨by decide +kernel, by decide +kernel⟩, List.mem_of_getElem? (i := 576) (by decide +kernel), List.mem_of_getElem? (i := 663) (by decide +kernel), List.mem_of_getElem? (i := 664) (by decide +kernel)⟩
theorem lw_p24 : lw_okq (⟨"EarleyChartModel", "isIn", "(IIII)Z"⟩, 17) := ⟨⟨by decide +kernel, by decide +kernel⟩, List.mem_of_getElem? (i := 576) (by decide +kernel), List.mem_of_getElem? (i := 667) (by decide +kernel), List.mem_of_getElem? (i := 668) (by decide +kernel)⟩
theorem lw_p25 : lw_okq (⟨"EarleyChartModel", "bring", "(IIII)V"⟩, 17) := ⟨⟨by decide +kernel, by decide +kernel⟩, List.mem_of_getElem? (i := 576) (by decide +kernel), List.mem_of_getElem? (i := 671) (by decide +kernel), List.mem_of_getElem? (i := 672) (by decide +kernel)⟩
theorem lw_p26 : lw_okq (⟨"EarleyChartModel", "allLengths", "()I"⟩, 17) := ⟨⟨by decide +kernel, by decide +kernel⟩, List.mem_of_getElem? (i := 576) (by decide +kernel), List.mem_of_getElem? (i := 679) (by decide +kernel), List.mem_of_getElem? (i := 680) (by decide +kernel)⟩
theorem lw_p27 : lw_okq (⟨"EarleyChartModel", "isToken", "(I)Z"⟩, 17) := ⟨⟨by decide +kernel, by decide +kernel⟩, List.mem_of_getElem? (i := 576) (by decide +kernel), List.mem_of_getElem? (i := 683) (by decide +kernel), List.mem_of_getElem? (i := 684) (by decide +kernel)⟩
theorem lw_p28 : lw_okq (⟨"EarleyChartModel", "sizeOf", "(I)I"⟩, 17) := ⟨⟨by decide +kernel, by decide +kernel⟩, List.mem_of_getElem? (i := 576) (by decide +kernel), List.mem_of_getElem? (i := 691) (by decide +kernel), List.mem_of_getElem? (i := 692) (by decide +kernel)⟩
theorem lw_p29 : lw_okq (⟨"EarleyChartModel", "isAccepted", "()Z"⟩, 17) := ⟨⟨by decide +kernel, by decide +kernel⟩, List.mem_of_getElem? (i := 576) (by decide +kernel), List.mem_of_getElem? (i := 703) (by decide +kernel), List.mem_of_getElem? (i := 704) (by decide +kernel)⟩
theorem lw_p30 : lw_okq (⟨"EarleyChartModel", "work", "()V"⟩, 17) := ⟨⟨by decide +kernel, by decide +kernel⟩, List.mem_of_getElem? (i := 576) (by decide +kernel), List.mem_of_getElem? (i := 711) (by decide +kernel), List.mem_of_getElem? (i := 712) (by decide +kernel)⟩
theorem lw_p31 : lw_okq (⟨"EarleyChartModel", "row", "(II)V"⟩, 17) := ⟨⟨by decide +kernel, by decide +kernel⟩, List.mem_of_getElem? (i := 576) (by decide +kernel), List.mem_of_getElem? (i := 716) (by decide +kernel), List.mem_of_getElem? (i := 717) (by decide +kernel)⟩
def lw_privs_2 : List (MethodName × Nat) := [(⟨"EarleyChart$Witness", "shortestEnd", "(III)I"⟩, 8), (⟨"EarleyChart", "hasSet", "(I)Z"⟩, 7), (⟨"EarleyChartModel", "isVariable", "(I)Z"⟩, 17), (⟨"EarleyChartModel", "throwsBy", "(I)Z"⟩, 17), (⟨"EarleyChartModel", "grammarChanged", "()V"⟩, 17), (⟨"EarleyChartModel", "fill", "(I)V"⟩, 17), (⟨"EarleyChartModel", "put", "(IIII)V"⟩, 17), (⟨"EarleyChartModel", "behind", "(II)I"⟩, 17), (⟨"EarleyChartModel", "isIn", "(IIII)Z"⟩, 17), (⟨"EarleyChartModel", "bring", "(IIII)V"⟩, 17), (⟨"EarleyChartModel", "allLengths", "()I"⟩, 17), (⟨"EarleyChartModel", "isToken", "(I)Z"⟩, 17), (⟨"EarleyChartModel", "sizeOf", "(I)I"⟩, 17), (⟨"EarleyChartModel", "isAccepted", "()Z"⟩, 17), (⟨"EarleyChartModel", "work", "()V"⟩, 17), (⟨"EarleyChartModel", "row", "(II)V"⟩, 17)]
theorem lw_r2 : ∀ q ∈ lw_privs_2, lw_okq q := List.forall_mem_cons.mpr ⟨lw_p16, List.forall_mem_cons.mpr ⟨lw_p17, List.forall_mem_cons.mpr ⟨lw_p18, List.forall_mem_cons.mpr ⟨lw_p19, List.forall_mem_cons.mpr ⟨lw_p20, List.forall_mem_cons.mpr ⟨lw_p21, List.forall_mem_cons.mpr ⟨lw_p22, List.forall_mem_cons.mpr ⟨lw_p23, List.forall_mem_cons.mpr ⟨lw_p24, List.forall_mem_cons.mpr ⟨lw_p25, List.forall_mem_cons.mpr ⟨lw_p26, List.forall_mem_cons.mpr ⟨lw_p27, List.forall_mem_cons.mpr ⟨lw_p28, List.forall_mem_cons.mpr ⟨lw_p29, List.forall_mem_cons.mpr ⟨lw_p30, List.forall_mem_cons.mpr ⟨lw_p31, fun _ h => absurd h List.not_mem_nil⟩⟩⟩⟩⟩⟩⟩⟩⟩⟩⟩⟩⟩⟩⟩⟩
theorem lw_p32 : lw_okq (⟨"EarleyChartModel", "stepsOf", "(III)I"⟩, 17) := ⟨⟨by decide +kernel, by decide +kernel⟩, List.mem_of_getElem? (i := 576) (by decide +kernel), List.mem_of_getElem? (i := 720) (by decide +kernel), List.mem_of_getElem? (i := 721) (by decide +kernel)⟩
theorem lw_p33 : lw_okq (⟨"EarleyChartModel", "choose", "(III)I"⟩, 17) := ⟨⟨by decide +kernel, by decide +kernel⟩, List.mem_of_getElem? (i := 576) (by decide +kernel), List.mem_of_getElem? (i := 732) (by decide +kernel), List.mem_of_getElem? (i := 733) (by decide +kernel)⟩
def lw_privs_3 : List (MethodName × Nat) := [(⟨"EarleyChartModel", "stepsOf", "(III)I"⟩, 17), (⟨"EarleyChartModel", "choose", "(III)I"⟩, 17)]
theorem lw_r3 : ∀ q ∈ lw_privs_3, lw_okq q := List.forall_mem_cons.mpr ⟨lw_p32, List.forall_mem_cons.mpr ⟨lw_p33, fun _ h => absurd h List.not_mem_nil⟩⟩
def lw_privs : List (MethodName × Nat) := lw_privs_1 ++ (lw_privs_2 ++ (lw_privs_3))
def lw_tbl : List Cond := k2_sels lw_privs ++ tables_1
theorem lw_privs_ok : ∀ q ∈ lw_privs, lw_okq q := by
  show ∀ q ∈ lw_privs_1 ++ (lw_privs_2 ++ (lw_privs_3)), lw_okq q
  exact List.forall_mem_append.mpr ⟨lw_r1, List.forall_mem_append.mpr ⟨lw_r2, lw_r3⟩⟩

/-! ===== BEGIN words of one list among another's, by their places ===== -/
theorem goodIn_r {big : List Cond} (ws : List Cond) (ps : List Nat) (hp : ws = ps.filterMap (fun i => big[i]?)) (h : ws.all goodWord = true) : GoodIn big ws := by
  intro w hw
  have h1 := List.all_eq_true.mp h w hw
  rw [hp] at hw
  obtain ⟨i, -, hi⟩ := List.mem_filterMap.mp hw
  have hm : w ∈ big := by first | exact List.mem_of_getElem? hi | exact List.getElem?_mem hi
  exact ⟨hm, good_of_word h1⟩
theorem goodIn_app {big a b : List Cond} (ha : GoodIn big a) (hb : GoodIn big b) : GoodIn big (a ++ b) := fun w h => (List.mem_append.mp h).elim (ha w) (hb w)
theorem goodIn_ca {big a b : List Cond} {c : Cond} (ha : GoodIn big (c :: a)) (hb : GoodIn big b) : GoodIn big (c :: (a ++ b)) := fun w h => (List.mem_cons.mp h).elim (fun e => ha w (List.mem_cons.mpr (Or.inl e))) (fun h => (List.mem_append.mp h).elim (fun h => ha w (List.mem_cons.mpr (Or.inr h))) (hb w))
theorem goodIn_sub {big ws : List Cond} (hm : ∀ w ∈ ws, w ∈ big) (h : ws.all goodWord = true) : GoodIn big ws := fun w hw => ⟨hm w hw, good_of_word (List.all_eq_true.mp h w hw)⟩
/-! ===== END ===== -/
end
section
/-- the words of the tables that stay true along a run -/
def tbG : List Cond := lw_tbl.filter goodWord
theorem tbG_of {w : Cond} (h : w ∈ tables_1) (g : goodWord w = true) : w ∈ tbG := List.mem_filter.mpr ⟨List.mem_append_right _ h, g⟩
theorem tbG_sel {w : Cond} (h : w ∈ k2_sels lw_privs) (g : goodWord w = true) : w ∈ tbG := List.mem_filter.mpr ⟨List.mem_append_left _ h, g⟩
theorem tbG_good : tbG.all goodWord = true := List.all_eq_true.mpr fun w h => (List.mem_filter.mp h).2
def R_G : String := "EarleyChart$Grammar"
def F_G : u_T := fun k => match k with
  | 0 => ("EarleyChart$Grammar", "leftSide", "[I", true)
  | 1 => ("EarleyChart$Grammar", "firstSlot", "[I", true)
  | 2 => ("EarleyChart$Grammar", "symbolBehind", "[I", true)
  | 3 => ("EarleyChart$Grammar", "productionOf", "[I", true)
  | 4 => ("EarleyChart$Grammar", "productions", "I", false)
  | _ => ("EarleyChart$Grammar", "slots", "I", false)
def ft_G : Nat → FieldType := fun k => match k with
  | 0 => .array .int
  | 1 => .array .int
  | 2 => .array .int
  | 3 => .array .int
  | 4 => .int
  | _ => .int
theorem fn_G : ∀ a, a < 6 → ∀ b, b < 6 → a ≠ b → (F_G a).2.1 ≠ (F_G b).2.1 := by decide +kernel
theorem ft_G_ok : ∀ k, k < 6 → parseFieldDescriptor (F_G k).2.2.1 = some (ft_G k) := by decide +kernel
theorem in_G : ∀ w ∈ u_ws R_G F_G 6, w ∈ tbG := by
  intro w hw
  obtain ⟨k, hk, rfl⟩ := List.mem_map.mp hw
  have hk := List.mem_range.mp hk
  match k, hk with
  | 0, _ => exact tbG_of (List.mem_of_getElem? (i := 50) (by decide +kernel)) (by decide +kernel)
  | 1, _ => exact tbG_of (List.mem_of_getElem? (i := 52) (by decide +kernel)) (by decide +kernel)
  | 2, _ => exact tbG_of (List.mem_of_getElem? (i := 54) (by decide +kernel)) (by decide +kernel)
  | 3, _ => exact tbG_of (List.mem_of_getElem? (i := 56) (by decide +kernel)) (by decide +kernel)
  | 4, _ => exact tbG_of (List.mem_of_getElem? (i := 58) (by decide +kernel)) (by decide +kernel)
  | 5, _ => exact tbG_of (List.mem_of_getElem? (i := 60) (by decide +kernel)) (by decide +kernel)
  | k + 6, hk => exact absurd hk (by omega)
def R_I : String := "EarleyChart$Input"
def F_I : u_T := fun k => match k with
  | 0 => ("EarleyChart$Input", "tokens", "[I", true)
  | _ => ("EarleyChart$Input", "length", "I", false)
def ft_I : Nat → FieldType := fun k => match k with
  | 0 => .array .int
  | _ => .int
theorem fn_I : ∀ a, a < 2 → ∀ b, b < 2 → a ≠ b → (F_I a).2.1 ≠ (F_I b).2.1 := by decide +kernel
theorem ft_I_ok : ∀ k, k < 2 → parseFieldDescriptor (F_I k).2.2.1 = some (ft_I k) := by decide +kernel
theorem in_I : ∀ w ∈ u_ws R_I F_I 2, w ∈ tbG := by
  intro w hw
  obtain ⟨k, hk, rfl⟩ := List.mem_map.mp hw
  have hk := List.mem_range.mp hk
  match k, hk with
  | 0, _ => exact tbG_of (List.mem_of_getElem? (i := 73) (by decide +kernel)) (by decide +kernel)
  | 1, _ => exact tbG_of (List.mem_of_getElem? (i := 75) (by decide +kernel)) (by decide +kernel)
  | k + 2, hk => exact absurd hk (by omega)
def R_S : String := "EarleyChart$ItemSets"
def F_S : u_T := fun k => match k with
  | 0 => ("EarleyChart$ItemSets", "grammar", "LEarleyChart$Grammar;", true)
  | 1 => ("EarleyChart$ItemSets", "origins", "[[I", true)
  | _ => ("EarleyChart$ItemSets", "wholeOrigins", "[I", true)
def ft_S : Nat → FieldType := fun k => match k with
  | 0 => .object "EarleyChart$Grammar"
  | 1 => .array (.array .int)
  | _ => .array .int
theorem fn_S : ∀ a, a < 3 → ∀ b, b < 3 → a ≠ b → (F_S a).2.1 ≠ (F_S b).2.1 := by decide +kernel
theorem ft_S_ok : ∀ k, k < 3 → parseFieldDescriptor (F_S k).2.2.1 = some (ft_S k) := by decide +kernel
theorem in_S : ∀ w ∈ u_ws R_S F_S 3, w ∈ tbG := by
  intro w hw
  obtain ⟨k, hk, rfl⟩ := List.mem_map.mp hw
  have hk := List.mem_range.mp hk
  match k, hk with
  | 0, _ => exact tbG_of (List.mem_of_getElem? (i := 109) (by decide +kernel)) (by decide +kernel)
  | 1, _ => exact tbG_of (List.mem_of_getElem? (i := 111) (by decide +kernel)) (by decide +kernel)
  | 2, _ => exact tbG_of (List.mem_of_getElem? (i := 113) (by decide +kernel)) (by decide +kernel)
  | k + 3, hk => exact absurd hk (by omega)
def R_T : String := "EarleyChart$StepTable"
def F_T : u_T := fun k => match k with
  | 0 => ("EarleyChart$StepTable", "grammar", "LEarleyChart$Grammar;", true)
  | 1 => ("EarleyChart$StepTable", "input", "LEarleyChart$Input;", true)
  | 2 => ("EarleyChart$StepTable", "ofVariable", "[[I", true)
  | _ => ("EarleyChart$StepTable", "ofRowBehind", "[[I", true)
def ft_T : Nat → FieldType := fun k => match k with
  | 0 => .object "EarleyChart$Grammar"
  | 1 => .object "EarleyChart$Input"
  | 2 => .array (.array .int)
  | _ => .array (.array .int)
theorem fn_T : ∀ a, a < 4 → ∀ b, b < 4 → a ≠ b → (F_T a).2.1 ≠ (F_T b).2.1 := by decide +kernel
theorem ft_T_ok : ∀ k, k < 4 → parseFieldDescriptor (F_T k).2.2.1 = some (ft_T k) := by decide +kernel
theorem in_T : ∀ w ∈ u_ws R_T F_T 4, w ∈ tbG := by
  intro w hw
  obtain ⟨k, hk, rfl⟩ := List.mem_map.mp hw
  have hk := List.mem_range.mp hk
  match k, hk with
  | 0, _ => exact tbG_of (List.mem_of_getElem? (i := 90) (by decide +kernel)) (by decide +kernel)
  | 1, _ => exact tbG_of (List.mem_of_getElem? (i := 92) (by decide +kernel)) (by decide +kernel)
  | 2, _ => exact tbG_of (List.mem_of_getElem? (i := 94) (by decide +kernel)) (by decide +kernel)
  | 3, _ => exact tbG_of (List.mem_of_getElem? (i := 96) (by decide +kernel)) (by decide +kernel)
  | k + 4, hk => exact absurd hk (by omega)
def R_W : String := "EarleyChart$Witness"
def F_W : u_T := fun k => match k with
  | 0 => ("EarleyChart$Witness", "grammar", "LEarleyChart$Grammar;", true)
  | 1 => ("EarleyChart$Witness", "table", "LEarleyChart$StepTable;", true)
  | 2 => ("EarleyChart$Witness", "row", "[I", true)
  | 3 => ("EarleyChart$Witness", "count", "I", false)
  | 4 => ("EarleyChart$Witness", "openSlots", "[I", true)
  | 5 => ("EarleyChart$Witness", "froms", "[I", true)
  | 6 => ("EarleyChart$Witness", "tos", "[I", true)
  | _ => ("EarleyChart$Witness", "depth", "I", false)
def ft_W : Nat → FieldType := fun k => match k with
  | 0 => .object "EarleyChart$Grammar"
  | 1 => .object "EarleyChart$StepTable"
  | 2 => .array .int
  | 3 => .int
  | 4 => .array .int
  | 5 => .array .int
  | 6 => .array .int
  | _ => .int
theorem fn_W : ∀ a, a < 8 → ∀ b, b < 8 → a ≠ b → (F_W a).2.1 ≠ (F_W b).2.1 := by decide +kernel
theorem ft_W_ok : ∀ k, k < 8 → parseFieldDescriptor (F_W k).2.2.1 = some (ft_W k) := by decide +kernel
theorem in_W : ∀ w ∈ u_ws R_W F_W 8, w ∈ tbG := by
  intro w hw
  obtain ⟨k, hk, rfl⟩ := List.mem_map.mp hw
  have hk := List.mem_range.mp hk
  match k, hk with
  | 0, _ => exact tbG_of (List.mem_of_getElem? (i := 132) (by decide +kernel)) (by decide +kernel)
  | 1, _ => exact tbG_of (List.mem_of_getElem? (i := 134) (by decide +kernel)) (by decide +kernel)
  | 2, _ => exact tbG_of (List.mem_of_getElem? (i := 136) (by decide +kernel)) (by decide +kernel)
  | 3, _ => exact tbG_of (List.mem_of_getElem? (i := 138) (by decide +kernel)) (by decide +kernel)
  | 4, _ => exact tbG_of (List.mem_of_getElem? (i := 140) (by decide +kernel)) (by decide +kernel)
  | 5, _ => exact tbG_of (List.mem_of_getElem? (i := 142) (by decide +kernel)) (by decide +kernel)
  | 6, _ => exact tbG_of (List.mem_of_getElem? (i := 144) (by decide +kernel)) (by decide +kernel)
  | 7, _ => exact tbG_of (List.mem_of_getElem? (i := 146) (by decide +kernel)) (by decide +kernel)
  | k + 8, hk => exact absurd hk (by omega)
def R_E : String := "EarleyChart"
def F_E : u_T := fun k => match k with
  | 0 => ("EarleyChart", "variableCount", "I", true)
  | 1 => ("EarleyChart", "tokenCount", "I", true)
  | 2 => ("EarleyChart", "grammar", "LEarleyChart$Grammar;", true)
  | 3 => ("EarleyChart", "input", "LEarleyChart$Input;", true)
  | 4 => ("EarleyChart", "sets", "LEarleyChart$ItemSets;", true)
  | 5 => ("EarleyChart", "table", "LEarleyChart$StepTable;", true)
  | _ => ("EarleyChart", "witness", "LEarleyChart$Witness;", true)
def ft_E : Nat → FieldType := fun k => match k with
  | 0 => .int
  | 1 => .int
  | 2 => .object "EarleyChart$Grammar"
  | 3 => .object "EarleyChart$Input"
  | 4 => .object "EarleyChart$ItemSets"
  | 5 => .object "EarleyChart$StepTable"
  | _ => .object "EarleyChart$Witness"
theorem fn_E : ∀ a, a < 7 → ∀ b, b < 7 → a ≠ b → (F_E a).2.1 ≠ (F_E b).2.1 := by decide +kernel
theorem ft_E_ok : ∀ k, k < 7 → parseFieldDescriptor (F_E k).2.2.1 = some (ft_E k) := by decide +kernel
theorem in_E : ∀ w ∈ u_ws R_E F_E 7, w ∈ tbG := by
  intro w hw
  obtain ⟨k, hk, rfl⟩ := List.mem_map.mp hw
  have hk := List.mem_range.mp hk
  match k, hk with
  | 0, _ => exact tbG_of (List.mem_of_getElem? (i := 256) (by decide +kernel)) (by decide +kernel)
  | 1, _ => exact tbG_of (List.mem_of_getElem? (i := 258) (by decide +kernel)) (by decide +kernel)
  | 2, _ => exact tbG_of (List.mem_of_getElem? (i := 260) (by decide +kernel)) (by decide +kernel)
  | 3, _ => exact tbG_of (List.mem_of_getElem? (i := 262) (by decide +kernel)) (by decide +kernel)
  | 4, _ => exact tbG_of (List.mem_of_getElem? (i := 264) (by decide +kernel)) (by decide +kernel)
  | 5, _ => exact tbG_of (List.mem_of_getElem? (i := 266) (by decide +kernel)) (by decide +kernel)
  | 6, _ => exact tbG_of (List.mem_of_getElem? (i := 268) (by decide +kernel)) (by decide +kernel)
  | k + 7, hk => exact absurd hk (by omega)
def R_M : String := "EarleyChartModel"
def F_M : u_T := fun k => match k with
  | 0 => ("EarleyChartModel", "variables", "I", true)
  | 1 => ("EarleyChartModel", "tokens", "I", true)
  | 2 => ("EarleyChartModel", "thrown", "I", false)
  | 3 => ("EarleyChartModel", "productions", "I", false)
  | 4 => ("EarleyChartModel", "left", "[I", true)
  | 5 => ("EarleyChartModel", "length", "[I", true)
  | 6 => ("EarleyChartModel", "right", "[I", true)
  | 7 => ("EarleyChartModel", "fed", "I", false)
  | 8 => ("EarleyChartModel", "input", "[I", true)
  | 9 => ("EarleyChartModel", "has", "[Z", true)
  | 10 => ("EarleyChartModel", "changed", "Z", false)
  | 11 => ("EarleyChartModel", "steps", "[I", true)
  | 12 => ("EarleyChartModel", "known", "Z", false)
  | 13 => ("EarleyChartModel", "rest", "[I", true)
  | 14 => ("EarleyChartModel", "made", "I", false)
  | 15 => ("EarleyChartModel", "witness", "[I", true)
  | _ => ("EarleyChartModel", "stack", "[I", true)
def ft_M : Nat → FieldType := fun k => match k with
  | 0 => .int
  | 1 => .int
  | 2 => .int
  | 3 => .int
  | 4 => .array .int
  | 5 => .array .int
  | 6 => .array .int
  | 7 => .int
  | 8 => .array .int
  | 9 => .array .boolean
  | 10 => .boolean
  | 11 => .array .int
  | 12 => .boolean
  | 13 => .array .int
  | 14 => .int
  | 15 => .array .int
  | _ => .array .int
theorem fn_M : ∀ a, a < 17 → ∀ b, b < 17 → a ≠ b → (F_M a).2.1 ≠ (F_M b).2.1 := by decide +kernel
theorem ft_M_ok : ∀ k, k < 17 → parseFieldDescriptor (F_M k).2.2.1 = some (ft_M k) := by decide +kernel
theorem in_M : ∀ w ∈ u_ws R_M F_M 17, w ∈ tbG := by
  intro w hw
  obtain ⟨k, hk, rfl⟩ := List.mem_map.mp hw
  have hk := List.mem_range.mp hk
  match k, hk with
  | 0, _ => exact tbG_of (List.mem_of_getElem? (i := 598) (by decide +kernel)) (by decide +kernel)
  | 1, _ => exact tbG_of (List.mem_of_getElem? (i := 600) (by decide +kernel)) (by decide +kernel)
  | 2, _ => exact tbG_of (List.mem_of_getElem? (i := 602) (by decide +kernel)) (by decide +kernel)
  | 3, _ => exact tbG_of (List.mem_of_getElem? (i := 604) (by decide +kernel)) (by decide +kernel)
  | 4, _ => exact tbG_of (List.mem_of_getElem? (i := 606) (by decide +kernel)) (by decide +kernel)
  | 5, _ => exact tbG_of (List.mem_of_getElem? (i := 608) (by decide +kernel)) (by decide +kernel)
  | 6, _ => exact tbG_of (List.mem_of_getElem? (i := 610) (by decide +kernel)) (by decide +kernel)
  | 7, _ => exact tbG_of (List.mem_of_getElem? (i := 612) (by decide +kernel)) (by decide +kernel)
  | 8, _ => exact tbG_of (List.mem_of_getElem? (i := 614) (by decide +kernel)) (by decide +kernel)
  | 9, _ => exact tbG_of (List.mem_of_getElem? (i := 616) (by decide +kernel)) (by decide +kernel)
  | 10, _ => exact tbG_of (List.mem_of_getElem? (i := 618) (by decide +kernel)) (by decide +kernel)
  | 11, _ => exact tbG_of (List.mem_of_getElem? (i := 620) (by decide +kernel)) (by decide +kernel)
  | 12, _ => exact tbG_of (List.mem_of_getElem? (i := 622) (by decide +kernel)) (by decide +kernel)
  | 13, _ => exact tbG_of (List.mem_of_getElem? (i := 624) (by decide +kernel)) (by decide +kernel)
  | 14, _ => exact tbG_of (List.mem_of_getElem? (i := 626) (by decide +kernel)) (by decide +kernel)
  | 15, _ => exact tbG_of (List.mem_of_getElem? (i := 628) (by decide +kernel)) (by decide +kernel)
  | 16, _ => exact tbG_of (List.mem_of_getElem? (i := 630) (by decide +kernel)) (by decide +kernel)
  | k + 17, hk => exact absurd hk (by omega)
def R_L : String := "EarleyChartLaw"
def R_J : String := "java/lang/Integer"
def R_A : String := "java/util/Arrays"
/-- the classes whose objects the worlds hold -/
abbrev classes : List vw_C := [(R_G, F_G, 6), (R_I, F_I, 2), (R_S, F_S, 3), (R_T, F_T, 4), (R_W, F_W, 8), (R_E, F_E, 7), (R_M, F_M, 17)]
abbrev bE_init : ByteArray := prog_1_method_1_code
abbrev yE_init : MethodName := ⟨"EarleyChart", "<init>", "(II)V"⟩
abbrev bG_init : ByteArray := prog_2_method_1_code
abbrev yG_init : MethodName := ⟨"EarleyChart$Grammar", "<init>", "()V"⟩
abbrev bI_init : ByteArray := prog_3_method_1_code
abbrev yI_init : MethodName := ⟨"EarleyChart$Input", "<init>", "()V"⟩
abbrev bT_init : ByteArray := prog_5_method_1_code
abbrev yT_init : MethodName := ⟨"EarleyChart$StepTable", "<init>", "(LEarleyChart$Grammar;LEarleyChart$Input;)V"⟩
abbrev bS_init : ByteArray := prog_4_method_1_code
abbrev yS_init : MethodName := ⟨"EarleyChart$ItemSets", "<init>", "(LEarleyChart$Grammar;)V"⟩
abbrev bW_init : ByteArray := prog_6_method_1_code
abbrev yW_init : MethodName := ⟨"EarleyChart$Witness", "<init>", "(LEarleyChart$Grammar;LEarleyChart$StepTable;)V"⟩
abbrev bE_grammarChanged : ByteArray := prog_1_method_20_code
abbrev yE_grammarChanged : MethodName := ⟨"EarleyChart", "grammarChanged", "()V"⟩
abbrev bW_forget : ByteArray := prog_6_method_2_code
abbrev yW_forget : MethodName := ⟨"EarleyChart$Witness", "forget", "()V"⟩
abbrev bS_makeFirst : ByteArray := prog_4_method_2_code
abbrev yS_makeFirst : MethodName := ⟨"EarleyChart$ItemSets", "makeFirst", "()V"⟩
abbrev bJ_fill : ByteArray := prog_17_method_103_code
abbrev yJ_fill : MethodName := ⟨"java/util/Arrays", "fill", "([II)V"⟩
abbrev bG_start : ByteArray := prog_2_method_2_code
abbrev yG_start : MethodName := ⟨"EarleyChart$Grammar", "start", "()I"⟩
abbrev bS_predict : ByteArray := prog_4_method_11_code
abbrev yS_predict : MethodName := ⟨"EarleyChart$ItemSets", "predict", "(II)V"⟩
abbrev bS_close : ByteArray := prog_4_method_8_code
abbrev yS_close : MethodName := ⟨"EarleyChart$ItemSets", "close", "(I)V"⟩
abbrev bS_size : ByteArray := prog_4_method_4_code
abbrev yS_size : MethodName := ⟨"EarleyChart$ItemSets", "size", "(I)I"⟩
abbrev bJ_bitCount : ByteArray := prog_13_method_49_code
abbrev yJ_bitCount : MethodName := ⟨"java/lang/Integer", "bitCount", "(I)I"⟩
abbrev bS_gatherWholeOrigins : ByteArray := prog_4_method_9_code
abbrev yS_gatherWholeOrigins : MethodName := ⟨"EarleyChart$ItemSets", "gatherWholeOrigins", "(I)V"⟩
abbrev bG_leftSideAt : ByteArray := prog_2_method_8_code
abbrev yG_leftSideAt : MethodName := ⟨"EarleyChart$Grammar", "leftSideAt", "(I)I"⟩
abbrev bS_grow : ByteArray := prog_4_method_10_code
abbrev yS_grow : MethodName := ⟨"EarleyChart$ItemSets", "grow", "(I)V"⟩
abbrev bE_isVariable : ByteArray := prog_1_method_21_code
abbrev yE_isVariable : MethodName := ⟨"EarleyChart", "isVariable", "(I)Z"⟩
abbrev bS_originsIn : ByteArray := prog_4_method_12_code
abbrev yS_originsIn : MethodName := ⟨"EarleyChart$ItemSets", "originsIn", "(II)I"⟩
abbrev bT_fillUpTo : ByteArray := prog_5_method_5_code
abbrev yT_fillUpTo : MethodName := ⟨"EarleyChart$StepTable", "fillUpTo", "(I)V"⟩
abbrev bT_fillStretch : ByteArray := prog_5_method_7_code
abbrev yT_fillStretch : MethodName := ⟨"EarleyChart$StepTable", "fillStretch", "(II)V"⟩
abbrev bT_stretch : ByteArray := prog_5_method_6_code
abbrev yT_stretch : MethodName := ⟨"EarleyChart$StepTable", "stretch", "(II)I"⟩
abbrev bT_lower : ByteArray := prog_5_method_8_code
abbrev yT_lower : MethodName := ⟨"EarleyChart$StepTable", "lower", "(II)Z"⟩
abbrev bT_leastOfRow : ByteArray := prog_5_method_9_code
abbrev yT_leastOfRow : MethodName := ⟨"EarleyChart$StepTable", "leastOfRow", "(III)I"⟩
abbrev bT_ofSplitRow : ByteArray := prog_5_method_4_code
abbrev yT_ofSplitRow : MethodName := ⟨"EarleyChart$StepTable", "ofSplitRow", "(IIII)I"⟩
abbrev bT_ofSymbol : ByteArray := prog_5_method_2_code
abbrev yT_ofSymbol : MethodName := ⟨"EarleyChart$StepTable", "ofSymbol", "(III)I"⟩
abbrev bI_isJust : ByteArray := prog_3_method_3_code
abbrev yI_isJust : MethodName := ⟨"EarleyChart$Input", "isJust", "(III)Z"⟩
abbrev bT_ofRow : ByteArray := prog_5_method_3_code
abbrev yT_ofRow : MethodName := ⟨"EarleyChart$StepTable", "ofRow", "(III)I"⟩
abbrev bT_isFewer : ByteArray := prog_5_method_10_code
abbrev yT_isFewer : MethodName := ⟨"EarleyChart$StepTable", "isFewer", "(II)Z"⟩
abbrev bG_dotAt : ByteArray := prog_2_method_9_code
abbrev yG_dotAt : MethodName := ⟨"EarleyChart$Grammar", "dotAt", "(I)I"⟩
abbrev bE_alive : ByteArray := prog_1_method_5_code
abbrev yE_alive : MethodName := ⟨"EarleyChart", "alive", "()Z"⟩
abbrev bE_accepts : ByteArray := prog_1_method_6_code
abbrev yE_accepts : MethodName := ⟨"EarleyChart", "accepts", "()Z"⟩
abbrev bS_holdWholeStart : ByteArray := prog_4_method_5_code
abbrev yS_holdWholeStart : MethodName := ⟨"EarleyChart$ItemSets", "holdWholeStart", "(I)Z"⟩
abbrev bE_witCount : ByteArray := prog_1_method_8_code
abbrev yE_witCount : MethodName := ⟨"EarleyChart", "witCount", "()I"⟩
abbrev bE_clear : ByteArray := prog_1_method_10_code
abbrev yE_clear : MethodName := ⟨"EarleyChart", "clear", "()I"⟩
abbrev bE_erase : ByteArray := prog_1_method_11_code
abbrev yE_erase : MethodName := ⟨"EarleyChart", "erase", "()I"⟩
abbrev bG_forget : ByteArray := prog_2_method_10_code
abbrev yG_forget : MethodName := ⟨"EarleyChart$Grammar", "forget", "()V"⟩
abbrev bE_fed : ByteArray := prog_1_method_16_code
abbrev yE_fed : MethodName := ⟨"EarleyChart", "fed", "()I"⟩
abbrev bL_cell : ByteArray := method_2_code
abbrev yL_cell : MethodName := ⟨"EarleyChartLaw", "cell", "([II)I"⟩
abbrev bL_addProd : ByteArray := method_3_code
abbrev yL_addProd : MethodName := ⟨"EarleyChartLaw", "addProd", "(LEarleyChart;I[J)I"⟩
abbrev bE_addProd : ByteArray := prog_1_method_2_code
abbrev yE_addProd : MethodName := ⟨"EarleyChart", "addProd", "(I)I"⟩
abbrev bE_hasVariable : ByteArray := prog_1_method_17_code
abbrev yE_hasVariable : MethodName := ⟨"EarleyChart", "hasVariable", "(I)Z"⟩
abbrev bG_openProduction : ByteArray := prog_2_method_5_code
abbrev yG_openProduction : MethodName := ⟨"EarleyChart$Grammar", "openProduction", "(I)V"⟩
abbrev bG_openSlot : ByteArray := prog_2_method_7_code
abbrev yG_openSlot : MethodName := ⟨"EarleyChart$Grammar", "openSlot", "()V"⟩
abbrev bL_addRhs : ByteArray := method_4_code
abbrev yL_addRhs : MethodName := ⟨"EarleyChartLaw", "addRhs", "(LEarleyChart;I[J)I"⟩
abbrev bE_addRhs : ByteArray := prog_1_method_3_code
abbrev yE_addRhs : MethodName := ⟨"EarleyChart", "addRhs", "(I)I"⟩
abbrev bG_hasRoomForSymbol : ByteArray := prog_2_method_4_code
abbrev yG_hasRoomForSymbol : MethodName := ⟨"EarleyChart$Grammar", "hasRoomForSymbol", "()Z"⟩
abbrev bG_lastLength : ByteArray := prog_2_method_3_code
abbrev yG_lastLength : MethodName := ⟨"EarleyChart$Grammar", "lastLength", "()I"⟩
abbrev bE_hasToken : ByteArray := prog_1_method_18_code
abbrev yE_hasToken : MethodName := ⟨"EarleyChart", "hasToken", "(I)Z"⟩
abbrev bG_appendSymbol : ByteArray := prog_2_method_6_code
abbrev yG_appendSymbol : MethodName := ⟨"EarleyChart$Grammar", "appendSymbol", "(I)V"⟩
abbrev bL_feed : ByteArray := method_5_code
abbrev yL_feed : MethodName := ⟨"EarleyChartLaw", "feed", "(LEarleyChart;I[J)I"⟩
abbrev bE_feed : ByteArray := prog_1_method_4_code
abbrev yE_feed : MethodName := ⟨"EarleyChart", "feed", "(I)I"⟩
abbrev bI_append : ByteArray := prog_3_method_2_code
abbrev yI_append : MethodName := ⟨"EarleyChart$Input", "append", "(I)V"⟩
abbrev bS_makeNext : ByteArray := prog_4_method_3_code
abbrev yS_makeNext : MethodName := ⟨"EarleyChart$ItemSets", "makeNext", "(II)V"⟩
abbrev bL_extract : ByteArray := method_6_code
abbrev yL_extract : MethodName := ⟨"EarleyChartLaw", "extract", "(LEarleyChart;[J)I"⟩
abbrev bE_extract : ByteArray := prog_1_method_7_code
abbrev yE_extract : MethodName := ⟨"EarleyChart", "extract", "()I"⟩
abbrev bW_tell : ByteArray := prog_6_method_3_code
abbrev yW_tell : MethodName := ⟨"EarleyChart$Witness", "tell", "(II)V"⟩
abbrev bW_open : ByteArray := prog_6_method_4_code
abbrev yW_open : MethodName := ⟨"EarleyChart$Witness", "open", "(III)V"⟩
abbrev bW_lowestProduction : ByteArray := prog_6_method_6_code
abbrev yW_lowestProduction : MethodName := ⟨"EarleyChart$Witness", "lowestProduction", "(III)I"⟩
abbrev bW_goOn : ByteArray := prog_6_method_5_code
abbrev yW_goOn : MethodName := ⟨"EarleyChart$Witness", "goOn", "()V"⟩
abbrev bW_shortestEnd : ByteArray := prog_6_method_7_code
abbrev yW_shortestEnd : MethodName := ⟨"EarleyChart$Witness", "shortestEnd", "(III)I"⟩
abbrev bL_wit : ByteArray := method_7_code
abbrev yL_wit : MethodName := ⟨"EarleyChartLaw", "wit", "(LEarleyChart;I[J)I"⟩
abbrev bE_wit : ByteArray := prog_1_method_9_code
abbrev yE_wit : MethodName := ⟨"EarleyChart", "wit", "(I)I"⟩
abbrev bL_items : ByteArray := method_8_code
abbrev yL_items : MethodName := ⟨"EarleyChartLaw", "items", "(LEarleyChart;I[J)I"⟩
abbrev bE_items : ByteArray := prog_1_method_12_code
abbrev yE_items : MethodName := ⟨"EarleyChart", "items", "(I)I"⟩
abbrev bE_hasSet : ByteArray := prog_1_method_19_code
abbrev yE_hasSet : MethodName := ⟨"EarleyChart", "hasSet", "(I)Z"⟩
abbrev bL_item : ByteArray := method_9_code
abbrev yL_item : MethodName := ⟨"EarleyChartLaw", "item", "(LEarleyChart;II[J)I"⟩
abbrev bE_item : ByteArray := prog_1_method_13_code
abbrev yE_item : MethodName := ⟨"EarleyChart", "item", "(II)I"⟩
abbrev bS_codeOf : ByteArray := prog_4_method_6_code
abbrev yS_codeOf : MethodName := ⟨"EarleyChart$ItemSets", "codeOf", "(II)I"⟩
abbrev bS_originAt : ByteArray := prog_4_method_7_code
abbrev yS_originAt : MethodName := ⟨"EarleyChart$ItemSets", "originAt", "(II)I"⟩
abbrev bL_steps : ByteArray := method_10_code
abbrev yL_steps : MethodName := ⟨"EarleyChartLaw", "steps", "(LEarleyChart;III[J)I"⟩
abbrev bE_steps : ByteArray := prog_1_method_14_code
abbrev yE_steps : MethodName := ⟨"EarleyChart", "steps", "(III)I"⟩
abbrev bL_nullable : ByteArray := method_11_code
abbrev yL_nullable : MethodName := ⟨"EarleyChartLaw", "nullable", "(LEarleyChart;I[J)I"⟩
abbrev bE_nullable : ByteArray := prog_1_method_15_code
abbrev yE_nullable : MethodName := ⟨"EarleyChart", "nullable", "(I)Z"⟩
abbrev bM_init : ByteArray := prog_8_method_1_code
abbrev yM_init : MethodName := ⟨"EarleyChartModel", "<init>", "(II)V"⟩
abbrev bM_thrown : ByteArray := prog_8_method_2_code
abbrev yM_thrown : MethodName := ⟨"EarleyChartModel", "thrown", "()I"⟩
abbrev bM_addProd : ByteArray := prog_8_method_8_code
abbrev yM_addProd : MethodName := ⟨"EarleyChartModel", "addProd", "(I)I"⟩
abbrev bM_isVariable : ByteArray := prog_8_method_3_code
abbrev yM_isVariable : MethodName := ⟨"EarleyChartModel", "isVariable", "(I)Z"⟩
abbrev bM_throwsBy : ByteArray := prog_8_method_5_code
abbrev yM_throwsBy : MethodName := ⟨"EarleyChartModel", "throwsBy", "(I)Z"⟩
abbrev bM_grammarChanged : ByteArray := prog_8_method_7_code
abbrev yM_grammarChanged : MethodName := ⟨"EarleyChartModel", "grammarChanged", "()V"⟩
abbrev bM_fill : ByteArray := prog_8_method_14_code
abbrev yM_fill : MethodName := ⟨"EarleyChartModel", "fill", "(I)V"⟩
abbrev bM_put : ByteArray := prog_8_method_10_code
abbrev yM_put : MethodName := ⟨"EarleyChartModel", "put", "(IIII)V"⟩
abbrev bM_behind : ByteArray := prog_8_method_12_code
abbrev yM_behind : MethodName := ⟨"EarleyChartModel", "behind", "(II)I"⟩
abbrev bM_isIn : ByteArray := prog_8_method_11_code
abbrev yM_isIn : MethodName := ⟨"EarleyChartModel", "isIn", "(IIII)Z"⟩
abbrev bM_bring : ByteArray := prog_8_method_13_code
abbrev yM_bring : MethodName := ⟨"EarleyChartModel", "bring", "(IIII)V"⟩
abbrev bM_addRhs : ByteArray := prog_8_method_9_code
abbrev yM_addRhs : MethodName := ⟨"EarleyChartModel", "addRhs", "(I)I"⟩
abbrev bM_allLengths : ByteArray := prog_8_method_6_code
abbrev yM_allLengths : MethodName := ⟨"EarleyChartModel", "allLengths", "()I"⟩
abbrev bM_isToken : ByteArray := prog_8_method_4_code
abbrev yM_isToken : MethodName := ⟨"EarleyChartModel", "isToken", "(I)Z"⟩
abbrev bM_feed : ByteArray := prog_8_method_16_code
abbrev yM_feed : MethodName := ⟨"EarleyChartModel", "feed", "(I)I"⟩
abbrev bM_sizeOf : ByteArray := prog_8_method_15_code
abbrev yM_sizeOf : MethodName := ⟨"EarleyChartModel", "sizeOf", "(I)I"⟩
abbrev bM_alive : ByteArray := prog_8_method_17_code
abbrev yM_alive : MethodName := ⟨"EarleyChartModel", "alive", "()Z"⟩
abbrev bM_accepts : ByteArray := prog_8_method_19_code
abbrev yM_accepts : MethodName := ⟨"EarleyChartModel", "accepts", "()Z"⟩
abbrev bM_isAccepted : ByteArray := prog_8_method_18_code
abbrev yM_isAccepted : MethodName := ⟨"EarleyChartModel", "isAccepted", "()Z"⟩
abbrev bM_steps : ByteArray := prog_8_method_23_code
abbrev yM_steps : MethodName := ⟨"EarleyChartModel", "steps", "(III)I"⟩
abbrev bM_work : ByteArray := prog_8_method_22_code
abbrev yM_work : MethodName := ⟨"EarleyChartModel", "work", "()V"⟩
abbrev bM_row : ByteArray := prog_8_method_21_code
abbrev yM_row : MethodName := ⟨"EarleyChartModel", "row", "(II)V"⟩
abbrev bM_stepsOf : ByteArray := prog_8_method_20_code
abbrev yM_stepsOf : MethodName := ⟨"EarleyChartModel", "stepsOf", "(III)I"⟩
abbrev bM_nullable : ByteArray := prog_8_method_24_code
abbrev yM_nullable : MethodName := ⟨"EarleyChartModel", "nullable", "(I)Z"⟩
abbrev bM_extract : ByteArray := prog_8_method_26_code
abbrev yM_extract : MethodName := ⟨"EarleyChartModel", "extract", "()I"⟩
abbrev bM_choose : ByteArray := prog_8_method_25_code
abbrev yM_choose : MethodName := ⟨"EarleyChartModel", "choose", "(III)I"⟩
abbrev bM_witCount : ByteArray := prog_8_method_27_code
abbrev yM_witCount : MethodName := ⟨"EarleyChartModel", "witCount", "()I"⟩
abbrev bM_wit : ByteArray := prog_8_method_28_code
abbrev yM_wit : MethodName := ⟨"EarleyChartModel", "wit", "(I)I"⟩
abbrev bM_clear : ByteArray := prog_8_method_29_code
abbrev yM_clear : MethodName := ⟨"EarleyChartModel", "clear", "()I"⟩
abbrev bM_erase : ByteArray := prog_8_method_30_code
abbrev yM_erase : MethodName := ⟨"EarleyChartModel", "erase", "()I"⟩
abbrev bM_items : ByteArray := prog_8_method_31_code
abbrev yM_items : MethodName := ⟨"EarleyChartModel", "items", "(I)I"⟩
abbrev bM_item : ByteArray := prog_8_method_32_code
abbrev yM_item : MethodName := ⟨"EarleyChartModel", "item", "(II)I"⟩
abbrev bM_fed : ByteArray := prog_8_method_33_code
abbrev yM_fed : MethodName := ⟨"EarleyChartModel", "fed", "()I"⟩
abbrev bL_law : ByteArray := code
abbrev yL_law : MethodName := ⟨"EarleyChartLaw", "law", "([I)Z"⟩
end
section
theorem tw_0 : (.initialized "EarleyChartLaw" : Cond) ∈ tbG := tbG_of (List.mem_of_getElem? (i := 0) (by decide +kernel)) (by decide +kernel)
theorem tw_1 : (.initialized "EarleyChart" : Cond) ∈ tbG := tbG_of (List.mem_of_getElem? (i := 1) (by decide +kernel)) (by decide +kernel)
theorem tw_2 : (.initialized "EarleyChart$Grammar" : Cond) ∈ tbG := tbG_of (List.mem_of_getElem? (i := 2) (by decide +kernel)) (by decide +kernel)
theorem tw_3 : (.initialized "EarleyChart$Input" : Cond) ∈ tbG := tbG_of (List.mem_of_getElem? (i := 3) (by decide +kernel)) (by decide +kernel)
theorem tw_4 : (.initialized "EarleyChart$StepTable" : Cond) ∈ tbG := tbG_of (List.mem_of_getElem? (i := 4) (by decide +kernel)) (by decide +kernel)
theorem tw_5 : (.initialized "EarleyChart$ItemSets" : Cond) ∈ tbG := tbG_of (List.mem_of_getElem? (i := 5) (by decide +kernel)) (by decide +kernel)
theorem tw_6 : (.initialized "EarleyChart$Witness" : Cond) ∈ tbG := tbG_of (List.mem_of_getElem? (i := 6) (by decide +kernel)) (by decide +kernel)
theorem tw_7 : (.initialized "java/util/Arrays" : Cond) ∈ tbG := tbG_of (List.mem_of_getElem? (i := 7) (by decide +kernel)) (by decide +kernel)
theorem tw_8 : (.initialized "java/lang/Integer" : Cond) ∈ tbG := tbG_of (List.mem_of_getElem? (i := 8) (by decide +kernel)) (by decide +kernel)
theorem tw_9 : (.initialized "EarleyChartModel" : Cond) ∈ tbG := tbG_of (List.mem_of_getElem? (i := 9) (by decide +kernel)) (by decide +kernel)
theorem tw_10 : (.initialized "java/lang/Throwable" : Cond) ∈ tbG := tbG_of (List.mem_of_getElem? (i := 10) (by decide +kernel)) (by decide +kernel)
theorem tw_11 : (.initialized "java/lang/Exception" : Cond) ∈ tbG := tbG_of (List.mem_of_getElem? (i := 11) (by decide +kernel)) (by decide +kernel)
theorem tw_12 : (.initialized "java/lang/RuntimeException" : Cond) ∈ tbG := tbG_of (List.mem_of_getElem? (i := 12) (by decide +kernel)) (by decide +kernel)
theorem tw_13 : (.initialized "java/lang/IllegalStateException" : Cond) ∈ tbG := tbG_of (List.mem_of_getElem? (i := 13) (by decide +kernel)) (by decide +kernel)
theorem tw_14 : (.initialized "java/lang/IllegalArgumentException" : Cond) ∈ tbG := tbG_of (List.mem_of_getElem? (i := 14) (by decide +kernel)) (by decide +kernel)
theorem tw_15 : (.initialized "java/util/NoSuchElementException" : Cond) ∈ tbG := tbG_of (List.mem_of_getElem? (i := 15) (by decide +kernel)) (by decide +kernel)
theorem tw_16 : (.initialized "java/lang/IndexOutOfBoundsException" : Cond) ∈ tbG := tbG_of (List.mem_of_getElem? (i := 16) (by decide +kernel)) (by decide +kernel)
theorem tw_17 : (.classLink "EarleyChartLaw" 8 "EarleyChart" : Cond) ∈ tbG := tbG_of (List.mem_of_getElem? (i := 17) (by decide +kernel)) (by decide +kernel)
theorem tw_18 : (.instantiable "EarleyChart" 7 : Cond) ∈ tbG := tbG_of (List.mem_of_getElem? (i := 18) (by decide +kernel)) (by decide +kernel)
theorem tw_19 : (.methodLink "EarleyChartLaw" 55 ⟨"EarleyChart", "<init>", "(II)V"⟩ : Cond) ∈ tbG := tbG_of (List.mem_of_getElem? (i := 19) (by decide +kernel)) (by decide +kernel)
theorem tw_20 : (.instanceMethod ⟨"EarleyChart", "<init>", "(II)V"⟩ : Cond) ∈ tbG := tbG_of (List.mem_of_getElem? (i := 20) (by decide +kernel)) (by decide +kernel)
theorem tw_21 : (.code ⟨"EarleyChart", "<init>", "(II)V"⟩ prog_1_method_1_code 6 none : Cond) ∈ tbG := tbG_of (List.mem_of_getElem? (i := 21) (by decide +kernel)) (by decide +kernel)
theorem tw_22 : (.methodLink "EarleyChart" 3 ⟨"java/lang/Object", "<init>", "()V"⟩ : Cond) ∈ tbG := tbG_of (List.mem_of_getElem? (i := 22) (by decide +kernel)) (by decide +kernel)
theorem tw_23 : (.instanceMethod ⟨"java/lang/Object", "<init>", "()V"⟩ : Cond) ∈ tbG := tbG_of (List.mem_of_getElem? (i := 23) (by decide +kernel)) (by decide +kernel)
theorem tw_24 : (.code ⟨"java/lang/Object", "<init>", "()V"⟩ object_method_1_code 1 none : Cond) ∈ tbG := tbG_of (List.mem_of_getElem? (i := 24) (by decide +kernel)) (by decide +kernel)
theorem tw_25 : (.classLink "EarleyChart" 16 "EarleyChart$Grammar" : Cond) ∈ tbG := tbG_of (List.mem_of_getElem? (i := 25) (by decide +kernel)) (by decide +kernel)
theorem tw_26 : (.instantiable "EarleyChart$Grammar" 6 : Cond) ∈ tbG := tbG_of (List.mem_of_getElem? (i := 26) (by decide +kernel)) (by decide +kernel)
theorem tw_28 : (.instanceMethod ⟨"EarleyChart$Grammar", "<init>", "()V"⟩ : Cond) ∈ tbG := tbG_of (List.mem_of_getElem? (i := 28) (by decide +kernel)) (by decide +kernel)
theorem tw_29 : (.code ⟨"EarleyChart$Grammar", "<init>", "()V"⟩ prog_2_method_1_code 1 none : Cond) ∈ tbG := tbG_of (List.mem_of_getElem? (i := 29) (by decide +kernel)) (by decide +kernel)
theorem tw_30 : (.methodLink "EarleyChart$Grammar" 3 ⟨"java/lang/Object", "<init>", "()V"⟩ : Cond) ∈ tbG := tbG_of (List.mem_of_getElem? (i := 30) (by decide +kernel)) (by decide +kernel)
theorem tw_31 : (.fieldLink "EarleyChart$Grammar" 9 "EarleyChart$Grammar" "leftSide" "[I" : Cond) ∈ tbG := tbG_of (List.mem_of_getElem? (i := 31) (by decide +kernel)) (by decide +kernel)
theorem tw_32 : (.fieldLink "EarleyChart$Witness" 74 "EarleyChart$Grammar" "leftSide" "[I" : Cond) ∈ tbG := tbG_of (List.mem_of_getElem? (i := 32) (by decide +kernel)) (by decide +kernel)
theorem tw_33 : (.fieldLink "EarleyChart$ItemSets" 89 "EarleyChart$Grammar" "leftSide" "[I" : Cond) ∈ tbG := tbG_of (List.mem_of_getElem? (i := 33) (by decide +kernel)) (by decide +kernel)
theorem tw_34 : (.fieldLink "EarleyChart$Grammar" 15 "EarleyChart$Grammar" "firstSlot" "[I" : Cond) ∈ tbG := tbG_of (List.mem_of_getElem? (i := 34) (by decide +kernel)) (by decide +kernel)
theorem tw_35 : (.fieldLink "EarleyChart$Witness" 51 "EarleyChart$Grammar" "firstSlot" "[I" : Cond) ∈ tbG := tbG_of (List.mem_of_getElem? (i := 35) (by decide +kernel)) (by decide +kernel)
theorem tw_36 : (.fieldLink "EarleyChart$ItemSets" 92 "EarleyChart$Grammar" "firstSlot" "[I" : Cond) ∈ tbG := tbG_of (List.mem_of_getElem? (i := 36) (by decide +kernel)) (by decide +kernel)
theorem tw_37 : (.fieldLink "EarleyChart$Grammar" 18 "EarleyChart$Grammar" "symbolBehind" "[I" : Cond) ∈ tbG := tbG_of (List.mem_of_getElem? (i := 37) (by decide +kernel)) (by decide +kernel)
theorem tw_38 : (.fieldLink "EarleyChart$ItemSets" 51 "EarleyChart$Grammar" "symbolBehind" "[I" : Cond) ∈ tbG := tbG_of (List.mem_of_getElem? (i := 38) (by decide +kernel)) (by decide +kernel)
theorem tw_39 : (.fieldLink "EarleyChart$StepTable" 41 "EarleyChart$Grammar" "symbolBehind" "[I" : Cond) ∈ tbG := tbG_of (List.mem_of_getElem? (i := 39) (by decide +kernel)) (by decide +kernel)
theorem tw_40 : (.fieldLink "EarleyChart$Witness" 56 "EarleyChart$Grammar" "symbolBehind" "[I" : Cond) ∈ tbG := tbG_of (List.mem_of_getElem? (i := 40) (by decide +kernel)) (by decide +kernel)
theorem tw_41 : (.fieldLink "EarleyChart$Grammar" 21 "EarleyChart$Grammar" "productionOf" "[I" : Cond) ∈ tbG := tbG_of (List.mem_of_getElem? (i := 41) (by decide +kernel)) (by decide +kernel)
theorem tw_42 : (.fieldLink "EarleyChart$ItemSets" 63 "EarleyChart$Grammar" "productionOf" "[I" : Cond) ∈ tbG := tbG_of (List.mem_of_getElem? (i := 42) (by decide +kernel)) (by decide +kernel)
theorem tw_43 : (.fieldLink "EarleyChart$Grammar" 24 "EarleyChart$Grammar" "productions" "I" : Cond) ∈ tbG := tbG_of (List.mem_of_getElem? (i := 43) (by decide +kernel)) (by decide +kernel)
theorem tw_44 : (.fieldLink "EarleyChart$ItemSets" 30 "EarleyChart$Grammar" "productions" "I" : Cond) ∈ tbG := tbG_of (List.mem_of_getElem? (i := 44) (by decide +kernel)) (by decide +kernel)
theorem tw_45 : (.fieldLink "EarleyChart" 63 "EarleyChart$Grammar" "productions" "I" : Cond) ∈ tbG := tbG_of (List.mem_of_getElem? (i := 45) (by decide +kernel)) (by decide +kernel)
theorem tw_46 : (.fieldLink "EarleyChart$Witness" 71 "EarleyChart$Grammar" "productions" "I" : Cond) ∈ tbG := tbG_of (List.mem_of_getElem? (i := 46) (by decide +kernel)) (by decide +kernel)
theorem tw_47 : (.fieldLink "EarleyChart$Grammar" 28 "EarleyChart$Grammar" "slots" "I" : Cond) ∈ tbG := tbG_of (List.mem_of_getElem? (i := 47) (by decide +kernel)) (by decide +kernel)
theorem tw_48 : (.fieldLink "EarleyChart$ItemSets" 48 "EarleyChart$Grammar" "slots" "I" : Cond) ∈ tbG := tbG_of (List.mem_of_getElem? (i := 48) (by decide +kernel)) (by decide +kernel)
theorem tw_49 : (.fieldLink "EarleyChart$StepTable" 51 "EarleyChart$Grammar" "slots" "I" : Cond) ∈ tbG := tbG_of (List.mem_of_getElem? (i := 49) (by decide +kernel)) (by decide +kernel)
theorem tw_63 : (.arrayClass .int : Cond) ∈ tbG := tbG_of (List.mem_of_getElem? (i := 63) (by decide +kernel)) (by decide +kernel)
theorem tw_64 : (.classLink "EarleyChart" 19 "EarleyChart$Input" : Cond) ∈ tbG := tbG_of (List.mem_of_getElem? (i := 64) (by decide +kernel)) (by decide +kernel)
theorem tw_65 : (.instantiable "EarleyChart$Input" 2 : Cond) ∈ tbG := tbG_of (List.mem_of_getElem? (i := 65) (by decide +kernel)) (by decide +kernel)
theorem tw_67 : (.instanceMethod ⟨"EarleyChart$Input", "<init>", "()V"⟩ : Cond) ∈ tbG := tbG_of (List.mem_of_getElem? (i := 67) (by decide +kernel)) (by decide +kernel)
theorem tw_68 : (.code ⟨"EarleyChart$Input", "<init>", "()V"⟩ prog_3_method_1_code 1 none : Cond) ∈ tbG := tbG_of (List.mem_of_getElem? (i := 68) (by decide +kernel)) (by decide +kernel)
theorem tw_69 : (.methodLink "EarleyChart$Input" 3 ⟨"java/lang/Object", "<init>", "()V"⟩ : Cond) ∈ tbG := tbG_of (List.mem_of_getElem? (i := 69) (by decide +kernel)) (by decide +kernel)
theorem tw_70 : (.fieldLink "EarleyChart$Input" 9 "EarleyChart$Input" "tokens" "[I" : Cond) ∈ tbG := tbG_of (List.mem_of_getElem? (i := 70) (by decide +kernel)) (by decide +kernel)
theorem tw_71 : (.fieldLink "EarleyChart$Input" 15 "EarleyChart$Input" "length" "I" : Cond) ∈ tbG := tbG_of (List.mem_of_getElem? (i := 71) (by decide +kernel)) (by decide +kernel)
theorem tw_72 : (.fieldLink "EarleyChart" 60 "EarleyChart$Input" "length" "I" : Cond) ∈ tbG := tbG_of (List.mem_of_getElem? (i := 72) (by decide +kernel)) (by decide +kernel)
theorem tw_78 : (.classLink "EarleyChart" 22 "EarleyChart$StepTable" : Cond) ∈ tbG := tbG_of (List.mem_of_getElem? (i := 78) (by decide +kernel)) (by decide +kernel)
theorem tw_79 : (.instantiable "EarleyChart$StepTable" 4 : Cond) ∈ tbG := tbG_of (List.mem_of_getElem? (i := 79) (by decide +kernel)) (by decide +kernel)
theorem tw_80 : (.methodLink "EarleyChart" 24 ⟨"EarleyChart$StepTable", "<init>", "(LEarleyChart$Grammar;LEarleyChart$Input;)V"⟩ : Cond) ∈ tbG := tbG_of (List.mem_of_getElem? (i := 80) (by decide +kernel)) (by decide +kernel)
theorem tw_81 : (.instanceMethod ⟨"EarleyChart$StepTable", "<init>", "(LEarleyChart$Grammar;LEarleyChart$Input;)V"⟩ : Cond) ∈ tbG := tbG_of (List.mem_of_getElem? (i := 81) (by decide +kernel)) (by decide +kernel)
theorem tw_82 : (.code ⟨"EarleyChart$StepTable", "<init>", "(LEarleyChart$Grammar;LEarleyChart$Input;)V"⟩ prog_5_method_1_code 3 none : Cond) ∈ tbG := tbG_of (List.mem_of_getElem? (i := 82) (by decide +kernel)) (by decide +kernel)
theorem tw_83 : (.methodLink "EarleyChart$StepTable" 3 ⟨"java/lang/Object", "<init>", "()V"⟩ : Cond) ∈ tbG := tbG_of (List.mem_of_getElem? (i := 83) (by decide +kernel)) (by decide +kernel)
theorem tw_84 : (.classLink "EarleyChart$StepTable" 9 "[[I" : Cond) ∈ tbG := tbG_of (List.mem_of_getElem? (i := 84) (by decide +kernel)) (by decide +kernel)
theorem tw_86 : (.fieldLink "EarleyChart$StepTable" 19 "EarleyChart$StepTable" "grammar" "LEarleyChart$Grammar;" : Cond) ∈ tbG := tbG_of (List.mem_of_getElem? (i := 86) (by decide +kernel)) (by decide +kernel)
theorem tw_87 : (.fieldLink "EarleyChart$StepTable" 23 "EarleyChart$StepTable" "input" "LEarleyChart$Input;" : Cond) ∈ tbG := tbG_of (List.mem_of_getElem? (i := 87) (by decide +kernel)) (by decide +kernel)
theorem tw_88 : (.fieldLink "EarleyChart$StepTable" 11 "EarleyChart$StepTable" "ofVariable" "[[I" : Cond) ∈ tbG := tbG_of (List.mem_of_getElem? (i := 88) (by decide +kernel)) (by decide +kernel)
theorem tw_89 : (.fieldLink "EarleyChart$StepTable" 16 "EarleyChart$StepTable" "ofRowBehind" "[[I" : Cond) ∈ tbG := tbG_of (List.mem_of_getElem? (i := 89) (by decide +kernel)) (by decide +kernel)
theorem tw_99 : (.classLink "EarleyChart" 35 "EarleyChart$ItemSets" : Cond) ∈ tbG := tbG_of (List.mem_of_getElem? (i := 99) (by decide +kernel)) (by decide +kernel)
theorem tw_100 : (.instantiable "EarleyChart$ItemSets" 3 : Cond) ∈ tbG := tbG_of (List.mem_of_getElem? (i := 100) (by decide +kernel)) (by decide +kernel)
theorem tw_101 : (.methodLink "EarleyChart" 37 ⟨"EarleyChart$ItemSets", "<init>", "(LEarleyChart$Grammar;)V"⟩ : Cond) ∈ tbG := tbG_of (List.mem_of_getElem? (i := 101) (by decide +kernel)) (by decide +kernel)
theorem tw_102 : (.instanceMethod ⟨"EarleyChart$ItemSets", "<init>", "(LEarleyChart$Grammar;)V"⟩ : Cond) ∈ tbG := tbG_of (List.mem_of_getElem? (i := 102) (by decide +kernel)) (by decide +kernel)
theorem tw_103 : (.code ⟨"EarleyChart$ItemSets", "<init>", "(LEarleyChart$Grammar;)V"⟩ prog_4_method_1_code 2 none : Cond) ∈ tbG := tbG_of (List.mem_of_getElem? (i := 103) (by decide +kernel)) (by decide +kernel)
theorem tw_104 : (.methodLink "EarleyChart$ItemSets" 3 ⟨"java/lang/Object", "<init>", "()V"⟩ : Cond) ∈ tbG := tbG_of (List.mem_of_getElem? (i := 104) (by decide +kernel)) (by decide +kernel)
theorem tw_105 : (.classLink "EarleyChart$ItemSets" 9 "[[I" : Cond) ∈ tbG := tbG_of (List.mem_of_getElem? (i := 105) (by decide +kernel)) (by decide +kernel)
theorem tw_106 : (.fieldLink "EarleyChart$ItemSets" 20 "EarleyChart$ItemSets" "grammar" "LEarleyChart$Grammar;" : Cond) ∈ tbG := tbG_of (List.mem_of_getElem? (i := 106) (by decide +kernel)) (by decide +kernel)
theorem tw_107 : (.fieldLink "EarleyChart$ItemSets" 11 "EarleyChart$ItemSets" "origins" "[[I" : Cond) ∈ tbG := tbG_of (List.mem_of_getElem? (i := 107) (by decide +kernel)) (by decide +kernel)
theorem tw_108 : (.fieldLink "EarleyChart$ItemSets" 16 "EarleyChart$ItemSets" "wholeOrigins" "[I" : Cond) ∈ tbG := tbG_of (List.mem_of_getElem? (i := 108) (by decide +kernel)) (by decide +kernel)
theorem tw_116 : (.classLink "EarleyChart" 48 "EarleyChart$Witness" : Cond) ∈ tbG := tbG_of (List.mem_of_getElem? (i := 116) (by decide +kernel)) (by decide +kernel)
theorem tw_117 : (.instantiable "EarleyChart$Witness" 8 : Cond) ∈ tbG := tbG_of (List.mem_of_getElem? (i := 117) (by decide +kernel)) (by decide +kernel)
theorem tw_118 : (.methodLink "EarleyChart" 50 ⟨"EarleyChart$Witness", "<init>", "(LEarleyChart$Grammar;LEarleyChart$StepTable;)V"⟩ : Cond) ∈ tbG := tbG_of (List.mem_of_getElem? (i := 118) (by decide +kernel)) (by decide +kernel)
theorem tw_119 : (.instanceMethod ⟨"EarleyChart$Witness", "<init>", "(LEarleyChart$Grammar;LEarleyChart$StepTable;)V"⟩ : Cond) ∈ tbG := tbG_of (List.mem_of_getElem? (i := 119) (by decide +kernel)) (by decide +kernel)
theorem tw_120 : (.code ⟨"EarleyChart$Witness", "<init>", "(LEarleyChart$Grammar;LEarleyChart$StepTable;)V"⟩ prog_6_method_1_code 3 none : Cond) ∈ tbG := tbG_of (List.mem_of_getElem? (i := 120) (by decide +kernel)) (by decide +kernel)
theorem tw_121 : (.methodLink "EarleyChart$Witness" 3 ⟨"java/lang/Object", "<init>", "()V"⟩ : Cond) ∈ tbG := tbG_of (List.mem_of_getElem? (i := 121) (by decide +kernel)) (by decide +kernel)
theorem tw_122 : (.fieldLink "EarleyChart$Witness" 31 "EarleyChart$Witness" "grammar" "LEarleyChart$Grammar;" : Cond) ∈ tbG := tbG_of (List.mem_of_getElem? (i := 122) (by decide +kernel)) (by decide +kernel)
theorem tw_123 : (.fieldLink "EarleyChart$Witness" 35 "EarleyChart$Witness" "table" "LEarleyChart$StepTable;" : Cond) ∈ tbG := tbG_of (List.mem_of_getElem? (i := 123) (by decide +kernel)) (by decide +kernel)
theorem tw_124 : (.fieldLink "EarleyChart$Witness" 9 "EarleyChart$Witness" "row" "[I" : Cond) ∈ tbG := tbG_of (List.mem_of_getElem? (i := 124) (by decide +kernel)) (by decide +kernel)
theorem tw_125 : (.fieldLink "EarleyChart" 147 "EarleyChart$Witness" "row" "[I" : Cond) ∈ tbG := tbG_of (List.mem_of_getElem? (i := 125) (by decide +kernel)) (by decide +kernel)
theorem tw_126 : (.fieldLink "EarleyChart$Witness" 15 "EarleyChart$Witness" "count" "I" : Cond) ∈ tbG := tbG_of (List.mem_of_getElem? (i := 126) (by decide +kernel)) (by decide +kernel)
theorem tw_127 : (.fieldLink "EarleyChart" 139 "EarleyChart$Witness" "count" "I" : Cond) ∈ tbG := tbG_of (List.mem_of_getElem? (i := 127) (by decide +kernel)) (by decide +kernel)
theorem tw_128 : (.fieldLink "EarleyChart$Witness" 19 "EarleyChart$Witness" "openSlots" "[I" : Cond) ∈ tbG := tbG_of (List.mem_of_getElem? (i := 128) (by decide +kernel)) (by decide +kernel)
theorem tw_129 : (.fieldLink "EarleyChart$Witness" 22 "EarleyChart$Witness" "froms" "[I" : Cond) ∈ tbG := tbG_of (List.mem_of_getElem? (i := 129) (by decide +kernel)) (by decide +kernel)
theorem tw_130 : (.fieldLink "EarleyChart$Witness" 25 "EarleyChart$Witness" "tos" "[I" : Cond) ∈ tbG := tbG_of (List.mem_of_getElem? (i := 130) (by decide +kernel)) (by decide +kernel)
theorem tw_131 : (.fieldLink "EarleyChart$Witness" 28 "EarleyChart$Witness" "depth" "I" : Cond) ∈ tbG := tbG_of (List.mem_of_getElem? (i := 131) (by decide +kernel)) (by decide +kernel)
theorem tw_149 : (.methodLink "EarleyChart" 57 ⟨"EarleyChart", "grammarChanged", "()V"⟩ : Cond) ∈ tbG := tbG_of (List.mem_of_getElem? (i := 149) (by decide +kernel)) (by decide +kernel)
theorem tw_151 : (.instanceMethod ⟨"EarleyChart", "grammarChanged", "()V"⟩ : Cond) ∈ tbG := tbG_of (List.mem_of_getElem? (i := 151) (by decide +kernel)) (by decide +kernel)
theorem tw_152 : (.code ⟨"EarleyChart", "grammarChanged", "()V"⟩ prog_1_method_20_code 1 none : Cond) ∈ tbG := tbG_of (List.mem_of_getElem? (i := 152) (by decide +kernel)) (by decide +kernel)
theorem tw_153 : (.methodLink "EarleyChart" 108 ⟨"EarleyChart$Witness", "forget", "()V"⟩ : Cond) ∈ tbG := tbG_of (List.mem_of_getElem? (i := 153) (by decide +kernel)) (by decide +kernel)
theorem tw_154 : (.instanceMethod ⟨"EarleyChart$Witness", "forget", "()V"⟩ : Cond) ∈ tbG := tbG_of (List.mem_of_getElem? (i := 154) (by decide +kernel)) (by decide +kernel)
theorem tw_155 : (.selects "EarleyChart$Witness" ⟨"EarleyChart$Witness", "forget", "()V"⟩ ⟨"EarleyChart$Witness", "forget", "()V"⟩ : Cond) ∈ tbG := tbG_of (List.mem_of_getElem? (i := 155) (by decide +kernel)) (by decide +kernel)
theorem tw_156 : (.code ⟨"EarleyChart$Witness", "forget", "()V"⟩ prog_6_method_2_code 1 none : Cond) ∈ tbG := tbG_of (List.mem_of_getElem? (i := 156) (by decide +kernel)) (by decide +kernel)
theorem tw_157 : (.methodLink "EarleyChart" 169 ⟨"EarleyChart$ItemSets", "makeFirst", "()V"⟩ : Cond) ∈ tbG := tbG_of (List.mem_of_getElem? (i := 157) (by decide +kernel)) (by decide +kernel)
theorem tw_158 : (.instanceMethod ⟨"EarleyChart$ItemSets", "makeFirst", "()V"⟩ : Cond) ∈ tbG := tbG_of (List.mem_of_getElem? (i := 158) (by decide +kernel)) (by decide +kernel)
theorem tw_159 : (.selects "EarleyChart$ItemSets" ⟨"EarleyChart$ItemSets", "makeFirst", "()V"⟩ ⟨"EarleyChart$ItemSets", "makeFirst", "()V"⟩ : Cond) ∈ tbG := tbG_of (List.mem_of_getElem? (i := 159) (by decide +kernel)) (by decide +kernel)
theorem tw_160 : (.code ⟨"EarleyChart$ItemSets", "makeFirst", "()V"⟩ prog_4_method_2_code 1 none : Cond) ∈ tbG := tbG_of (List.mem_of_getElem? (i := 160) (by decide +kernel)) (by decide +kernel)
theorem tw_161 : (.methodLink "EarleyChart$ItemSets" 24 ⟨"java/util/Arrays", "fill", "([II)V"⟩ : Cond) ∈ tbG := tbG_of (List.mem_of_getElem? (i := 161) (by decide +kernel)) (by decide +kernel)
theorem tw_162 : (.static ⟨"java/util/Arrays", "fill", "([II)V"⟩ : Cond) ∈ tbG := tbG_of (List.mem_of_getElem? (i := 162) (by decide +kernel)) (by decide +kernel)
theorem tw_163 : (.code ⟨"java/util/Arrays", "fill", "([II)V"⟩ prog_17_method_103_code 4 none : Cond) ∈ tbG := tbG_of (List.mem_of_getElem? (i := 163) (by decide +kernel)) (by decide +kernel)
theorem tw_164 : (.methodLink "EarleyChart$ItemSets" 36 ⟨"EarleyChart$Grammar", "start", "()I"⟩ : Cond) ∈ tbG := tbG_of (List.mem_of_getElem? (i := 164) (by decide +kernel)) (by decide +kernel)
theorem tw_165 : (.instanceMethod ⟨"EarleyChart$Grammar", "start", "()I"⟩ : Cond) ∈ tbG := tbG_of (List.mem_of_getElem? (i := 165) (by decide +kernel)) (by decide +kernel)
theorem tw_166 : (.selects "EarleyChart$Grammar" ⟨"EarleyChart$Grammar", "start", "()I"⟩ ⟨"EarleyChart$Grammar", "start", "()I"⟩ : Cond) ∈ tbG := tbG_of (List.mem_of_getElem? (i := 166) (by decide +kernel)) (by decide +kernel)
theorem tw_167 : (.code ⟨"EarleyChart$Grammar", "start", "()I"⟩ prog_2_method_2_code 1 (some .int) : Cond) ∈ tbG := tbG_of (List.mem_of_getElem? (i := 167) (by decide +kernel)) (by decide +kernel)
theorem tw_168 : (.methodLink "EarleyChart$ItemSets" 40 ⟨"EarleyChart$ItemSets", "predict", "(II)V"⟩ : Cond) ∈ tbG := tbG_of (List.mem_of_getElem? (i := 168) (by decide +kernel)) (by decide +kernel)
theorem tw_170 : (.instanceMethod ⟨"EarleyChart$ItemSets", "predict", "(II)V"⟩ : Cond) ∈ tbG := tbG_of (List.mem_of_getElem? (i := 170) (by decide +kernel)) (by decide +kernel)
theorem tw_171 : (.code ⟨"EarleyChart$ItemSets", "predict", "(II)V"⟩ prog_4_method_11_code 4 none : Cond) ∈ tbG := tbG_of (List.mem_of_getElem? (i := 171) (by decide +kernel)) (by decide +kernel)
theorem tw_172 : (.methodLink "EarleyChart$ItemSets" 44 ⟨"EarleyChart$ItemSets", "close", "(I)V"⟩ : Cond) ∈ tbG := tbG_of (List.mem_of_getElem? (i := 172) (by decide +kernel)) (by decide +kernel)
theorem tw_174 : (.instanceMethod ⟨"EarleyChart$ItemSets", "close", "(I)V"⟩ : Cond) ∈ tbG := tbG_of (List.mem_of_getElem? (i := 174) (by decide +kernel)) (by decide +kernel)
theorem tw_175 : (.code ⟨"EarleyChart$ItemSets", "close", "(I)V"⟩ prog_4_method_8_code 5 none : Cond) ∈ tbG := tbG_of (List.mem_of_getElem? (i := 175) (by decide +kernel)) (by decide +kernel)
theorem tw_176 : (.methodLink "EarleyChart$ItemSets" 73 ⟨"EarleyChart$ItemSets", "size", "(I)I"⟩ : Cond) ∈ tbG := tbG_of (List.mem_of_getElem? (i := 176) (by decide +kernel)) (by decide +kernel)
theorem tw_177 : (.instanceMethod ⟨"EarleyChart$ItemSets", "size", "(I)I"⟩ : Cond) ∈ tbG := tbG_of (List.mem_of_getElem? (i := 177) (by decide +kernel)) (by decide +kernel)
theorem tw_178 : (.selects "EarleyChart$ItemSets" ⟨"EarleyChart$ItemSets", "size", "(I)I"⟩ ⟨"EarleyChart$ItemSets", "size", "(I)I"⟩ : Cond) ∈ tbG := tbG_of (List.mem_of_getElem? (i := 178) (by decide +kernel)) (by decide +kernel)
theorem tw_179 : (.code ⟨"EarleyChart$ItemSets", "size", "(I)I"⟩ prog_4_method_4_code 4 (some .int) : Cond) ∈ tbG := tbG_of (List.mem_of_getElem? (i := 179) (by decide +kernel)) (by decide +kernel)
theorem tw_180 : (.methodLink "EarleyChart$ItemSets" 54 ⟨"java/lang/Integer", "bitCount", "(I)I"⟩ : Cond) ∈ tbG := tbG_of (List.mem_of_getElem? (i := 180) (by decide +kernel)) (by decide +kernel)
theorem tw_181 : (.static ⟨"java/lang/Integer", "bitCount", "(I)I"⟩ : Cond) ∈ tbG := tbG_of (List.mem_of_getElem? (i := 181) (by decide +kernel)) (by decide +kernel)
theorem tw_182 : (.code ⟨"java/lang/Integer", "bitCount", "(I)I"⟩ prog_13_method_49_code 1 (some .int) : Cond) ∈ tbG := tbG_of (List.mem_of_getElem? (i := 182) (by decide +kernel)) (by decide +kernel)
theorem tw_183 : (.constant "java/lang/Integer" 265 1431655765 : Cond) ∈ tbG := tbG_of (List.mem_of_getElem? (i := 183) (by decide +kernel)) (by decide +kernel)
theorem tw_184 : (.constant "java/lang/Integer" 266 858993459 : Cond) ∈ tbG := tbG_of (List.mem_of_getElem? (i := 184) (by decide +kernel)) (by decide +kernel)
theorem tw_185 : (.constant "java/lang/Integer" 267 252645135 : Cond) ∈ tbG := tbG_of (List.mem_of_getElem? (i := 185) (by decide +kernel)) (by decide +kernel)
theorem tw_186 : (.methodLink "EarleyChart$ItemSets" 76 ⟨"EarleyChart$ItemSets", "gatherWholeOrigins", "(I)V"⟩ : Cond) ∈ tbG := tbG_of (List.mem_of_getElem? (i := 186) (by decide +kernel)) (by decide +kernel)
theorem tw_188 : (.instanceMethod ⟨"EarleyChart$ItemSets", "gatherWholeOrigins", "(I)V"⟩ : Cond) ∈ tbG := tbG_of (List.mem_of_getElem? (i := 188) (by decide +kernel)) (by decide +kernel)
theorem tw_189 : (.code ⟨"EarleyChart$ItemSets", "gatherWholeOrigins", "(I)V"⟩ prog_4_method_9_code 3 none : Cond) ∈ tbG := tbG_of (List.mem_of_getElem? (i := 189) (by decide +kernel)) (by decide +kernel)
theorem tw_190 : (.methodLink "EarleyChart$ItemSets" 60 ⟨"EarleyChart$Grammar", "leftSideAt", "(I)I"⟩ : Cond) ∈ tbG := tbG_of (List.mem_of_getElem? (i := 190) (by decide +kernel)) (by decide +kernel)
theorem tw_191 : (.instanceMethod ⟨"EarleyChart$Grammar", "leftSideAt", "(I)I"⟩ : Cond) ∈ tbG := tbG_of (List.mem_of_getElem? (i := 191) (by decide +kernel)) (by decide +kernel)
theorem tw_192 : (.selects "EarleyChart$Grammar" ⟨"EarleyChart$Grammar", "leftSideAt", "(I)I"⟩ ⟨"EarleyChart$Grammar", "leftSideAt", "(I)I"⟩ : Cond) ∈ tbG := tbG_of (List.mem_of_getElem? (i := 192) (by decide +kernel)) (by decide +kernel)
theorem tw_193 : (.code ⟨"EarleyChart$Grammar", "leftSideAt", "(I)I"⟩ prog_2_method_8_code 2 (some .int) : Cond) ∈ tbG := tbG_of (List.mem_of_getElem? (i := 193) (by decide +kernel)) (by decide +kernel)
theorem tw_194 : (.methodLink "EarleyChart$ItemSets" 79 ⟨"EarleyChart$ItemSets", "grow", "(I)V"⟩ : Cond) ∈ tbG := tbG_of (List.mem_of_getElem? (i := 194) (by decide +kernel)) (by decide +kernel)
theorem tw_196 : (.instanceMethod ⟨"EarleyChart$ItemSets", "grow", "(I)V"⟩ : Cond) ∈ tbG := tbG_of (List.mem_of_getElem? (i := 196) (by decide +kernel)) (by decide +kernel)
theorem tw_197 : (.code ⟨"EarleyChart$ItemSets", "grow", "(I)V"⟩ prog_4_method_10_code 4 none : Cond) ∈ tbG := tbG_of (List.mem_of_getElem? (i := 197) (by decide +kernel)) (by decide +kernel)
theorem tw_199 : (.static ⟨"EarleyChart", "isVariable", "(I)Z"⟩ : Cond) ∈ tbG := tbG_of (List.mem_of_getElem? (i := 199) (by decide +kernel)) (by decide +kernel)
theorem tw_200 : (.code ⟨"EarleyChart", "isVariable", "(I)Z"⟩ prog_1_method_21_code 1 (some .boolean) : Cond) ∈ tbG := tbG_of (List.mem_of_getElem? (i := 200) (by decide +kernel)) (by decide +kernel)
theorem tw_201 : (.methodLink "EarleyChart$ItemSets" 86 ⟨"EarleyChart$ItemSets", "originsIn", "(II)I"⟩ : Cond) ∈ tbG := tbG_of (List.mem_of_getElem? (i := 201) (by decide +kernel)) (by decide +kernel)
theorem tw_203 : (.instanceMethod ⟨"EarleyChart$ItemSets", "originsIn", "(II)I"⟩ : Cond) ∈ tbG := tbG_of (List.mem_of_getElem? (i := 203) (by decide +kernel)) (by decide +kernel)
theorem tw_204 : (.code ⟨"EarleyChart$ItemSets", "originsIn", "(II)I"⟩ prog_4_method_12_code 5 (some .int) : Cond) ∈ tbG := tbG_of (List.mem_of_getElem? (i := 204) (by decide +kernel)) (by decide +kernel)
theorem tw_205 : (.methodLink "EarleyChart" 118 ⟨"EarleyChart$StepTable", "fillUpTo", "(I)V"⟩ : Cond) ∈ tbG := tbG_of (List.mem_of_getElem? (i := 205) (by decide +kernel)) (by decide +kernel)
theorem tw_206 : (.instanceMethod ⟨"EarleyChart$StepTable", "fillUpTo", "(I)V"⟩ : Cond) ∈ tbG := tbG_of (List.mem_of_getElem? (i := 206) (by decide +kernel)) (by decide +kernel)
theorem tw_207 : (.selects "EarleyChart$StepTable" ⟨"EarleyChart$StepTable", "fillUpTo", "(I)V"⟩ ⟨"EarleyChart$StepTable", "fillUpTo", "(I)V"⟩ : Cond) ∈ tbG := tbG_of (List.mem_of_getElem? (i := 207) (by decide +kernel)) (by decide +kernel)
theorem tw_208 : (.code ⟨"EarleyChart$StepTable", "fillUpTo", "(I)V"⟩ prog_5_method_5_code 3 none : Cond) ∈ tbG := tbG_of (List.mem_of_getElem? (i := 208) (by decide +kernel)) (by decide +kernel)
theorem tw_209 : (.methodLink "EarleyChart$StepTable" 58 ⟨"EarleyChart$StepTable", "fillStretch", "(II)V"⟩ : Cond) ∈ tbG := tbG_of (List.mem_of_getElem? (i := 209) (by decide +kernel)) (by decide +kernel)
theorem tw_211 : (.instanceMethod ⟨"EarleyChart$StepTable", "fillStretch", "(II)V"⟩ : Cond) ∈ tbG := tbG_of (List.mem_of_getElem? (i := 211) (by decide +kernel)) (by decide +kernel)
theorem tw_212 : (.code ⟨"EarleyChart$StepTable", "fillStretch", "(II)V"⟩ prog_5_method_7_code 5 none : Cond) ∈ tbG := tbG_of (List.mem_of_getElem? (i := 212) (by decide +kernel)) (by decide +kernel)
theorem tw_213 : (.methodLink "EarleyChart$StepTable" 31 ⟨"EarleyChart$StepTable", "stretch", "(II)I"⟩ : Cond) ∈ tbG := tbG_of (List.mem_of_getElem? (i := 213) (by decide +kernel)) (by decide +kernel)
theorem tw_214 : (.static ⟨"EarleyChart$StepTable", "stretch", "(II)I"⟩ : Cond) ∈ tbG := tbG_of (List.mem_of_getElem? (i := 214) (by decide +kernel)) (by decide +kernel)
theorem tw_215 : (.code ⟨"EarleyChart$StepTable", "stretch", "(II)I"⟩ prog_5_method_6_code 2 (some .int) : Cond) ∈ tbG := tbG_of (List.mem_of_getElem? (i := 215) (by decide +kernel)) (by decide +kernel)
theorem tw_216 : (.methodLink "EarleyChart$StepTable" 62 ⟨"EarleyChart$StepTable", "lower", "(II)Z"⟩ : Cond) ∈ tbG := tbG_of (List.mem_of_getElem? (i := 216) (by decide +kernel)) (by decide +kernel)
theorem tw_218 : (.instanceMethod ⟨"EarleyChart$StepTable", "lower", "(II)Z"⟩ : Cond) ∈ tbG := tbG_of (List.mem_of_getElem? (i := 218) (by decide +kernel)) (by decide +kernel)
theorem tw_219 : (.code ⟨"EarleyChart$StepTable", "lower", "(II)Z"⟩ prog_5_method_8_code 7 (some .boolean) : Cond) ∈ tbG := tbG_of (List.mem_of_getElem? (i := 219) (by decide +kernel)) (by decide +kernel)
theorem tw_220 : (.methodLink "EarleyChart$StepTable" 66 ⟨"EarleyChart$StepTable", "leastOfRow", "(III)I"⟩ : Cond) ∈ tbG := tbG_of (List.mem_of_getElem? (i := 220) (by decide +kernel)) (by decide +kernel)
theorem tw_222 : (.instanceMethod ⟨"EarleyChart$StepTable", "leastOfRow", "(III)I"⟩ : Cond) ∈ tbG := tbG_of (List.mem_of_getElem? (i := 222) (by decide +kernel)) (by decide +kernel)
theorem tw_223 : (.code ⟨"EarleyChart$StepTable", "leastOfRow", "(III)I"⟩ prog_5_method_9_code 7 (some .int) : Cond) ∈ tbG := tbG_of (List.mem_of_getElem? (i := 223) (by decide +kernel)) (by decide +kernel)
theorem tw_224 : (.methodLink "EarleyChart$StepTable" 79 ⟨"EarleyChart$StepTable", "ofSplitRow", "(IIII)I"⟩ : Cond) ∈ tbG := tbG_of (List.mem_of_getElem? (i := 224) (by decide +kernel)) (by decide +kernel)
theorem tw_225 : (.instanceMethod ⟨"EarleyChart$StepTable", "ofSplitRow", "(IIII)I"⟩ : Cond) ∈ tbG := tbG_of (List.mem_of_getElem? (i := 225) (by decide +kernel)) (by decide +kernel)
theorem tw_226 : (.selects "EarleyChart$StepTable" ⟨"EarleyChart$StepTable", "ofSplitRow", "(IIII)I"⟩ ⟨"EarleyChart$StepTable", "ofSplitRow", "(IIII)I"⟩ : Cond) ∈ tbG := tbG_of (List.mem_of_getElem? (i := 226) (by decide +kernel)) (by decide +kernel)
theorem tw_227 : (.code ⟨"EarleyChart$StepTable", "ofSplitRow", "(IIII)I"⟩ prog_5_method_4_code 7 (some .int) : Cond) ∈ tbG := tbG_of (List.mem_of_getElem? (i := 227) (by decide +kernel)) (by decide +kernel)
theorem tw_228 : (.methodLink "EarleyChart$StepTable" 47 ⟨"EarleyChart$StepTable", "ofSymbol", "(III)I"⟩ : Cond) ∈ tbG := tbG_of (List.mem_of_getElem? (i := 228) (by decide +kernel)) (by decide +kernel)
theorem tw_229 : (.instanceMethod ⟨"EarleyChart$StepTable", "ofSymbol", "(III)I"⟩ : Cond) ∈ tbG := tbG_of (List.mem_of_getElem? (i := 229) (by decide +kernel)) (by decide +kernel)
theorem tw_230 : (.selects "EarleyChart$StepTable" ⟨"EarleyChart$StepTable", "ofSymbol", "(III)I"⟩ ⟨"EarleyChart$StepTable", "ofSymbol", "(III)I"⟩ : Cond) ∈ tbG := tbG_of (List.mem_of_getElem? (i := 230) (by decide +kernel)) (by decide +kernel)
theorem tw_231 : (.code ⟨"EarleyChart$StepTable", "ofSymbol", "(III)I"⟩ prog_5_method_2_code 4 (some .int) : Cond) ∈ tbG := tbG_of (List.mem_of_getElem? (i := 231) (by decide +kernel)) (by decide +kernel)
theorem tw_233 : (.methodLink "EarleyChart$StepTable" 35 ⟨"EarleyChart$Input", "isJust", "(III)Z"⟩ : Cond) ∈ tbG := tbG_of (List.mem_of_getElem? (i := 233) (by decide +kernel)) (by decide +kernel)
theorem tw_234 : (.instanceMethod ⟨"EarleyChart$Input", "isJust", "(III)Z"⟩ : Cond) ∈ tbG := tbG_of (List.mem_of_getElem? (i := 234) (by decide +kernel)) (by decide +kernel)
theorem tw_235 : (.selects "EarleyChart$Input" ⟨"EarleyChart$Input", "isJust", "(III)Z"⟩ ⟨"EarleyChart$Input", "isJust", "(III)Z"⟩ : Cond) ∈ tbG := tbG_of (List.mem_of_getElem? (i := 235) (by decide +kernel)) (by decide +kernel)
theorem tw_236 : (.code ⟨"EarleyChart$Input", "isJust", "(III)Z"⟩ prog_3_method_3_code 4 (some .boolean) : Cond) ∈ tbG := tbG_of (List.mem_of_getElem? (i := 236) (by decide +kernel)) (by decide +kernel)
theorem tw_237 : (.methodLink "EarleyChart$StepTable" 55 ⟨"EarleyChart$StepTable", "ofRow", "(III)I"⟩ : Cond) ∈ tbG := tbG_of (List.mem_of_getElem? (i := 237) (by decide +kernel)) (by decide +kernel)
theorem tw_238 : (.instanceMethod ⟨"EarleyChart$StepTable", "ofRow", "(III)I"⟩ : Cond) ∈ tbG := tbG_of (List.mem_of_getElem? (i := 238) (by decide +kernel)) (by decide +kernel)
theorem tw_239 : (.selects "EarleyChart$StepTable" ⟨"EarleyChart$StepTable", "ofRow", "(III)I"⟩ ⟨"EarleyChart$StepTable", "ofRow", "(III)I"⟩ : Cond) ∈ tbG := tbG_of (List.mem_of_getElem? (i := 239) (by decide +kernel)) (by decide +kernel)
theorem tw_240 : (.code ⟨"EarleyChart$StepTable", "ofRow", "(III)I"⟩ prog_5_method_3_code 4 (some .int) : Cond) ∈ tbG := tbG_of (List.mem_of_getElem? (i := 240) (by decide +kernel)) (by decide +kernel)
theorem tw_241 : (.methodLink "EarleyChart$StepTable" 76 ⟨"EarleyChart$StepTable", "isFewer", "(II)Z"⟩ : Cond) ∈ tbG := tbG_of (List.mem_of_getElem? (i := 241) (by decide +kernel)) (by decide +kernel)
theorem tw_242 : (.static ⟨"EarleyChart$StepTable", "isFewer", "(II)Z"⟩ : Cond) ∈ tbG := tbG_of (List.mem_of_getElem? (i := 242) (by decide +kernel)) (by decide +kernel)
theorem tw_243 : (.code ⟨"EarleyChart$StepTable", "isFewer", "(II)Z"⟩ prog_5_method_10_code 2 (some .boolean) : Cond) ∈ tbG := tbG_of (List.mem_of_getElem? (i := 243) (by decide +kernel)) (by decide +kernel)
theorem tw_244 : (.methodLink "EarleyChart$StepTable" 69 ⟨"EarleyChart$Grammar", "dotAt", "(I)I"⟩ : Cond) ∈ tbG := tbG_of (List.mem_of_getElem? (i := 244) (by decide +kernel)) (by decide +kernel)
theorem tw_245 : (.instanceMethod ⟨"EarleyChart$Grammar", "dotAt", "(I)I"⟩ : Cond) ∈ tbG := tbG_of (List.mem_of_getElem? (i := 245) (by decide +kernel)) (by decide +kernel)
theorem tw_246 : (.selects "EarleyChart$Grammar" ⟨"EarleyChart$Grammar", "dotAt", "(I)I"⟩ ⟨"EarleyChart$Grammar", "dotAt", "(I)I"⟩ : Cond) ∈ tbG := tbG_of (List.mem_of_getElem? (i := 246) (by decide +kernel)) (by decide +kernel)
theorem tw_247 : (.code ⟨"EarleyChart$Grammar", "dotAt", "(I)I"⟩ prog_2_method_9_code 2 (some .int) : Cond) ∈ tbG := tbG_of (List.mem_of_getElem? (i := 247) (by decide +kernel)) (by decide +kernel)
theorem tw_248 : (.methodLink "EarleyChart$StepTable" 73 ⟨"EarleyChart$Grammar", "leftSideAt", "(I)I"⟩ : Cond) ∈ tbG := tbG_of (List.mem_of_getElem? (i := 248) (by decide +kernel)) (by decide +kernel)
theorem tw_249 : (.fieldLink "EarleyChart" 9 "EarleyChart" "variableCount" "I" : Cond) ∈ tbG := tbG_of (List.mem_of_getElem? (i := 249) (by decide +kernel)) (by decide +kernel)
theorem tw_250 : (.fieldLink "EarleyChart" 13 "EarleyChart" "tokenCount" "I" : Cond) ∈ tbG := tbG_of (List.mem_of_getElem? (i := 250) (by decide +kernel)) (by decide +kernel)
theorem tw_251 : (.fieldLink "EarleyChart" 27 "EarleyChart" "grammar" "LEarleyChart$Grammar;" : Cond) ∈ tbG := tbG_of (List.mem_of_getElem? (i := 251) (by decide +kernel)) (by decide +kernel)
theorem tw_252 : (.fieldLink "EarleyChart" 31 "EarleyChart" "input" "LEarleyChart$Input;" : Cond) ∈ tbG := tbG_of (List.mem_of_getElem? (i := 252) (by decide +kernel)) (by decide +kernel)
theorem tw_253 : (.fieldLink "EarleyChart" 40 "EarleyChart" "sets" "LEarleyChart$ItemSets;" : Cond) ∈ tbG := tbG_of (List.mem_of_getElem? (i := 253) (by decide +kernel)) (by decide +kernel)
theorem tw_254 : (.fieldLink "EarleyChart" 44 "EarleyChart" "table" "LEarleyChart$StepTable;" : Cond) ∈ tbG := tbG_of (List.mem_of_getElem? (i := 254) (by decide +kernel)) (by decide +kernel)
theorem tw_255 : (.fieldLink "EarleyChart" 53 "EarleyChart" "witness" "LEarleyChart$Witness;" : Cond) ∈ tbG := tbG_of (List.mem_of_getElem? (i := 255) (by decide +kernel)) (by decide +kernel)
theorem tw_271 : (.methodLink "EarleyChartLaw" 74 ⟨"EarleyChart", "alive", "()Z"⟩ : Cond) ∈ tbG := tbG_of (List.mem_of_getElem? (i := 271) (by decide +kernel)) (by decide +kernel)
theorem tw_272 : (.instanceMethod ⟨"EarleyChart", "alive", "()Z"⟩ : Cond) ∈ tbG := tbG_of (List.mem_of_getElem? (i := 272) (by decide +kernel)) (by decide +kernel)
theorem tw_273 : (.selects "EarleyChart" ⟨"EarleyChart", "alive", "()Z"⟩ ⟨"EarleyChart", "alive", "()Z"⟩ : Cond) ∈ tbG := tbG_of (List.mem_of_getElem? (i := 273) (by decide +kernel)) (by decide +kernel)
theorem tw_274 : (.code ⟨"EarleyChart", "alive", "()Z"⟩ prog_1_method_5_code 1 (some .boolean) : Cond) ∈ tbG := tbG_of (List.mem_of_getElem? (i := 274) (by decide +kernel)) (by decide +kernel)
theorem tw_275 : (.methodLink "EarleyChart" 121 ⟨"EarleyChart$ItemSets", "size", "(I)I"⟩ : Cond) ∈ tbG := tbG_of (List.mem_of_getElem? (i := 275) (by decide +kernel)) (by decide +kernel)
theorem tw_276 : (.methodLink "EarleyChartLaw" 79 ⟨"EarleyChart", "accepts", "()Z"⟩ : Cond) ∈ tbG := tbG_of (List.mem_of_getElem? (i := 276) (by decide +kernel)) (by decide +kernel)
theorem tw_277 : (.instanceMethod ⟨"EarleyChart", "accepts", "()Z"⟩ : Cond) ∈ tbG := tbG_of (List.mem_of_getElem? (i := 277) (by decide +kernel)) (by decide +kernel)
theorem tw_278 : (.selects "EarleyChart" ⟨"EarleyChart", "accepts", "()Z"⟩ ⟨"EarleyChart", "accepts", "()Z"⟩ : Cond) ∈ tbG := tbG_of (List.mem_of_getElem? (i := 278) (by decide +kernel)) (by decide +kernel)
theorem tw_279 : (.code ⟨"EarleyChart", "accepts", "()Z"⟩ prog_1_method_6_code 1 (some .boolean) : Cond) ∈ tbG := tbG_of (List.mem_of_getElem? (i := 279) (by decide +kernel)) (by decide +kernel)
theorem tw_280 : (.methodLink "EarleyChart" 125 ⟨"EarleyChart$ItemSets", "holdWholeStart", "(I)Z"⟩ : Cond) ∈ tbG := tbG_of (List.mem_of_getElem? (i := 280) (by decide +kernel)) (by decide +kernel)
theorem tw_281 : (.instanceMethod ⟨"EarleyChart$ItemSets", "holdWholeStart", "(I)Z"⟩ : Cond) ∈ tbG := tbG_of (List.mem_of_getElem? (i := 281) (by decide +kernel)) (by decide +kernel)
theorem tw_282 : (.selects "EarleyChart$ItemSets" ⟨"EarleyChart$ItemSets", "holdWholeStart", "(I)Z"⟩ ⟨"EarleyChart$ItemSets", "holdWholeStart", "(I)Z"⟩ : Cond) ∈ tbG := tbG_of (List.mem_of_getElem? (i := 282) (by decide +kernel)) (by decide +kernel)
theorem tw_283 : (.code ⟨"EarleyChart$ItemSets", "holdWholeStart", "(I)Z"⟩ prog_4_method_5_code 3 (some .boolean) : Cond) ∈ tbG := tbG_of (List.mem_of_getElem? (i := 283) (by decide +kernel)) (by decide +kernel)
theorem tw_284 : (.methodLink "EarleyChartLaw" 87 ⟨"EarleyChart", "witCount", "()I"⟩ : Cond) ∈ tbG := tbG_of (List.mem_of_getElem? (i := 284) (by decide +kernel)) (by decide +kernel)
theorem tw_285 : (.instanceMethod ⟨"EarleyChart", "witCount", "()I"⟩ : Cond) ∈ tbG := tbG_of (List.mem_of_getElem? (i := 285) (by decide +kernel)) (by decide +kernel)
theorem tw_286 : (.selects "EarleyChart" ⟨"EarleyChart", "witCount", "()I"⟩ ⟨"EarleyChart", "witCount", "()I"⟩ : Cond) ∈ tbG := tbG_of (List.mem_of_getElem? (i := 286) (by decide +kernel)) (by decide +kernel)
theorem tw_287 : (.code ⟨"EarleyChart", "witCount", "()I"⟩ prog_1_method_8_code 1 (some .int) : Cond) ∈ tbG := tbG_of (List.mem_of_getElem? (i := 287) (by decide +kernel)) (by decide +kernel)
theorem tw_288 : (.methodLink "EarleyChartLaw" 94 ⟨"EarleyChart", "clear", "()I"⟩ : Cond) ∈ tbG := tbG_of (List.mem_of_getElem? (i := 288) (by decide +kernel)) (by decide +kernel)
theorem tw_289 : (.instanceMethod ⟨"EarleyChart", "clear", "()I"⟩ : Cond) ∈ tbG := tbG_of (List.mem_of_getElem? (i := 289) (by decide +kernel)) (by decide +kernel)
theorem tw_290 : (.selects "EarleyChart" ⟨"EarleyChart", "clear", "()I"⟩ ⟨"EarleyChart", "clear", "()I"⟩ : Cond) ∈ tbG := tbG_of (List.mem_of_getElem? (i := 290) (by decide +kernel)) (by decide +kernel)
theorem tw_291 : (.code ⟨"EarleyChart", "clear", "()I"⟩ prog_1_method_10_code 2 (some .int) : Cond) ∈ tbG := tbG_of (List.mem_of_getElem? (i := 291) (by decide +kernel)) (by decide +kernel)
theorem tw_292 : (.methodLink "EarleyChartLaw" 98 ⟨"EarleyChart", "erase", "()I"⟩ : Cond) ∈ tbG := tbG_of (List.mem_of_getElem? (i := 292) (by decide +kernel)) (by decide +kernel)
theorem tw_293 : (.instanceMethod ⟨"EarleyChart", "erase", "()I"⟩ : Cond) ∈ tbG := tbG_of (List.mem_of_getElem? (i := 293) (by decide +kernel)) (by decide +kernel)
theorem tw_294 : (.selects "EarleyChart" ⟨"EarleyChart", "erase", "()I"⟩ ⟨"EarleyChart", "erase", "()I"⟩ : Cond) ∈ tbG := tbG_of (List.mem_of_getElem? (i := 294) (by decide +kernel)) (by decide +kernel)
theorem tw_295 : (.code ⟨"EarleyChart", "erase", "()I"⟩ prog_1_method_11_code 2 (some .int) : Cond) ∈ tbG := tbG_of (List.mem_of_getElem? (i := 295) (by decide +kernel)) (by decide +kernel)
theorem tw_296 : (.methodLink "EarleyChart" 151 ⟨"EarleyChart$Grammar", "forget", "()V"⟩ : Cond) ∈ tbG := tbG_of (List.mem_of_getElem? (i := 296) (by decide +kernel)) (by decide +kernel)
theorem tw_297 : (.instanceMethod ⟨"EarleyChart$Grammar", "forget", "()V"⟩ : Cond) ∈ tbG := tbG_of (List.mem_of_getElem? (i := 297) (by decide +kernel)) (by decide +kernel)
theorem tw_298 : (.selects "EarleyChart$Grammar" ⟨"EarleyChart$Grammar", "forget", "()V"⟩ ⟨"EarleyChart$Grammar", "forget", "()V"⟩ : Cond) ∈ tbG := tbG_of (List.mem_of_getElem? (i := 298) (by decide +kernel)) (by decide +kernel)
theorem tw_299 : (.code ⟨"EarleyChart$Grammar", "forget", "()V"⟩ prog_2_method_10_code 1 none : Cond) ∈ tbG := tbG_of (List.mem_of_getElem? (i := 299) (by decide +kernel)) (by decide +kernel)
theorem tw_300 : (.methodLink "EarleyChartLaw" 116 ⟨"EarleyChart", "fed", "()I"⟩ : Cond) ∈ tbG := tbG_of (List.mem_of_getElem? (i := 300) (by decide +kernel)) (by decide +kernel)
theorem tw_301 : (.instanceMethod ⟨"EarleyChart", "fed", "()I"⟩ : Cond) ∈ tbG := tbG_of (List.mem_of_getElem? (i := 301) (by decide +kernel)) (by decide +kernel)
theorem tw_302 : (.selects "EarleyChart" ⟨"EarleyChart", "fed", "()I"⟩ ⟨"EarleyChart", "fed", "()I"⟩ : Cond) ∈ tbG := tbG_of (List.mem_of_getElem? (i := 302) (by decide +kernel)) (by decide +kernel)
theorem tw_303 : (.code ⟨"EarleyChart", "fed", "()I"⟩ prog_1_method_16_code 1 (some .int) : Cond) ∈ tbG := tbG_of (List.mem_of_getElem? (i := 303) (by decide +kernel)) (by decide +kernel)
theorem tw_304 : (.methodLink "EarleyChartLaw" 49 ⟨"EarleyChartLaw", "cell", "([II)I"⟩ : Cond) ∈ tbG := tbG_of (List.mem_of_getElem? (i := 304) (by decide +kernel)) (by decide +kernel)
theorem tw_305 : (.static ⟨"EarleyChartLaw", "cell", "([II)I"⟩ : Cond) ∈ tbG := tbG_of (List.mem_of_getElem? (i := 305) (by decide +kernel)) (by decide +kernel)
theorem tw_306 : (.code ⟨"EarleyChartLaw", "cell", "([II)I"⟩ method_2_code 2 (some .int) : Cond) ∈ tbG := tbG_of (List.mem_of_getElem? (i := 306) (by decide +kernel)) (by decide +kernel)
theorem tw_307 : (.methodLink "EarleyChartLaw" 61 ⟨"EarleyChartLaw", "addProd", "(LEarleyChart;I[J)I"⟩ : Cond) ∈ tbG := tbG_of (List.mem_of_getElem? (i := 307) (by decide +kernel)) (by decide +kernel)
theorem tw_308 : (.static ⟨"EarleyChartLaw", "addProd", "(LEarleyChart;I[J)I"⟩ : Cond) ∈ tbG := tbG_of (List.mem_of_getElem? (i := 308) (by decide +kernel)) (by decide +kernel)
theorem tw_310 : (.classLink "EarleyChartLaw" 13 "java/lang/IllegalStateException" : Cond) ∈ tbG := tbG_of (List.mem_of_getElem? (i := 310) (by decide +kernel)) (by decide +kernel)
theorem tw_311 : (.classLink "EarleyChartLaw" 15 "java/lang/IllegalArgumentException" : Cond) ∈ tbG := tbG_of (List.mem_of_getElem? (i := 311) (by decide +kernel)) (by decide +kernel)
theorem tw_312 : (.methodLink "EarleyChartLaw" 7 ⟨"EarleyChart", "addProd", "(I)I"⟩ : Cond) ∈ tbG := tbG_of (List.mem_of_getElem? (i := 312) (by decide +kernel)) (by decide +kernel)
theorem tw_313 : (.instanceMethod ⟨"EarleyChart", "addProd", "(I)I"⟩ : Cond) ∈ tbG := tbG_of (List.mem_of_getElem? (i := 313) (by decide +kernel)) (by decide +kernel)
theorem tw_314 : (.selects "EarleyChart" ⟨"EarleyChart", "addProd", "(I)I"⟩ ⟨"EarleyChart", "addProd", "(I)I"⟩ : Cond) ∈ tbG := tbG_of (List.mem_of_getElem? (i := 314) (by decide +kernel)) (by decide +kernel)
theorem tw_315 : (.code ⟨"EarleyChart", "addProd", "(I)I"⟩ prog_1_method_2_code 2 (some .int) : Cond) ∈ tbG := tbG_of (List.mem_of_getElem? (i := 315) (by decide +kernel)) (by decide +kernel)
theorem tw_316 : (.classLink "EarleyChart" 66 "java/lang/IllegalStateException" : Cond) ∈ tbG := tbG_of (List.mem_of_getElem? (i := 316) (by decide +kernel)) (by decide +kernel)
theorem tw_317 : (.instantiable "java/lang/IllegalStateException" 6 : Cond) ∈ tbG := tbG_of (List.mem_of_getElem? (i := 317) (by decide +kernel)) (by decide +kernel)
theorem tw_325 : (.selects "java/lang/IllegalStateException" ⟨"java/lang/Throwable", "fillInStackTrace", "(I)Ljava/lang/Throwable;"⟩ ⟨"java/lang/Throwable", "fillInStackTrace", "(I)Ljava/lang/Throwable;"⟩ : Cond) ∈ tbG := tbG_of (List.mem_of_getElem? (i := 325) (by decide +kernel)) (by decide +kernel)
theorem tw_326 : (.selects "java/lang/IllegalStateException" ⟨"java/lang/Throwable", "fillInStackTrace", "()Ljava/lang/Throwable;"⟩ ⟨"java/lang/Throwable", "fillInStackTrace", "()Ljava/lang/Throwable;"⟩ : Cond) ∈ tbG := tbG_of (List.mem_of_getElem? (i := 326) (by decide +kernel)) (by decide +kernel)
theorem tw_337 : (.fieldLink "java/lang/Throwable" 198 "java/lang/Throwable" "backtrace" "Ljava/lang/Object;" : Cond) ∈ tbG := tbG_of (List.mem_of_getElem? (i := 337) (by decide +kernel)) (by decide +kernel)
theorem tw_339 : (.instanceMethod ⟨"java/lang/Throwable", "<init>", "()V"⟩ : Cond) ∈ tbG := tbG_of (List.mem_of_getElem? (i := 339) (by decide +kernel)) (by decide +kernel)
theorem tw_340 : (.code ⟨"java/lang/Throwable", "<init>", "()V"⟩ prog_16_method_1_code 1 none : Cond) ∈ tbG := tbG_of (List.mem_of_getElem? (i := 340) (by decide +kernel)) (by decide +kernel)
theorem tw_341 : (.methodLink "java/lang/Throwable" 1 ⟨"java/lang/Object", "<init>", "()V"⟩ : Cond) ∈ tbG := tbG_of (List.mem_of_getElem? (i := 341) (by decide +kernel)) (by decide +kernel)
theorem tw_342 : (.fieldLink "java/lang/Throwable" 13 "java/lang/Throwable" "UNASSIGNED_STACK" "[Ljava/lang/StackTraceElement;" : Cond) ∈ tbG := tbG_of (List.mem_of_getElem? (i := 342) (by decide +kernel)) (by decide +kernel)
theorem tw_344 : (.fieldLink "java/lang/Throwable" 20 "java/lang/Throwable" "SUPPRESSED_SENTINEL" "Ljava/util/List;" : Cond) ∈ tbG := tbG_of (List.mem_of_getElem? (i := 344) (by decide +kernel)) (by decide +kernel)
theorem tw_346 : (.methodLink "java/lang/Throwable" 27 ⟨"java/lang/Throwable", "fillInStackTrace", "()Ljava/lang/Throwable;"⟩ : Cond) ∈ tbG := tbG_of (List.mem_of_getElem? (i := 346) (by decide +kernel)) (by decide +kernel)
theorem tw_347 : (.instanceMethod ⟨"java/lang/Throwable", "fillInStackTrace", "()Ljava/lang/Throwable;"⟩ : Cond) ∈ tbG := tbG_of (List.mem_of_getElem? (i := 347) (by decide +kernel)) (by decide +kernel)
theorem tw_349 : (.selects "java/lang/IllegalArgumentException" ⟨"java/lang/Throwable", "fillInStackTrace", "()Ljava/lang/Throwable;"⟩ ⟨"java/lang/Throwable", "fillInStackTrace", "()Ljava/lang/Throwable;"⟩ : Cond) ∈ tbG := tbG_of (List.mem_of_getElem? (i := 349) (by decide +kernel)) (by decide +kernel)
theorem tw_350 : (.selects "java/lang/IndexOutOfBoundsException" ⟨"java/lang/Throwable", "fillInStackTrace", "()Ljava/lang/Throwable;"⟩ ⟨"java/lang/Throwable", "fillInStackTrace", "()Ljava/lang/Throwable;"⟩ : Cond) ∈ tbG := tbG_of (List.mem_of_getElem? (i := 350) (by decide +kernel)) (by decide +kernel)
theorem tw_351 : (.selects "java/util/NoSuchElementException" ⟨"java/lang/Throwable", "fillInStackTrace", "()Ljava/lang/Throwable;"⟩ ⟨"java/lang/Throwable", "fillInStackTrace", "()Ljava/lang/Throwable;"⟩ : Cond) ∈ tbG := tbG_of (List.mem_of_getElem? (i := 351) (by decide +kernel)) (by decide +kernel)
theorem tw_353 : (.methodLink "java/lang/Throwable" 202 ⟨"java/lang/Throwable", "fillInStackTrace", "(I)Ljava/lang/Throwable;"⟩ : Cond) ∈ tbG := tbG_of (List.mem_of_getElem? (i := 353) (by decide +kernel)) (by decide +kernel)
theorem tw_355 : (.instanceMethod ⟨"java/lang/Throwable", "fillInStackTrace", "(I)Ljava/lang/Throwable;"⟩ : Cond) ∈ tbG := tbG_of (List.mem_of_getElem? (i := 355) (by decide +kernel)) (by decide +kernel)
theorem tw_356 : (.instantiable "java/lang/Throwable" 6 : Cond) ∈ tbG := tbG_of (List.mem_of_getElem? (i := 356) (by decide +kernel)) (by decide +kernel)
theorem tw_359 : (.methodLink "EarleyChart" 70 ⟨"java/lang/IllegalStateException", "<init>", "(Ljava/lang/String;)V"⟩ : Cond) ∈ tbG := tbG_of (List.mem_of_getElem? (i := 359) (by decide +kernel)) (by decide +kernel)
theorem tw_360 : (.instanceMethod ⟨"java/lang/IllegalStateException", "<init>", "(Ljava/lang/String;)V"⟩ : Cond) ∈ tbG := tbG_of (List.mem_of_getElem? (i := 360) (by decide +kernel)) (by decide +kernel)
theorem tw_361 : (.code ⟨"java/lang/IllegalStateException", "<init>", "(Ljava/lang/String;)V"⟩ prog_11_method_2_code 2 none : Cond) ∈ tbG := tbG_of (List.mem_of_getElem? (i := 361) (by decide +kernel)) (by decide +kernel)
theorem tw_362 : (.methodLink "java/lang/IllegalStateException" 7 ⟨"java/lang/RuntimeException", "<init>", "(Ljava/lang/String;)V"⟩ : Cond) ∈ tbG := tbG_of (List.mem_of_getElem? (i := 362) (by decide +kernel)) (by decide +kernel)
theorem tw_363 : (.instanceMethod ⟨"java/lang/RuntimeException", "<init>", "(Ljava/lang/String;)V"⟩ : Cond) ∈ tbG := tbG_of (List.mem_of_getElem? (i := 363) (by decide +kernel)) (by decide +kernel)
theorem tw_364 : (.code ⟨"java/lang/RuntimeException", "<init>", "(Ljava/lang/String;)V"⟩ prog_14_method_2_code 2 none : Cond) ∈ tbG := tbG_of (List.mem_of_getElem? (i := 364) (by decide +kernel)) (by decide +kernel)
theorem tw_365 : (.methodLink "java/lang/RuntimeException" 7 ⟨"java/lang/Exception", "<init>", "(Ljava/lang/String;)V"⟩ : Cond) ∈ tbG := tbG_of (List.mem_of_getElem? (i := 365) (by decide +kernel)) (by decide +kernel)
theorem tw_366 : (.instanceMethod ⟨"java/lang/Exception", "<init>", "(Ljava/lang/String;)V"⟩ : Cond) ∈ tbG := tbG_of (List.mem_of_getElem? (i := 366) (by decide +kernel)) (by decide +kernel)
theorem tw_367 : (.code ⟨"java/lang/Exception", "<init>", "(Ljava/lang/String;)V"⟩ prog_9_method_2_code 2 none : Cond) ∈ tbG := tbG_of (List.mem_of_getElem? (i := 367) (by decide +kernel)) (by decide +kernel)
theorem tw_368 : (.methodLink "java/lang/Exception" 7 ⟨"java/lang/Throwable", "<init>", "(Ljava/lang/String;)V"⟩ : Cond) ∈ tbG := tbG_of (List.mem_of_getElem? (i := 368) (by decide +kernel)) (by decide +kernel)
theorem tw_369 : (.instanceMethod ⟨"java/lang/Throwable", "<init>", "(Ljava/lang/String;)V"⟩ : Cond) ∈ tbG := tbG_of (List.mem_of_getElem? (i := 369) (by decide +kernel)) (by decide +kernel)
theorem tw_370 : (.code ⟨"java/lang/Throwable", "<init>", "(Ljava/lang/String;)V"⟩ prog_16_method_2_code 2 none : Cond) ∈ tbG := tbG_of (List.mem_of_getElem? (i := 370) (by decide +kernel)) (by decide +kernel)
theorem tw_372 : (.fieldLink "java/lang/Throwable" 31 "java/lang/Throwable" "detailMessage" "Ljava/lang/String;" : Cond) ∈ tbG := tbG_of (List.mem_of_getElem? (i := 372) (by decide +kernel)) (by decide +kernel)
theorem tw_373 : (.fieldLink "java/lang/Throwable" 7 "java/lang/Throwable" "cause" "Ljava/lang/Throwable;" : Cond) ∈ tbG := tbG_of (List.mem_of_getElem? (i := 373) (by decide +kernel)) (by decide +kernel)
theorem tw_374 : (.fieldLink "java/lang/Throwable" 17 "java/lang/Throwable" "stackTrace" "[Ljava/lang/StackTraceElement;" : Cond) ∈ tbG := tbG_of (List.mem_of_getElem? (i := 374) (by decide +kernel)) (by decide +kernel)
theorem tw_375 : (.fieldLink "java/lang/Throwable" 24 "java/lang/Throwable" "suppressedExceptions" "Ljava/util/List;" : Cond) ∈ tbG := tbG_of (List.mem_of_getElem? (i := 375) (by decide +kernel)) (by decide +kernel)
theorem tw_384 : (.arrayClass .byte : Cond) ∈ tbG := tbG_of (List.mem_of_getElem? (i := 384) (by decide +kernel)) (by decide +kernel)
theorem tw_385 : (.methodLink "EarleyChart" 73 ⟨"EarleyChart", "hasVariable", "(I)Z"⟩ : Cond) ∈ tbG := tbG_of (List.mem_of_getElem? (i := 385) (by decide +kernel)) (by decide +kernel)
theorem tw_387 : (.instanceMethod ⟨"EarleyChart", "hasVariable", "(I)Z"⟩ : Cond) ∈ tbG := tbG_of (List.mem_of_getElem? (i := 387) (by decide +kernel)) (by decide +kernel)
theorem tw_388 : (.code ⟨"EarleyChart", "hasVariable", "(I)Z"⟩ prog_1_method_17_code 2 (some .boolean) : Cond) ∈ tbG := tbG_of (List.mem_of_getElem? (i := 388) (by decide +kernel)) (by decide +kernel)
theorem tw_389 : (.classLink "EarleyChart" 77 "java/lang/IllegalArgumentException" : Cond) ∈ tbG := tbG_of (List.mem_of_getElem? (i := 389) (by decide +kernel)) (by decide +kernel)
theorem tw_390 : (.instantiable "java/lang/IllegalArgumentException" 6 : Cond) ∈ tbG := tbG_of (List.mem_of_getElem? (i := 390) (by decide +kernel)) (by decide +kernel)
theorem tw_392 : (.selects "java/lang/IllegalArgumentException" ⟨"java/lang/Throwable", "fillInStackTrace", "(I)Ljava/lang/Throwable;"⟩ ⟨"java/lang/Throwable", "fillInStackTrace", "(I)Ljava/lang/Throwable;"⟩ : Cond) ∈ tbG := tbG_of (List.mem_of_getElem? (i := 392) (by decide +kernel)) (by decide +kernel)
theorem tw_399 : (.methodLink "EarleyChart" 81 ⟨"java/lang/IllegalArgumentException", "<init>", "(Ljava/lang/String;)V"⟩ : Cond) ∈ tbG := tbG_of (List.mem_of_getElem? (i := 399) (by decide +kernel)) (by decide +kernel)
theorem tw_400 : (.instanceMethod ⟨"java/lang/IllegalArgumentException", "<init>", "(Ljava/lang/String;)V"⟩ : Cond) ∈ tbG := tbG_of (List.mem_of_getElem? (i := 400) (by decide +kernel)) (by decide +kernel)
theorem tw_401 : (.code ⟨"java/lang/IllegalArgumentException", "<init>", "(Ljava/lang/String;)V"⟩ prog_10_method_2_code 2 none : Cond) ∈ tbG := tbG_of (List.mem_of_getElem? (i := 401) (by decide +kernel)) (by decide +kernel)
theorem tw_402 : (.methodLink "java/lang/IllegalArgumentException" 7 ⟨"java/lang/RuntimeException", "<init>", "(Ljava/lang/String;)V"⟩ : Cond) ∈ tbG := tbG_of (List.mem_of_getElem? (i := 402) (by decide +kernel)) (by decide +kernel)
theorem tw_405 : (.methodLink "EarleyChart" 82 ⟨"EarleyChart$Grammar", "openProduction", "(I)V"⟩ : Cond) ∈ tbG := tbG_of (List.mem_of_getElem? (i := 405) (by decide +kernel)) (by decide +kernel)
theorem tw_406 : (.instanceMethod ⟨"EarleyChart$Grammar", "openProduction", "(I)V"⟩ : Cond) ∈ tbG := tbG_of (List.mem_of_getElem? (i := 406) (by decide +kernel)) (by decide +kernel)
theorem tw_407 : (.selects "EarleyChart$Grammar" ⟨"EarleyChart$Grammar", "openProduction", "(I)V"⟩ ⟨"EarleyChart$Grammar", "openProduction", "(I)V"⟩ : Cond) ∈ tbG := tbG_of (List.mem_of_getElem? (i := 407) (by decide +kernel)) (by decide +kernel)
theorem tw_408 : (.code ⟨"EarleyChart$Grammar", "openProduction", "(I)V"⟩ prog_2_method_5_code 2 none : Cond) ∈ tbG := tbG_of (List.mem_of_getElem? (i := 408) (by decide +kernel)) (by decide +kernel)
theorem tw_409 : (.methodLink "EarleyChart$Grammar" 35 ⟨"EarleyChart$Grammar", "openSlot", "()V"⟩ : Cond) ∈ tbG := tbG_of (List.mem_of_getElem? (i := 409) (by decide +kernel)) (by decide +kernel)
theorem tw_411 : (.instanceMethod ⟨"EarleyChart$Grammar", "openSlot", "()V"⟩ : Cond) ∈ tbG := tbG_of (List.mem_of_getElem? (i := 411) (by decide +kernel)) (by decide +kernel)
theorem tw_412 : (.code ⟨"EarleyChart$Grammar", "openSlot", "()V"⟩ prog_2_method_7_code 1 none : Cond) ∈ tbG := tbG_of (List.mem_of_getElem? (i := 412) (by decide +kernel)) (by decide +kernel)
theorem tw_413 : (.methodLink "EarleyChartLaw" 68 ⟨"EarleyChartLaw", "addRhs", "(LEarleyChart;I[J)I"⟩ : Cond) ∈ tbG := tbG_of (List.mem_of_getElem? (i := 413) (by decide +kernel)) (by decide +kernel)
theorem tw_414 : (.static ⟨"EarleyChartLaw", "addRhs", "(LEarleyChart;I[J)I"⟩ : Cond) ∈ tbG := tbG_of (List.mem_of_getElem? (i := 414) (by decide +kernel)) (by decide +kernel)
theorem tw_416 : (.methodLink "EarleyChartLaw" 17 ⟨"EarleyChart", "addRhs", "(I)I"⟩ : Cond) ∈ tbG := tbG_of (List.mem_of_getElem? (i := 416) (by decide +kernel)) (by decide +kernel)
theorem tw_417 : (.instanceMethod ⟨"EarleyChart", "addRhs", "(I)I"⟩ : Cond) ∈ tbG := tbG_of (List.mem_of_getElem? (i := 417) (by decide +kernel)) (by decide +kernel)
theorem tw_418 : (.selects "EarleyChart" ⟨"EarleyChart", "addRhs", "(I)I"⟩ ⟨"EarleyChart", "addRhs", "(I)I"⟩ : Cond) ∈ tbG := tbG_of (List.mem_of_getElem? (i := 418) (by decide +kernel)) (by decide +kernel)
theorem tw_419 : (.code ⟨"EarleyChart", "addRhs", "(I)I"⟩ prog_1_method_3_code 2 (some .int) : Cond) ∈ tbG := tbG_of (List.mem_of_getElem? (i := 419) (by decide +kernel)) (by decide +kernel)
theorem tw_420 : (.methodLink "EarleyChart" 86 ⟨"EarleyChart$Grammar", "hasRoomForSymbol", "()Z"⟩ : Cond) ∈ tbG := tbG_of (List.mem_of_getElem? (i := 420) (by decide +kernel)) (by decide +kernel)
theorem tw_421 : (.instanceMethod ⟨"EarleyChart$Grammar", "hasRoomForSymbol", "()Z"⟩ : Cond) ∈ tbG := tbG_of (List.mem_of_getElem? (i := 421) (by decide +kernel)) (by decide +kernel)
theorem tw_422 : (.selects "EarleyChart$Grammar" ⟨"EarleyChart$Grammar", "hasRoomForSymbol", "()Z"⟩ ⟨"EarleyChart$Grammar", "hasRoomForSymbol", "()Z"⟩ : Cond) ∈ tbG := tbG_of (List.mem_of_getElem? (i := 422) (by decide +kernel)) (by decide +kernel)
theorem tw_423 : (.code ⟨"EarleyChart$Grammar", "hasRoomForSymbol", "()Z"⟩ prog_2_method_4_code 1 (some .boolean) : Cond) ∈ tbG := tbG_of (List.mem_of_getElem? (i := 423) (by decide +kernel)) (by decide +kernel)
theorem tw_424 : (.methodLink "EarleyChart$Grammar" 31 ⟨"EarleyChart$Grammar", "lastLength", "()I"⟩ : Cond) ∈ tbG := tbG_of (List.mem_of_getElem? (i := 424) (by decide +kernel)) (by decide +kernel)
theorem tw_425 : (.instanceMethod ⟨"EarleyChart$Grammar", "lastLength", "()I"⟩ : Cond) ∈ tbG := tbG_of (List.mem_of_getElem? (i := 425) (by decide +kernel)) (by decide +kernel)
theorem tw_426 : (.selects "EarleyChart$Grammar" ⟨"EarleyChart$Grammar", "lastLength", "()I"⟩ ⟨"EarleyChart$Grammar", "lastLength", "()I"⟩ : Cond) ∈ tbG := tbG_of (List.mem_of_getElem? (i := 426) (by decide +kernel)) (by decide +kernel)
theorem tw_427 : (.code ⟨"EarleyChart$Grammar", "lastLength", "()I"⟩ prog_2_method_3_code 1 (some .int) : Cond) ∈ tbG := tbG_of (List.mem_of_getElem? (i := 427) (by decide +kernel)) (by decide +kernel)
theorem tw_429 : (.methodLink "EarleyChart" 92 ⟨"EarleyChart", "hasToken", "(I)Z"⟩ : Cond) ∈ tbG := tbG_of (List.mem_of_getElem? (i := 429) (by decide +kernel)) (by decide +kernel)
theorem tw_431 : (.instanceMethod ⟨"EarleyChart", "hasToken", "(I)Z"⟩ : Cond) ∈ tbG := tbG_of (List.mem_of_getElem? (i := 431) (by decide +kernel)) (by decide +kernel)
theorem tw_432 : (.code ⟨"EarleyChart", "hasToken", "(I)Z"⟩ prog_1_method_18_code 2 (some .boolean) : Cond) ∈ tbG := tbG_of (List.mem_of_getElem? (i := 432) (by decide +kernel)) (by decide +kernel)
theorem tw_434 : (.methodLink "EarleyChart" 97 ⟨"EarleyChart$Grammar", "appendSymbol", "(I)V"⟩ : Cond) ∈ tbG := tbG_of (List.mem_of_getElem? (i := 434) (by decide +kernel)) (by decide +kernel)
theorem tw_435 : (.instanceMethod ⟨"EarleyChart$Grammar", "appendSymbol", "(I)V"⟩ : Cond) ∈ tbG := tbG_of (List.mem_of_getElem? (i := 435) (by decide +kernel)) (by decide +kernel)
theorem tw_436 : (.selects "EarleyChart$Grammar" ⟨"EarleyChart$Grammar", "appendSymbol", "(I)V"⟩ ⟨"EarleyChart$Grammar", "appendSymbol", "(I)V"⟩ : Cond) ∈ tbG := tbG_of (List.mem_of_getElem? (i := 436) (by decide +kernel)) (by decide +kernel)
theorem tw_437 : (.code ⟨"EarleyChart$Grammar", "appendSymbol", "(I)V"⟩ prog_2_method_6_code 2 none : Cond) ∈ tbG := tbG_of (List.mem_of_getElem? (i := 437) (by decide +kernel)) (by decide +kernel)
theorem tw_438 : (.methodLink "EarleyChart$Grammar" 38 ⟨"EarleyChart$Grammar", "hasRoomForSymbol", "()Z"⟩ : Cond) ∈ tbG := tbG_of (List.mem_of_getElem? (i := 438) (by decide +kernel)) (by decide +kernel)
theorem tw_439 : (.methodLink "EarleyChart" 100 ⟨"EarleyChart$Grammar", "lastLength", "()I"⟩ : Cond) ∈ tbG := tbG_of (List.mem_of_getElem? (i := 439) (by decide +kernel)) (by decide +kernel)
theorem tw_440 : (.methodLink "EarleyChartLaw" 71 ⟨"EarleyChartLaw", "feed", "(LEarleyChart;I[J)I"⟩ : Cond) ∈ tbG := tbG_of (List.mem_of_getElem? (i := 440) (by decide +kernel)) (by decide +kernel)
theorem tw_441 : (.static ⟨"EarleyChartLaw", "feed", "(LEarleyChart;I[J)I"⟩ : Cond) ∈ tbG := tbG_of (List.mem_of_getElem? (i := 441) (by decide +kernel)) (by decide +kernel)
theorem tw_443 : (.methodLink "EarleyChartLaw" 20 ⟨"EarleyChart", "feed", "(I)I"⟩ : Cond) ∈ tbG := tbG_of (List.mem_of_getElem? (i := 443) (by decide +kernel)) (by decide +kernel)
theorem tw_444 : (.instanceMethod ⟨"EarleyChart", "feed", "(I)I"⟩ : Cond) ∈ tbG := tbG_of (List.mem_of_getElem? (i := 444) (by decide +kernel)) (by decide +kernel)
theorem tw_445 : (.selects "EarleyChart" ⟨"EarleyChart", "feed", "(I)I"⟩ ⟨"EarleyChart", "feed", "(I)I"⟩ : Cond) ∈ tbG := tbG_of (List.mem_of_getElem? (i := 445) (by decide +kernel)) (by decide +kernel)
theorem tw_446 : (.code ⟨"EarleyChart", "feed", "(I)I"⟩ prog_1_method_4_code 2 (some .int) : Cond) ∈ tbG := tbG_of (List.mem_of_getElem? (i := 446) (by decide +kernel)) (by decide +kernel)
theorem tw_449 : (.methodLink "EarleyChart" 111 ⟨"EarleyChart$Input", "append", "(I)V"⟩ : Cond) ∈ tbG := tbG_of (List.mem_of_getElem? (i := 449) (by decide +kernel)) (by decide +kernel)
theorem tw_450 : (.instanceMethod ⟨"EarleyChart$Input", "append", "(I)V"⟩ : Cond) ∈ tbG := tbG_of (List.mem_of_getElem? (i := 450) (by decide +kernel)) (by decide +kernel)
theorem tw_451 : (.selects "EarleyChart$Input" ⟨"EarleyChart$Input", "append", "(I)V"⟩ ⟨"EarleyChart$Input", "append", "(I)V"⟩ : Cond) ∈ tbG := tbG_of (List.mem_of_getElem? (i := 451) (by decide +kernel)) (by decide +kernel)
theorem tw_452 : (.code ⟨"EarleyChart$Input", "append", "(I)V"⟩ prog_3_method_2_code 2 none : Cond) ∈ tbG := tbG_of (List.mem_of_getElem? (i := 452) (by decide +kernel)) (by decide +kernel)
theorem tw_453 : (.methodLink "EarleyChart" 114 ⟨"EarleyChart$ItemSets", "makeNext", "(II)V"⟩ : Cond) ∈ tbG := tbG_of (List.mem_of_getElem? (i := 453) (by decide +kernel)) (by decide +kernel)
theorem tw_454 : (.instanceMethod ⟨"EarleyChart$ItemSets", "makeNext", "(II)V"⟩ : Cond) ∈ tbG := tbG_of (List.mem_of_getElem? (i := 454) (by decide +kernel)) (by decide +kernel)
theorem tw_455 : (.selects "EarleyChart$ItemSets" ⟨"EarleyChart$ItemSets", "makeNext", "(II)V"⟩ ⟨"EarleyChart$ItemSets", "makeNext", "(II)V"⟩ : Cond) ∈ tbG := tbG_of (List.mem_of_getElem? (i := 455) (by decide +kernel)) (by decide +kernel)
theorem tw_456 : (.code ⟨"EarleyChart$ItemSets", "makeNext", "(II)V"⟩ prog_4_method_3_code 4 none : Cond) ∈ tbG := tbG_of (List.mem_of_getElem? (i := 456) (by decide +kernel)) (by decide +kernel)
theorem tw_457 : (.methodLink "EarleyChartLaw" 83 ⟨"EarleyChartLaw", "extract", "(LEarleyChart;[J)I"⟩ : Cond) ∈ tbG := tbG_of (List.mem_of_getElem? (i := 457) (by decide +kernel)) (by decide +kernel)
theorem tw_458 : (.static ⟨"EarleyChartLaw", "extract", "(LEarleyChart;[J)I"⟩ : Cond) ∈ tbG := tbG_of (List.mem_of_getElem? (i := 458) (by decide +kernel)) (by decide +kernel)
theorem tw_460 : (.classLink "EarleyChartLaw" 27 "java/util/NoSuchElementException" : Cond) ∈ tbG := tbG_of (List.mem_of_getElem? (i := 460) (by decide +kernel)) (by decide +kernel)
theorem tw_461 : (.methodLink "EarleyChartLaw" 23 ⟨"EarleyChart", "extract", "()I"⟩ : Cond) ∈ tbG := tbG_of (List.mem_of_getElem? (i := 461) (by decide +kernel)) (by decide +kernel)
theorem tw_462 : (.instanceMethod ⟨"EarleyChart", "extract", "()I"⟩ : Cond) ∈ tbG := tbG_of (List.mem_of_getElem? (i := 462) (by decide +kernel)) (by decide +kernel)
theorem tw_463 : (.selects "EarleyChart" ⟨"EarleyChart", "extract", "()I"⟩ ⟨"EarleyChart", "extract", "()I"⟩ : Cond) ∈ tbG := tbG_of (List.mem_of_getElem? (i := 463) (by decide +kernel)) (by decide +kernel)
theorem tw_464 : (.code ⟨"EarleyChart", "extract", "()I"⟩ prog_1_method_7_code 1 (some .int) : Cond) ∈ tbG := tbG_of (List.mem_of_getElem? (i := 464) (by decide +kernel)) (by decide +kernel)
theorem tw_465 : (.classLink "EarleyChart" 128 "java/util/NoSuchElementException" : Cond) ∈ tbG := tbG_of (List.mem_of_getElem? (i := 465) (by decide +kernel)) (by decide +kernel)
theorem tw_466 : (.instantiable "java/util/NoSuchElementException" 6 : Cond) ∈ tbG := tbG_of (List.mem_of_getElem? (i := 466) (by decide +kernel)) (by decide +kernel)
theorem tw_468 : (.selects "java/util/NoSuchElementException" ⟨"java/lang/Throwable", "fillInStackTrace", "(I)Ljava/lang/Throwable;"⟩ ⟨"java/lang/Throwable", "fillInStackTrace", "(I)Ljava/lang/Throwable;"⟩ : Cond) ∈ tbG := tbG_of (List.mem_of_getElem? (i := 468) (by decide +kernel)) (by decide +kernel)
theorem tw_475 : (.methodLink "EarleyChart" 132 ⟨"java/util/NoSuchElementException", "<init>", "(Ljava/lang/String;)V"⟩ : Cond) ∈ tbG := tbG_of (List.mem_of_getElem? (i := 475) (by decide +kernel)) (by decide +kernel)
theorem tw_476 : (.instanceMethod ⟨"java/util/NoSuchElementException", "<init>", "(Ljava/lang/String;)V"⟩ : Cond) ∈ tbG := tbG_of (List.mem_of_getElem? (i := 476) (by decide +kernel)) (by decide +kernel)
theorem tw_477 : (.code ⟨"java/util/NoSuchElementException", "<init>", "(Ljava/lang/String;)V"⟩ prog_18_method_4_code 2 none : Cond) ∈ tbG := tbG_of (List.mem_of_getElem? (i := 477) (by decide +kernel)) (by decide +kernel)
theorem tw_478 : (.methodLink "java/util/NoSuchElementException" 13 ⟨"java/lang/RuntimeException", "<init>", "(Ljava/lang/String;)V"⟩ : Cond) ∈ tbG := tbG_of (List.mem_of_getElem? (i := 478) (by decide +kernel)) (by decide +kernel)
theorem tw_481 : (.methodLink "EarleyChart" 133 ⟨"EarleyChart$Grammar", "start", "()I"⟩ : Cond) ∈ tbG := tbG_of (List.mem_of_getElem? (i := 481) (by decide +kernel)) (by decide +kernel)
theorem tw_482 : (.methodLink "EarleyChart" 136 ⟨"EarleyChart$Witness", "tell", "(II)V"⟩ : Cond) ∈ tbG := tbG_of (List.mem_of_getElem? (i := 482) (by decide +kernel)) (by decide +kernel)
theorem tw_483 : (.instanceMethod ⟨"EarleyChart$Witness", "tell", "(II)V"⟩ : Cond) ∈ tbG := tbG_of (List.mem_of_getElem? (i := 483) (by decide +kernel)) (by decide +kernel)
theorem tw_484 : (.selects "EarleyChart$Witness" ⟨"EarleyChart$Witness", "tell", "(II)V"⟩ ⟨"EarleyChart$Witness", "tell", "(II)V"⟩ : Cond) ∈ tbG := tbG_of (List.mem_of_getElem? (i := 484) (by decide +kernel)) (by decide +kernel)
theorem tw_485 : (.code ⟨"EarleyChart$Witness", "tell", "(II)V"⟩ prog_6_method_3_code 4 none : Cond) ∈ tbG := tbG_of (List.mem_of_getElem? (i := 485) (by decide +kernel)) (by decide +kernel)
theorem tw_486 : (.methodLink "EarleyChart$Witness" 39 ⟨"EarleyChart$Witness", "open", "(III)V"⟩ : Cond) ∈ tbG := tbG_of (List.mem_of_getElem? (i := 486) (by decide +kernel)) (by decide +kernel)
theorem tw_488 : (.instanceMethod ⟨"EarleyChart$Witness", "open", "(III)V"⟩ : Cond) ∈ tbG := tbG_of (List.mem_of_getElem? (i := 488) (by decide +kernel)) (by decide +kernel)
theorem tw_489 : (.code ⟨"EarleyChart$Witness", "open", "(III)V"⟩ prog_6_method_4_code 5 none : Cond) ∈ tbG := tbG_of (List.mem_of_getElem? (i := 489) (by decide +kernel)) (by decide +kernel)
theorem tw_490 : (.methodLink "EarleyChart$Witness" 47 ⟨"EarleyChart$Witness", "lowestProduction", "(III)I"⟩ : Cond) ∈ tbG := tbG_of (List.mem_of_getElem? (i := 490) (by decide +kernel)) (by decide +kernel)
theorem tw_492 : (.instanceMethod ⟨"EarleyChart$Witness", "lowestProduction", "(III)I"⟩ : Cond) ∈ tbG := tbG_of (List.mem_of_getElem? (i := 492) (by decide +kernel)) (by decide +kernel)
theorem tw_493 : (.code ⟨"EarleyChart$Witness", "lowestProduction", "(III)I"⟩ prog_6_method_6_code 6 (some .int) : Cond) ∈ tbG := tbG_of (List.mem_of_getElem? (i := 493) (by decide +kernel)) (by decide +kernel)
theorem tw_494 : (.methodLink "EarleyChart$Witness" 66 ⟨"EarleyChart$StepTable", "ofSymbol", "(III)I"⟩ : Cond) ∈ tbG := tbG_of (List.mem_of_getElem? (i := 494) (by decide +kernel)) (by decide +kernel)
theorem tw_495 : (.methodLink "EarleyChart$Witness" 77 ⟨"EarleyChart$StepTable", "ofRow", "(III)I"⟩ : Cond) ∈ tbG := tbG_of (List.mem_of_getElem? (i := 495) (by decide +kernel)) (by decide +kernel)
theorem tw_496 : (.constant "EarleyChart$Witness" 43 1000000 : Cond) ∈ tbG := tbG_of (List.mem_of_getElem? (i := 496) (by decide +kernel)) (by decide +kernel)
theorem tw_497 : (.methodLink "EarleyChart$Witness" 44 ⟨"EarleyChart$Witness", "goOn", "()V"⟩ : Cond) ∈ tbG := tbG_of (List.mem_of_getElem? (i := 497) (by decide +kernel)) (by decide +kernel)
theorem tw_499 : (.instanceMethod ⟨"EarleyChart$Witness", "goOn", "()V"⟩ : Cond) ∈ tbG := tbG_of (List.mem_of_getElem? (i := 499) (by decide +kernel)) (by decide +kernel)
theorem tw_500 : (.code ⟨"EarleyChart$Witness", "goOn", "()V"⟩ prog_6_method_5_code 6 none : Cond) ∈ tbG := tbG_of (List.mem_of_getElem? (i := 500) (by decide +kernel)) (by decide +kernel)
theorem tw_501 : (.methodLink "EarleyChart$Witness" 59 ⟨"EarleyChart$Witness", "shortestEnd", "(III)I"⟩ : Cond) ∈ tbG := tbG_of (List.mem_of_getElem? (i := 501) (by decide +kernel)) (by decide +kernel)
theorem tw_503 : (.instanceMethod ⟨"EarleyChart$Witness", "shortestEnd", "(III)I"⟩ : Cond) ∈ tbG := tbG_of (List.mem_of_getElem? (i := 503) (by decide +kernel)) (by decide +kernel)
theorem tw_504 : (.code ⟨"EarleyChart$Witness", "shortestEnd", "(III)I"⟩ prog_6_method_7_code 6 (some .int) : Cond) ∈ tbG := tbG_of (List.mem_of_getElem? (i := 504) (by decide +kernel)) (by decide +kernel)
theorem tw_505 : (.methodLink "EarleyChart$Witness" 80 ⟨"EarleyChart$StepTable", "ofSplitRow", "(IIII)I"⟩ : Cond) ∈ tbG := tbG_of (List.mem_of_getElem? (i := 505) (by decide +kernel)) (by decide +kernel)
theorem tw_507 : (.methodLink "EarleyChartLaw" 91 ⟨"EarleyChartLaw", "wit", "(LEarleyChart;I[J)I"⟩ : Cond) ∈ tbG := tbG_of (List.mem_of_getElem? (i := 507) (by decide +kernel)) (by decide +kernel)
theorem tw_508 : (.static ⟨"EarleyChartLaw", "wit", "(LEarleyChart;I[J)I"⟩ : Cond) ∈ tbG := tbG_of (List.mem_of_getElem? (i := 508) (by decide +kernel)) (by decide +kernel)
theorem tw_510 : (.classLink "EarleyChartLaw" 32 "java/lang/IndexOutOfBoundsException" : Cond) ∈ tbG := tbG_of (List.mem_of_getElem? (i := 510) (by decide +kernel)) (by decide +kernel)
theorem tw_511 : (.methodLink "EarleyChartLaw" 29 ⟨"EarleyChart", "wit", "(I)I"⟩ : Cond) ∈ tbG := tbG_of (List.mem_of_getElem? (i := 511) (by decide +kernel)) (by decide +kernel)
theorem tw_512 : (.instanceMethod ⟨"EarleyChart", "wit", "(I)I"⟩ : Cond) ∈ tbG := tbG_of (List.mem_of_getElem? (i := 512) (by decide +kernel)) (by decide +kernel)
theorem tw_513 : (.selects "EarleyChart" ⟨"EarleyChart", "wit", "(I)I"⟩ ⟨"EarleyChart", "wit", "(I)I"⟩ : Cond) ∈ tbG := tbG_of (List.mem_of_getElem? (i := 513) (by decide +kernel)) (by decide +kernel)
theorem tw_514 : (.code ⟨"EarleyChart", "wit", "(I)I"⟩ prog_1_method_9_code 2 (some .int) : Cond) ∈ tbG := tbG_of (List.mem_of_getElem? (i := 514) (by decide +kernel)) (by decide +kernel)
theorem tw_515 : (.classLink "EarleyChart" 142 "java/lang/IndexOutOfBoundsException" : Cond) ∈ tbG := tbG_of (List.mem_of_getElem? (i := 515) (by decide +kernel)) (by decide +kernel)
theorem tw_516 : (.instantiable "java/lang/IndexOutOfBoundsException" 6 : Cond) ∈ tbG := tbG_of (List.mem_of_getElem? (i := 516) (by decide +kernel)) (by decide +kernel)
theorem tw_518 : (.selects "java/lang/IndexOutOfBoundsException" ⟨"java/lang/Throwable", "fillInStackTrace", "(I)Ljava/lang/Throwable;"⟩ ⟨"java/lang/Throwable", "fillInStackTrace", "(I)Ljava/lang/Throwable;"⟩ : Cond) ∈ tbG := tbG_of (List.mem_of_getElem? (i := 518) (by decide +kernel)) (by decide +kernel)
theorem tw_525 : (.methodLink "EarleyChart" 146 ⟨"java/lang/IndexOutOfBoundsException", "<init>", "(Ljava/lang/String;)V"⟩ : Cond) ∈ tbG := tbG_of (List.mem_of_getElem? (i := 525) (by decide +kernel)) (by decide +kernel)
theorem tw_526 : (.instanceMethod ⟨"java/lang/IndexOutOfBoundsException", "<init>", "(Ljava/lang/String;)V"⟩ : Cond) ∈ tbG := tbG_of (List.mem_of_getElem? (i := 526) (by decide +kernel)) (by decide +kernel)
theorem tw_527 : (.code ⟨"java/lang/IndexOutOfBoundsException", "<init>", "(Ljava/lang/String;)V"⟩ prog_12_method_2_code 2 none : Cond) ∈ tbG := tbG_of (List.mem_of_getElem? (i := 527) (by decide +kernel)) (by decide +kernel)
theorem tw_528 : (.methodLink "java/lang/IndexOutOfBoundsException" 7 ⟨"java/lang/RuntimeException", "<init>", "(Ljava/lang/String;)V"⟩ : Cond) ∈ tbG := tbG_of (List.mem_of_getElem? (i := 528) (by decide +kernel)) (by decide +kernel)
theorem tw_531 : (.methodLink "EarleyChartLaw" 102 ⟨"EarleyChartLaw", "items", "(LEarleyChart;I[J)I"⟩ : Cond) ∈ tbG := tbG_of (List.mem_of_getElem? (i := 531) (by decide +kernel)) (by decide +kernel)
theorem tw_532 : (.static ⟨"EarleyChartLaw", "items", "(LEarleyChart;I[J)I"⟩ : Cond) ∈ tbG := tbG_of (List.mem_of_getElem? (i := 532) (by decide +kernel)) (by decide +kernel)
theorem tw_534 : (.methodLink "EarleyChartLaw" 34 ⟨"EarleyChart", "items", "(I)I"⟩ : Cond) ∈ tbG := tbG_of (List.mem_of_getElem? (i := 534) (by decide +kernel)) (by decide +kernel)
theorem tw_535 : (.instanceMethod ⟨"EarleyChart", "items", "(I)I"⟩ : Cond) ∈ tbG := tbG_of (List.mem_of_getElem? (i := 535) (by decide +kernel)) (by decide +kernel)
theorem tw_536 : (.selects "EarleyChart" ⟨"EarleyChart", "items", "(I)I"⟩ ⟨"EarleyChart", "items", "(I)I"⟩ : Cond) ∈ tbG := tbG_of (List.mem_of_getElem? (i := 536) (by decide +kernel)) (by decide +kernel)
theorem tw_537 : (.code ⟨"EarleyChart", "items", "(I)I"⟩ prog_1_method_12_code 2 (some .int) : Cond) ∈ tbG := tbG_of (List.mem_of_getElem? (i := 537) (by decide +kernel)) (by decide +kernel)
theorem tw_538 : (.methodLink "EarleyChart" 152 ⟨"EarleyChart", "hasSet", "(I)Z"⟩ : Cond) ∈ tbG := tbG_of (List.mem_of_getElem? (i := 538) (by decide +kernel)) (by decide +kernel)
theorem tw_540 : (.instanceMethod ⟨"EarleyChart", "hasSet", "(I)Z"⟩ : Cond) ∈ tbG := tbG_of (List.mem_of_getElem? (i := 540) (by decide +kernel)) (by decide +kernel)
theorem tw_541 : (.code ⟨"EarleyChart", "hasSet", "(I)Z"⟩ prog_1_method_19_code 2 (some .boolean) : Cond) ∈ tbG := tbG_of (List.mem_of_getElem? (i := 541) (by decide +kernel)) (by decide +kernel)
theorem tw_543 : (.methodLink "EarleyChartLaw" 105 ⟨"EarleyChartLaw", "item", "(LEarleyChart;II[J)I"⟩ : Cond) ∈ tbG := tbG_of (List.mem_of_getElem? (i := 543) (by decide +kernel)) (by decide +kernel)
theorem tw_544 : (.static ⟨"EarleyChartLaw", "item", "(LEarleyChart;II[J)I"⟩ : Cond) ∈ tbG := tbG_of (List.mem_of_getElem? (i := 544) (by decide +kernel)) (by decide +kernel)
theorem tw_546 : (.methodLink "EarleyChartLaw" 37 ⟨"EarleyChart", "item", "(II)I"⟩ : Cond) ∈ tbG := tbG_of (List.mem_of_getElem? (i := 546) (by decide +kernel)) (by decide +kernel)
theorem tw_547 : (.instanceMethod ⟨"EarleyChart", "item", "(II)I"⟩ : Cond) ∈ tbG := tbG_of (List.mem_of_getElem? (i := 547) (by decide +kernel)) (by decide +kernel)
theorem tw_548 : (.selects "EarleyChart" ⟨"EarleyChart", "item", "(II)I"⟩ ⟨"EarleyChart", "item", "(II)I"⟩ : Cond) ∈ tbG := tbG_of (List.mem_of_getElem? (i := 548) (by decide +kernel)) (by decide +kernel)
theorem tw_549 : (.code ⟨"EarleyChart", "item", "(II)I"⟩ prog_1_method_13_code 3 (some .int) : Cond) ∈ tbG := tbG_of (List.mem_of_getElem? (i := 549) (by decide +kernel)) (by decide +kernel)
theorem tw_551 : (.methodLink "EarleyChart" 159 ⟨"EarleyChart$ItemSets", "codeOf", "(II)I"⟩ : Cond) ∈ tbG := tbG_of (List.mem_of_getElem? (i := 551) (by decide +kernel)) (by decide +kernel)
theorem tw_552 : (.instanceMethod ⟨"EarleyChart$ItemSets", "codeOf", "(II)I"⟩ : Cond) ∈ tbG := tbG_of (List.mem_of_getElem? (i := 552) (by decide +kernel)) (by decide +kernel)
theorem tw_553 : (.selects "EarleyChart$ItemSets" ⟨"EarleyChart$ItemSets", "codeOf", "(II)I"⟩ ⟨"EarleyChart$ItemSets", "codeOf", "(II)I"⟩ : Cond) ∈ tbG := tbG_of (List.mem_of_getElem? (i := 553) (by decide +kernel)) (by decide +kernel)
theorem tw_554 : (.code ⟨"EarleyChart$ItemSets", "codeOf", "(II)I"⟩ prog_4_method_6_code 6 (some .int) : Cond) ∈ tbG := tbG_of (List.mem_of_getElem? (i := 554) (by decide +kernel)) (by decide +kernel)
theorem tw_555 : (.methodLink "EarleyChart$ItemSets" 66 ⟨"EarleyChart$Grammar", "dotAt", "(I)I"⟩ : Cond) ∈ tbG := tbG_of (List.mem_of_getElem? (i := 555) (by decide +kernel)) (by decide +kernel)
theorem tw_556 : (.methodLink "EarleyChart$ItemSets" 69 ⟨"EarleyChart$ItemSets", "originAt", "(II)I"⟩ : Cond) ∈ tbG := tbG_of (List.mem_of_getElem? (i := 556) (by decide +kernel)) (by decide +kernel)
theorem tw_557 : (.static ⟨"EarleyChart$ItemSets", "originAt", "(II)I"⟩ : Cond) ∈ tbG := tbG_of (List.mem_of_getElem? (i := 557) (by decide +kernel)) (by decide +kernel)
theorem tw_558 : (.code ⟨"EarleyChart$ItemSets", "originAt", "(II)I"⟩ prog_4_method_7_code 4 (some .int) : Cond) ∈ tbG := tbG_of (List.mem_of_getElem? (i := 558) (by decide +kernel)) (by decide +kernel)
theorem tw_559 : (.methodLink "EarleyChartLaw" 109 ⟨"EarleyChartLaw", "steps", "(LEarleyChart;III[J)I"⟩ : Cond) ∈ tbG := tbG_of (List.mem_of_getElem? (i := 559) (by decide +kernel)) (by decide +kernel)
theorem tw_560 : (.static ⟨"EarleyChartLaw", "steps", "(LEarleyChart;III[J)I"⟩ : Cond) ∈ tbG := tbG_of (List.mem_of_getElem? (i := 560) (by decide +kernel)) (by decide +kernel)
theorem tw_562 : (.methodLink "EarleyChartLaw" 41 ⟨"EarleyChart", "steps", "(III)I"⟩ : Cond) ∈ tbG := tbG_of (List.mem_of_getElem? (i := 562) (by decide +kernel)) (by decide +kernel)
theorem tw_563 : (.instanceMethod ⟨"EarleyChart", "steps", "(III)I"⟩ : Cond) ∈ tbG := tbG_of (List.mem_of_getElem? (i := 563) (by decide +kernel)) (by decide +kernel)
theorem tw_564 : (.selects "EarleyChart" ⟨"EarleyChart", "steps", "(III)I"⟩ ⟨"EarleyChart", "steps", "(III)I"⟩ : Cond) ∈ tbG := tbG_of (List.mem_of_getElem? (i := 564) (by decide +kernel)) (by decide +kernel)
theorem tw_565 : (.code ⟨"EarleyChart", "steps", "(III)I"⟩ prog_1_method_14_code 4 (some .int) : Cond) ∈ tbG := tbG_of (List.mem_of_getElem? (i := 565) (by decide +kernel)) (by decide +kernel)
theorem tw_567 : (.methodLink "EarleyChart" 165 ⟨"EarleyChart$StepTable", "ofSymbol", "(III)I"⟩ : Cond) ∈ tbG := tbG_of (List.mem_of_getElem? (i := 567) (by decide +kernel)) (by decide +kernel)
theorem tw_568 : (.methodLink "EarleyChartLaw" 113 ⟨"EarleyChartLaw", "nullable", "(LEarleyChart;I[J)I"⟩ : Cond) ∈ tbG := tbG_of (List.mem_of_getElem? (i := 568) (by decide +kernel)) (by decide +kernel)
theorem tw_569 : (.static ⟨"EarleyChartLaw", "nullable", "(LEarleyChart;I[J)I"⟩ : Cond) ∈ tbG := tbG_of (List.mem_of_getElem? (i := 569) (by decide +kernel)) (by decide +kernel)
theorem tw_571 : (.methodLink "EarleyChartLaw" 45 ⟨"EarleyChart", "nullable", "(I)Z"⟩ : Cond) ∈ tbG := tbG_of (List.mem_of_getElem? (i := 571) (by decide +kernel)) (by decide +kernel)
theorem tw_572 : (.instanceMethod ⟨"EarleyChart", "nullable", "(I)Z"⟩ : Cond) ∈ tbG := tbG_of (List.mem_of_getElem? (i := 572) (by decide +kernel)) (by decide +kernel)
theorem tw_573 : (.selects "EarleyChart" ⟨"EarleyChart", "nullable", "(I)Z"⟩ ⟨"EarleyChart", "nullable", "(I)Z"⟩ : Cond) ∈ tbG := tbG_of (List.mem_of_getElem? (i := 573) (by decide +kernel)) (by decide +kernel)
theorem tw_574 : (.code ⟨"EarleyChart", "nullable", "(I)Z"⟩ prog_1_method_15_code 2 (some .boolean) : Cond) ∈ tbG := tbG_of (List.mem_of_getElem? (i := 574) (by decide +kernel)) (by decide +kernel)
theorem tw_575 : (.classLink "EarleyChartLaw" 58 "EarleyChartModel" : Cond) ∈ tbG := tbG_of (List.mem_of_getElem? (i := 575) (by decide +kernel)) (by decide +kernel)
theorem tw_576 : (.instantiable "EarleyChartModel" 17 : Cond) ∈ tbG := tbG_of (List.mem_of_getElem? (i := 576) (by decide +kernel)) (by decide +kernel)
theorem tw_577 : (.methodLink "EarleyChartLaw" 60 ⟨"EarleyChartModel", "<init>", "(II)V"⟩ : Cond) ∈ tbG := tbG_of (List.mem_of_getElem? (i := 577) (by decide +kernel)) (by decide +kernel)
theorem tw_578 : (.instanceMethod ⟨"EarleyChartModel", "<init>", "(II)V"⟩ : Cond) ∈ tbG := tbG_of (List.mem_of_getElem? (i := 578) (by decide +kernel)) (by decide +kernel)
theorem tw_579 : (.code ⟨"EarleyChartModel", "<init>", "(II)V"⟩ prog_8_method_1_code 3 none : Cond) ∈ tbG := tbG_of (List.mem_of_getElem? (i := 579) (by decide +kernel)) (by decide +kernel)
theorem tw_580 : (.methodLink "EarleyChartModel" 1 ⟨"java/lang/Object", "<init>", "()V"⟩ : Cond) ∈ tbG := tbG_of (List.mem_of_getElem? (i := 580) (by decide +kernel)) (by decide +kernel)
theorem tw_581 : (.fieldLink "EarleyChartModel" 38 "EarleyChartModel" "variables" "I" : Cond) ∈ tbG := tbG_of (List.mem_of_getElem? (i := 581) (by decide +kernel)) (by decide +kernel)
theorem tw_582 : (.fieldLink "EarleyChartModel" 42 "EarleyChartModel" "tokens" "I" : Cond) ∈ tbG := tbG_of (List.mem_of_getElem? (i := 582) (by decide +kernel)) (by decide +kernel)
theorem tw_583 : (.fieldLink "EarleyChartModel" 45 "EarleyChartModel" "thrown" "I" : Cond) ∈ tbG := tbG_of (List.mem_of_getElem? (i := 583) (by decide +kernel)) (by decide +kernel)
theorem tw_584 : (.fieldLink "EarleyChartModel" 48 "EarleyChartModel" "productions" "I" : Cond) ∈ tbG := tbG_of (List.mem_of_getElem? (i := 584) (by decide +kernel)) (by decide +kernel)
theorem tw_585 : (.fieldLink "EarleyChartModel" 7 "EarleyChartModel" "left" "[I" : Cond) ∈ tbG := tbG_of (List.mem_of_getElem? (i := 585) (by decide +kernel)) (by decide +kernel)
theorem tw_586 : (.fieldLink "EarleyChartModel" 13 "EarleyChartModel" "length" "[I" : Cond) ∈ tbG := tbG_of (List.mem_of_getElem? (i := 586) (by decide +kernel)) (by decide +kernel)
theorem tw_587 : (.fieldLink "EarleyChartModel" 16 "EarleyChartModel" "right" "[I" : Cond) ∈ tbG := tbG_of (List.mem_of_getElem? (i := 587) (by decide +kernel)) (by decide +kernel)
theorem tw_588 : (.fieldLink "EarleyChartModel" 62 "EarleyChartModel" "fed" "I" : Cond) ∈ tbG := tbG_of (List.mem_of_getElem? (i := 588) (by decide +kernel)) (by decide +kernel)
theorem tw_589 : (.fieldLink "EarleyChartModel" 19 "EarleyChartModel" "input" "[I" : Cond) ∈ tbG := tbG_of (List.mem_of_getElem? (i := 589) (by decide +kernel)) (by decide +kernel)
theorem tw_590 : (.fieldLink "EarleyChartModel" 22 "EarleyChartModel" "has" "[Z" : Cond) ∈ tbG := tbG_of (List.mem_of_getElem? (i := 590) (by decide +kernel)) (by decide +kernel)
theorem tw_591 : (.fieldLink "EarleyChartModel" 82 "EarleyChartModel" "changed" "Z" : Cond) ∈ tbG := tbG_of (List.mem_of_getElem? (i := 591) (by decide +kernel)) (by decide +kernel)
theorem tw_592 : (.fieldLink "EarleyChartModel" 26 "EarleyChartModel" "steps" "[I" : Cond) ∈ tbG := tbG_of (List.mem_of_getElem? (i := 592) (by decide +kernel)) (by decide +kernel)
theorem tw_593 : (.fieldLink "EarleyChartModel" 54 "EarleyChartModel" "known" "Z" : Cond) ∈ tbG := tbG_of (List.mem_of_getElem? (i := 593) (by decide +kernel)) (by decide +kernel)
theorem tw_594 : (.fieldLink "EarleyChartModel" 29 "EarleyChartModel" "rest" "[I" : Cond) ∈ tbG := tbG_of (List.mem_of_getElem? (i := 594) (by decide +kernel)) (by decide +kernel)
theorem tw_595 : (.fieldLink "EarleyChartModel" 51 "EarleyChartModel" "made" "I" : Cond) ∈ tbG := tbG_of (List.mem_of_getElem? (i := 595) (by decide +kernel)) (by decide +kernel)
theorem tw_596 : (.fieldLink "EarleyChartModel" 32 "EarleyChartModel" "witness" "[I" : Cond) ∈ tbG := tbG_of (List.mem_of_getElem? (i := 596) (by decide +kernel)) (by decide +kernel)
theorem tw_597 : (.fieldLink "EarleyChartModel" 35 "EarleyChartModel" "stack" "[I" : Cond) ∈ tbG := tbG_of (List.mem_of_getElem? (i := 597) (by decide +kernel)) (by decide +kernel)
theorem tw_633 : (.arrayClass .boolean : Cond) ∈ tbG := tbG_of (List.mem_of_getElem? (i := 633) (by decide +kernel)) (by decide +kernel)
theorem tw_634 : (.methodLink "EarleyChartLaw" 65 ⟨"EarleyChartModel", "thrown", "()I"⟩ : Cond) ∈ tbG := tbG_of (List.mem_of_getElem? (i := 634) (by decide +kernel)) (by decide +kernel)
theorem tw_635 : (.instanceMethod ⟨"EarleyChartModel", "thrown", "()I"⟩ : Cond) ∈ tbG := tbG_of (List.mem_of_getElem? (i := 635) (by decide +kernel)) (by decide +kernel)
theorem tw_636 : (.selects "EarleyChartModel" ⟨"EarleyChartModel", "thrown", "()I"⟩ ⟨"EarleyChartModel", "thrown", "()I"⟩ : Cond) ∈ tbG := tbG_of (List.mem_of_getElem? (i := 636) (by decide +kernel)) (by decide +kernel)
theorem tw_637 : (.code ⟨"EarleyChartModel", "thrown", "()I"⟩ prog_8_method_2_code 1 (some .int) : Cond) ∈ tbG := tbG_of (List.mem_of_getElem? (i := 637) (by decide +kernel)) (by decide +kernel)
theorem tw_638 : (.methodLink "EarleyChartLaw" 64 ⟨"EarleyChartModel", "addProd", "(I)I"⟩ : Cond) ∈ tbG := tbG_of (List.mem_of_getElem? (i := 638) (by decide +kernel)) (by decide +kernel)
theorem tw_639 : (.instanceMethod ⟨"EarleyChartModel", "addProd", "(I)I"⟩ : Cond) ∈ tbG := tbG_of (List.mem_of_getElem? (i := 639) (by decide +kernel)) (by decide +kernel)
theorem tw_640 : (.selects "EarleyChartModel" ⟨"EarleyChartModel", "addProd", "(I)I"⟩ ⟨"EarleyChartModel", "addProd", "(I)I"⟩ : Cond) ∈ tbG := tbG_of (List.mem_of_getElem? (i := 640) (by decide +kernel)) (by decide +kernel)
theorem tw_641 : (.code ⟨"EarleyChartModel", "addProd", "(I)I"⟩ prog_8_method_8_code 2 (some .int) : Cond) ∈ tbG := tbG_of (List.mem_of_getElem? (i := 641) (by decide +kernel)) (by decide +kernel)
theorem tw_642 : (.methodLink "EarleyChartModel" 65 ⟨"EarleyChartModel", "isVariable", "(I)Z"⟩ : Cond) ∈ tbG := tbG_of (List.mem_of_getElem? (i := 642) (by decide +kernel)) (by decide +kernel)
theorem tw_644 : (.instanceMethod ⟨"EarleyChartModel", "isVariable", "(I)Z"⟩ : Cond) ∈ tbG := tbG_of (List.mem_of_getElem? (i := 644) (by decide +kernel)) (by decide +kernel)
theorem tw_645 : (.code ⟨"EarleyChartModel", "isVariable", "(I)Z"⟩ prog_8_method_3_code 2 (some .boolean) : Cond) ∈ tbG := tbG_of (List.mem_of_getElem? (i := 645) (by decide +kernel)) (by decide +kernel)
theorem tw_646 : (.methodLink "EarleyChartModel" 69 ⟨"EarleyChartModel", "throwsBy", "(I)Z"⟩ : Cond) ∈ tbG := tbG_of (List.mem_of_getElem? (i := 646) (by decide +kernel)) (by decide +kernel)
theorem tw_648 : (.instanceMethod ⟨"EarleyChartModel", "throwsBy", "(I)Z"⟩ : Cond) ∈ tbG := tbG_of (List.mem_of_getElem? (i := 648) (by decide +kernel)) (by decide +kernel)
theorem tw_649 : (.code ⟨"EarleyChartModel", "throwsBy", "(I)Z"⟩ prog_8_method_5_code 2 (some .boolean) : Cond) ∈ tbG := tbG_of (List.mem_of_getElem? (i := 649) (by decide +kernel)) (by decide +kernel)
theorem tw_650 : (.methodLink "EarleyChartModel" 72 ⟨"EarleyChartModel", "grammarChanged", "()V"⟩ : Cond) ∈ tbG := tbG_of (List.mem_of_getElem? (i := 650) (by decide +kernel)) (by decide +kernel)
theorem tw_652 : (.instanceMethod ⟨"EarleyChartModel", "grammarChanged", "()V"⟩ : Cond) ∈ tbG := tbG_of (List.mem_of_getElem? (i := 652) (by decide +kernel)) (by decide +kernel)
theorem tw_653 : (.code ⟨"EarleyChartModel", "grammarChanged", "()V"⟩ prog_8_method_7_code 1 none : Cond) ∈ tbG := tbG_of (List.mem_of_getElem? (i := 653) (by decide +kernel)) (by decide +kernel)
theorem tw_654 : (.methodLink "EarleyChartModel" 58 ⟨"EarleyChartModel", "fill", "(I)V"⟩ : Cond) ∈ tbG := tbG_of (List.mem_of_getElem? (i := 654) (by decide +kernel)) (by decide +kernel)
theorem tw_656 : (.instanceMethod ⟨"EarleyChartModel", "fill", "(I)V"⟩ : Cond) ∈ tbG := tbG_of (List.mem_of_getElem? (i := 656) (by decide +kernel)) (by decide +kernel)
theorem tw_657 : (.code ⟨"EarleyChartModel", "fill", "(I)V"⟩ prog_8_method_14_code 5 none : Cond) ∈ tbG := tbG_of (List.mem_of_getElem? (i := 657) (by decide +kernel)) (by decide +kernel)
theorem tw_658 : (.methodLink "EarleyChartModel" 89 ⟨"EarleyChartModel", "put", "(IIII)V"⟩ : Cond) ∈ tbG := tbG_of (List.mem_of_getElem? (i := 658) (by decide +kernel)) (by decide +kernel)
theorem tw_660 : (.instanceMethod ⟨"EarleyChartModel", "put", "(IIII)V"⟩ : Cond) ∈ tbG := tbG_of (List.mem_of_getElem? (i := 660) (by decide +kernel)) (by decide +kernel)
theorem tw_661 : (.code ⟨"EarleyChartModel", "put", "(IIII)V"⟩ prog_8_method_10_code 6 none : Cond) ∈ tbG := tbG_of (List.mem_of_getElem? (i := 661) (by decide +kernel)) (by decide +kernel)
theorem tw_662 : (.methodLink "EarleyChartModel" 85 ⟨"EarleyChartModel", "behind", "(II)I"⟩ : Cond) ∈ tbG := tbG_of (List.mem_of_getElem? (i := 662) (by decide +kernel)) (by decide +kernel)
theorem tw_664 : (.instanceMethod ⟨"EarleyChartModel", "behind", "(II)I"⟩ : Cond) ∈ tbG := tbG_of (List.mem_of_getElem? (i := 664) (by decide +kernel)) (by decide +kernel)
theorem tw_665 : (.code ⟨"EarleyChartModel", "behind", "(II)I"⟩ prog_8_method_12_code 3 (some .int) : Cond) ∈ tbG := tbG_of (List.mem_of_getElem? (i := 665) (by decide +kernel)) (by decide +kernel)
theorem tw_666 : (.methodLink "EarleyChartModel" 93 ⟨"EarleyChartModel", "isIn", "(IIII)Z"⟩ : Cond) ∈ tbG := tbG_of (List.mem_of_getElem? (i := 666) (by decide +kernel)) (by decide +kernel)
theorem tw_668 : (.instanceMethod ⟨"EarleyChartModel", "isIn", "(IIII)Z"⟩ : Cond) ∈ tbG := tbG_of (List.mem_of_getElem? (i := 668) (by decide +kernel)) (by decide +kernel)
theorem tw_669 : (.code ⟨"EarleyChartModel", "isIn", "(IIII)Z"⟩ prog_8_method_11_code 5 (some .boolean) : Cond) ∈ tbG := tbG_of (List.mem_of_getElem? (i := 669) (by decide +kernel)) (by decide +kernel)
theorem tw_670 : (.methodLink "EarleyChartModel" 97 ⟨"EarleyChartModel", "bring", "(IIII)V"⟩ : Cond) ∈ tbG := tbG_of (List.mem_of_getElem? (i := 670) (by decide +kernel)) (by decide +kernel)
theorem tw_672 : (.instanceMethod ⟨"EarleyChartModel", "bring", "(IIII)V"⟩ : Cond) ∈ tbG := tbG_of (List.mem_of_getElem? (i := 672) (by decide +kernel)) (by decide +kernel)
theorem tw_673 : (.code ⟨"EarleyChartModel", "bring", "(IIII)V"⟩ prog_8_method_13_code 9 none : Cond) ∈ tbG := tbG_of (List.mem_of_getElem? (i := 673) (by decide +kernel)) (by decide +kernel)
theorem tw_674 : (.methodLink "EarleyChartLaw" 70 ⟨"EarleyChartModel", "addRhs", "(I)I"⟩ : Cond) ∈ tbG := tbG_of (List.mem_of_getElem? (i := 674) (by decide +kernel)) (by decide +kernel)
theorem tw_675 : (.instanceMethod ⟨"EarleyChartModel", "addRhs", "(I)I"⟩ : Cond) ∈ tbG := tbG_of (List.mem_of_getElem? (i := 675) (by decide +kernel)) (by decide +kernel)
theorem tw_676 : (.selects "EarleyChartModel" ⟨"EarleyChartModel", "addRhs", "(I)I"⟩ ⟨"EarleyChartModel", "addRhs", "(I)I"⟩ : Cond) ∈ tbG := tbG_of (List.mem_of_getElem? (i := 676) (by decide +kernel)) (by decide +kernel)
theorem tw_677 : (.code ⟨"EarleyChartModel", "addRhs", "(I)I"⟩ prog_8_method_9_code 4 (some .int) : Cond) ∈ tbG := tbG_of (List.mem_of_getElem? (i := 677) (by decide +kernel)) (by decide +kernel)
theorem tw_678 : (.methodLink "EarleyChartModel" 75 ⟨"EarleyChartModel", "allLengths", "()I"⟩ : Cond) ∈ tbG := tbG_of (List.mem_of_getElem? (i := 678) (by decide +kernel)) (by decide +kernel)
theorem tw_680 : (.instanceMethod ⟨"EarleyChartModel", "allLengths", "()I"⟩ : Cond) ∈ tbG := tbG_of (List.mem_of_getElem? (i := 680) (by decide +kernel)) (by decide +kernel)
theorem tw_681 : (.code ⟨"EarleyChartModel", "allLengths", "()I"⟩ prog_8_method_6_code 3 (some .int) : Cond) ∈ tbG := tbG_of (List.mem_of_getElem? (i := 681) (by decide +kernel)) (by decide +kernel)
theorem tw_682 : (.methodLink "EarleyChartModel" 79 ⟨"EarleyChartModel", "isToken", "(I)Z"⟩ : Cond) ∈ tbG := tbG_of (List.mem_of_getElem? (i := 682) (by decide +kernel)) (by decide +kernel)
theorem tw_684 : (.instanceMethod ⟨"EarleyChartModel", "isToken", "(I)Z"⟩ : Cond) ∈ tbG := tbG_of (List.mem_of_getElem? (i := 684) (by decide +kernel)) (by decide +kernel)
theorem tw_685 : (.code ⟨"EarleyChartModel", "isToken", "(I)Z"⟩ prog_8_method_4_code 2 (some .boolean) : Cond) ∈ tbG := tbG_of (List.mem_of_getElem? (i := 685) (by decide +kernel)) (by decide +kernel)
theorem tw_686 : (.methodLink "EarleyChartLaw" 73 ⟨"EarleyChartModel", "feed", "(I)I"⟩ : Cond) ∈ tbG := tbG_of (List.mem_of_getElem? (i := 686) (by decide +kernel)) (by decide +kernel)
theorem tw_687 : (.instanceMethod ⟨"EarleyChartModel", "feed", "(I)I"⟩ : Cond) ∈ tbG := tbG_of (List.mem_of_getElem? (i := 687) (by decide +kernel)) (by decide +kernel)
theorem tw_688 : (.selects "EarleyChartModel" ⟨"EarleyChartModel", "feed", "(I)I"⟩ ⟨"EarleyChartModel", "feed", "(I)I"⟩ : Cond) ∈ tbG := tbG_of (List.mem_of_getElem? (i := 688) (by decide +kernel)) (by decide +kernel)
theorem tw_689 : (.code ⟨"EarleyChartModel", "feed", "(I)I"⟩ prog_8_method_16_code 2 (some .int) : Cond) ∈ tbG := tbG_of (List.mem_of_getElem? (i := 689) (by decide +kernel)) (by decide +kernel)
theorem tw_690 : (.methodLink "EarleyChartModel" 100 ⟨"EarleyChartModel", "sizeOf", "(I)I"⟩ : Cond) ∈ tbG := tbG_of (List.mem_of_getElem? (i := 690) (by decide +kernel)) (by decide +kernel)
theorem tw_692 : (.instanceMethod ⟨"EarleyChartModel", "sizeOf", "(I)I"⟩ : Cond) ∈ tbG := tbG_of (List.mem_of_getElem? (i := 692) (by decide +kernel)) (by decide +kernel)
theorem tw_693 : (.code ⟨"EarleyChartModel", "sizeOf", "(I)I"⟩ prog_8_method_15_code 4 (some .int) : Cond) ∈ tbG := tbG_of (List.mem_of_getElem? (i := 693) (by decide +kernel)) (by decide +kernel)
theorem tw_694 : (.methodLink "EarleyChartLaw" 78 ⟨"EarleyChartModel", "alive", "()Z"⟩ : Cond) ∈ tbG := tbG_of (List.mem_of_getElem? (i := 694) (by decide +kernel)) (by decide +kernel)
theorem tw_695 : (.instanceMethod ⟨"EarleyChartModel", "alive", "()Z"⟩ : Cond) ∈ tbG := tbG_of (List.mem_of_getElem? (i := 695) (by decide +kernel)) (by decide +kernel)
theorem tw_696 : (.selects "EarleyChartModel" ⟨"EarleyChartModel", "alive", "()Z"⟩ ⟨"EarleyChartModel", "alive", "()Z"⟩ : Cond) ∈ tbG := tbG_of (List.mem_of_getElem? (i := 696) (by decide +kernel)) (by decide +kernel)
theorem tw_697 : (.code ⟨"EarleyChartModel", "alive", "()Z"⟩ prog_8_method_17_code 1 (some .boolean) : Cond) ∈ tbG := tbG_of (List.mem_of_getElem? (i := 697) (by decide +kernel)) (by decide +kernel)
theorem tw_698 : (.methodLink "EarleyChartLaw" 82 ⟨"EarleyChartModel", "accepts", "()Z"⟩ : Cond) ∈ tbG := tbG_of (List.mem_of_getElem? (i := 698) (by decide +kernel)) (by decide +kernel)
theorem tw_699 : (.instanceMethod ⟨"EarleyChartModel", "accepts", "()Z"⟩ : Cond) ∈ tbG := tbG_of (List.mem_of_getElem? (i := 699) (by decide +kernel)) (by decide +kernel)
theorem tw_700 : (.selects "EarleyChartModel" ⟨"EarleyChartModel", "accepts", "()Z"⟩ ⟨"EarleyChartModel", "accepts", "()Z"⟩ : Cond) ∈ tbG := tbG_of (List.mem_of_getElem? (i := 700) (by decide +kernel)) (by decide +kernel)
theorem tw_701 : (.code ⟨"EarleyChartModel", "accepts", "()Z"⟩ prog_8_method_19_code 1 (some .boolean) : Cond) ∈ tbG := tbG_of (List.mem_of_getElem? (i := 701) (by decide +kernel)) (by decide +kernel)
theorem tw_702 : (.methodLink "EarleyChartModel" 104 ⟨"EarleyChartModel", "isAccepted", "()Z"⟩ : Cond) ∈ tbG := tbG_of (List.mem_of_getElem? (i := 702) (by decide +kernel)) (by decide +kernel)
theorem tw_704 : (.instanceMethod ⟨"EarleyChartModel", "isAccepted", "()Z"⟩ : Cond) ∈ tbG := tbG_of (List.mem_of_getElem? (i := 704) (by decide +kernel)) (by decide +kernel)
theorem tw_705 : (.code ⟨"EarleyChartModel", "isAccepted", "()Z"⟩ prog_8_method_18_code 3 (some .boolean) : Cond) ∈ tbG := tbG_of (List.mem_of_getElem? (i := 705) (by decide +kernel)) (by decide +kernel)
theorem tw_706 : (.methodLink "EarleyChartLaw" 112 ⟨"EarleyChartModel", "steps", "(III)I"⟩ : Cond) ∈ tbG := tbG_of (List.mem_of_getElem? (i := 706) (by decide +kernel)) (by decide +kernel)
theorem tw_707 : (.instanceMethod ⟨"EarleyChartModel", "steps", "(III)I"⟩ : Cond) ∈ tbG := tbG_of (List.mem_of_getElem? (i := 707) (by decide +kernel)) (by decide +kernel)
theorem tw_708 : (.selects "EarleyChartModel" ⟨"EarleyChartModel", "steps", "(III)I"⟩ ⟨"EarleyChartModel", "steps", "(III)I"⟩ : Cond) ∈ tbG := tbG_of (List.mem_of_getElem? (i := 708) (by decide +kernel)) (by decide +kernel)
theorem tw_709 : (.code ⟨"EarleyChartModel", "steps", "(III)I"⟩ prog_8_method_23_code 6 (some .int) : Cond) ∈ tbG := tbG_of (List.mem_of_getElem? (i := 709) (by decide +kernel)) (by decide +kernel)
theorem tw_710 : (.methodLink "EarleyChartModel" 117 ⟨"EarleyChartModel", "work", "()V"⟩ : Cond) ∈ tbG := tbG_of (List.mem_of_getElem? (i := 710) (by decide +kernel)) (by decide +kernel)
theorem tw_712 : (.instanceMethod ⟨"EarleyChartModel", "work", "()V"⟩ : Cond) ∈ tbG := tbG_of (List.mem_of_getElem? (i := 712) (by decide +kernel)) (by decide +kernel)
theorem tw_713 : (.code ⟨"EarleyChartModel", "work", "()V"⟩ prog_8_method_22_code 7 none : Cond) ∈ tbG := tbG_of (List.mem_of_getElem? (i := 713) (by decide +kernel)) (by decide +kernel)
theorem tw_714 : (.constant "EarleyChartModel" 108 1000000 : Cond) ∈ tbG := tbG_of (List.mem_of_getElem? (i := 714) (by decide +kernel)) (by decide +kernel)
theorem tw_715 : (.methodLink "EarleyChartModel" 113 ⟨"EarleyChartModel", "row", "(II)V"⟩ : Cond) ∈ tbG := tbG_of (List.mem_of_getElem? (i := 715) (by decide +kernel)) (by decide +kernel)
theorem tw_717 : (.instanceMethod ⟨"EarleyChartModel", "row", "(II)V"⟩ : Cond) ∈ tbG := tbG_of (List.mem_of_getElem? (i := 717) (by decide +kernel)) (by decide +kernel)
theorem tw_718 : (.code ⟨"EarleyChartModel", "row", "(II)V"⟩ prog_8_method_21_code 8 none : Cond) ∈ tbG := tbG_of (List.mem_of_getElem? (i := 718) (by decide +kernel)) (by decide +kernel)
theorem tw_719 : (.methodLink "EarleyChartModel" 109 ⟨"EarleyChartModel", "stepsOf", "(III)I"⟩ : Cond) ∈ tbG := tbG_of (List.mem_of_getElem? (i := 719) (by decide +kernel)) (by decide +kernel)
theorem tw_721 : (.instanceMethod ⟨"EarleyChartModel", "stepsOf", "(III)I"⟩ : Cond) ∈ tbG := tbG_of (List.mem_of_getElem? (i := 721) (by decide +kernel)) (by decide +kernel)
theorem tw_722 : (.code ⟨"EarleyChartModel", "stepsOf", "(III)I"⟩ prog_8_method_20_code 4 (some .int) : Cond) ∈ tbG := tbG_of (List.mem_of_getElem? (i := 722) (by decide +kernel)) (by decide +kernel)
theorem tw_723 : (.methodLink "EarleyChartLaw" 115 ⟨"EarleyChartModel", "nullable", "(I)Z"⟩ : Cond) ∈ tbG := tbG_of (List.mem_of_getElem? (i := 723) (by decide +kernel)) (by decide +kernel)
theorem tw_724 : (.instanceMethod ⟨"EarleyChartModel", "nullable", "(I)Z"⟩ : Cond) ∈ tbG := tbG_of (List.mem_of_getElem? (i := 724) (by decide +kernel)) (by decide +kernel)
theorem tw_725 : (.selects "EarleyChartModel" ⟨"EarleyChartModel", "nullable", "(I)Z"⟩ ⟨"EarleyChartModel", "nullable", "(I)Z"⟩ : Cond) ∈ tbG := tbG_of (List.mem_of_getElem? (i := 725) (by decide +kernel)) (by decide +kernel)
theorem tw_726 : (.code ⟨"EarleyChartModel", "nullable", "(I)Z"⟩ prog_8_method_24_code 2 (some .boolean) : Cond) ∈ tbG := tbG_of (List.mem_of_getElem? (i := 726) (by decide +kernel)) (by decide +kernel)
theorem tw_727 : (.methodLink "EarleyChartLaw" 86 ⟨"EarleyChartModel", "extract", "()I"⟩ : Cond) ∈ tbG := tbG_of (List.mem_of_getElem? (i := 727) (by decide +kernel)) (by decide +kernel)
theorem tw_728 : (.instanceMethod ⟨"EarleyChartModel", "extract", "()I"⟩ : Cond) ∈ tbG := tbG_of (List.mem_of_getElem? (i := 728) (by decide +kernel)) (by decide +kernel)
theorem tw_729 : (.selects "EarleyChartModel" ⟨"EarleyChartModel", "extract", "()I"⟩ ⟨"EarleyChartModel", "extract", "()I"⟩ : Cond) ∈ tbG := tbG_of (List.mem_of_getElem? (i := 729) (by decide +kernel)) (by decide +kernel)
theorem tw_730 : (.code ⟨"EarleyChartModel", "extract", "()I"⟩ prog_8_method_26_code 10 (some .int) : Cond) ∈ tbG := tbG_of (List.mem_of_getElem? (i := 730) (by decide +kernel)) (by decide +kernel)
theorem tw_731 : (.methodLink "EarleyChartModel" 120 ⟨"EarleyChartModel", "choose", "(III)I"⟩ : Cond) ∈ tbG := tbG_of (List.mem_of_getElem? (i := 731) (by decide +kernel)) (by decide +kernel)
theorem tw_733 : (.instanceMethod ⟨"EarleyChartModel", "choose", "(III)I"⟩ : Cond) ∈ tbG := tbG_of (List.mem_of_getElem? (i := 733) (by decide +kernel)) (by decide +kernel)
theorem tw_734 : (.code ⟨"EarleyChartModel", "choose", "(III)I"⟩ prog_8_method_25_code 6 (some .int) : Cond) ∈ tbG := tbG_of (List.mem_of_getElem? (i := 734) (by decide +kernel)) (by decide +kernel)
theorem tw_735 : (.methodLink "EarleyChartLaw" 90 ⟨"EarleyChartModel", "witCount", "()I"⟩ : Cond) ∈ tbG := tbG_of (List.mem_of_getElem? (i := 735) (by decide +kernel)) (by decide +kernel)
theorem tw_736 : (.instanceMethod ⟨"EarleyChartModel", "witCount", "()I"⟩ : Cond) ∈ tbG := tbG_of (List.mem_of_getElem? (i := 736) (by decide +kernel)) (by decide +kernel)
theorem tw_737 : (.selects "EarleyChartModel" ⟨"EarleyChartModel", "witCount", "()I"⟩ ⟨"EarleyChartModel", "witCount", "()I"⟩ : Cond) ∈ tbG := tbG_of (List.mem_of_getElem? (i := 737) (by decide +kernel)) (by decide +kernel)
theorem tw_738 : (.code ⟨"EarleyChartModel", "witCount", "()I"⟩ prog_8_method_27_code 1 (some .int) : Cond) ∈ tbG := tbG_of (List.mem_of_getElem? (i := 738) (by decide +kernel)) (by decide +kernel)
theorem tw_739 : (.methodLink "EarleyChartLaw" 93 ⟨"EarleyChartModel", "wit", "(I)I"⟩ : Cond) ∈ tbG := tbG_of (List.mem_of_getElem? (i := 739) (by decide +kernel)) (by decide +kernel)
theorem tw_740 : (.instanceMethod ⟨"EarleyChartModel", "wit", "(I)I"⟩ : Cond) ∈ tbG := tbG_of (List.mem_of_getElem? (i := 740) (by decide +kernel)) (by decide +kernel)
theorem tw_741 : (.selects "EarleyChartModel" ⟨"EarleyChartModel", "wit", "(I)I"⟩ ⟨"EarleyChartModel", "wit", "(I)I"⟩ : Cond) ∈ tbG := tbG_of (List.mem_of_getElem? (i := 741) (by decide +kernel)) (by decide +kernel)
theorem tw_742 : (.code ⟨"EarleyChartModel", "wit", "(I)I"⟩ prog_8_method_28_code 2 (some .int) : Cond) ∈ tbG := tbG_of (List.mem_of_getElem? (i := 742) (by decide +kernel)) (by decide +kernel)
theorem tw_743 : (.methodLink "EarleyChartLaw" 97 ⟨"EarleyChartModel", "clear", "()I"⟩ : Cond) ∈ tbG := tbG_of (List.mem_of_getElem? (i := 743) (by decide +kernel)) (by decide +kernel)
theorem tw_744 : (.instanceMethod ⟨"EarleyChartModel", "clear", "()I"⟩ : Cond) ∈ tbG := tbG_of (List.mem_of_getElem? (i := 744) (by decide +kernel)) (by decide +kernel)
theorem tw_745 : (.selects "EarleyChartModel" ⟨"EarleyChartModel", "clear", "()I"⟩ ⟨"EarleyChartModel", "clear", "()I"⟩ : Cond) ∈ tbG := tbG_of (List.mem_of_getElem? (i := 745) (by decide +kernel)) (by decide +kernel)
theorem tw_746 : (.code ⟨"EarleyChartModel", "clear", "()I"⟩ prog_8_method_29_code 2 (some .int) : Cond) ∈ tbG := tbG_of (List.mem_of_getElem? (i := 746) (by decide +kernel)) (by decide +kernel)
theorem tw_747 : (.methodLink "EarleyChartLaw" 101 ⟨"EarleyChartModel", "erase", "()I"⟩ : Cond) ∈ tbG := tbG_of (List.mem_of_getElem? (i := 747) (by decide +kernel)) (by decide +kernel)
theorem tw_748 : (.instanceMethod ⟨"EarleyChartModel", "erase", "()I"⟩ : Cond) ∈ tbG := tbG_of (List.mem_of_getElem? (i := 748) (by decide +kernel)) (by decide +kernel)
theorem tw_749 : (.selects "EarleyChartModel" ⟨"EarleyChartModel", "erase", "()I"⟩ ⟨"EarleyChartModel", "erase", "()I"⟩ : Cond) ∈ tbG := tbG_of (List.mem_of_getElem? (i := 749) (by decide +kernel)) (by decide +kernel)
theorem tw_750 : (.code ⟨"EarleyChartModel", "erase", "()I"⟩ prog_8_method_30_code 2 (some .int) : Cond) ∈ tbG := tbG_of (List.mem_of_getElem? (i := 750) (by decide +kernel)) (by decide +kernel)
theorem tw_751 : (.methodLink "EarleyChartLaw" 104 ⟨"EarleyChartModel", "items", "(I)I"⟩ : Cond) ∈ tbG := tbG_of (List.mem_of_getElem? (i := 751) (by decide +kernel)) (by decide +kernel)
theorem tw_752 : (.instanceMethod ⟨"EarleyChartModel", "items", "(I)I"⟩ : Cond) ∈ tbG := tbG_of (List.mem_of_getElem? (i := 752) (by decide +kernel)) (by decide +kernel)
theorem tw_753 : (.selects "EarleyChartModel" ⟨"EarleyChartModel", "items", "(I)I"⟩ ⟨"EarleyChartModel", "items", "(I)I"⟩ : Cond) ∈ tbG := tbG_of (List.mem_of_getElem? (i := 753) (by decide +kernel)) (by decide +kernel)
theorem tw_754 : (.code ⟨"EarleyChartModel", "items", "(I)I"⟩ prog_8_method_31_code 2 (some .int) : Cond) ∈ tbG := tbG_of (List.mem_of_getElem? (i := 754) (by decide +kernel)) (by decide +kernel)
theorem tw_755 : (.methodLink "EarleyChartLaw" 108 ⟨"EarleyChartModel", "item", "(II)I"⟩ : Cond) ∈ tbG := tbG_of (List.mem_of_getElem? (i := 755) (by decide +kernel)) (by decide +kernel)
theorem tw_756 : (.instanceMethod ⟨"EarleyChartModel", "item", "(II)I"⟩ : Cond) ∈ tbG := tbG_of (List.mem_of_getElem? (i := 756) (by decide +kernel)) (by decide +kernel)
theorem tw_757 : (.selects "EarleyChartModel" ⟨"EarleyChartModel", "item", "(II)I"⟩ ⟨"EarleyChartModel", "item", "(II)I"⟩ : Cond) ∈ tbG := tbG_of (List.mem_of_getElem? (i := 757) (by decide +kernel)) (by decide +kernel)
theorem tw_758 : (.code ⟨"EarleyChartModel", "item", "(II)I"⟩ prog_8_method_32_code 6 (some .int) : Cond) ∈ tbG := tbG_of (List.mem_of_getElem? (i := 758) (by decide +kernel)) (by decide +kernel)
theorem tw_759 : (.methodLink "EarleyChartLaw" 119 ⟨"EarleyChartModel", "fed", "()I"⟩ : Cond) ∈ tbG := tbG_of (List.mem_of_getElem? (i := 759) (by decide +kernel)) (by decide +kernel)
theorem tw_760 : (.instanceMethod ⟨"EarleyChartModel", "fed", "()I"⟩ : Cond) ∈ tbG := tbG_of (List.mem_of_getElem? (i := 760) (by decide +kernel)) (by decide +kernel)
theorem tw_761 : (.selects "EarleyChartModel" ⟨"EarleyChartModel", "fed", "()I"⟩ ⟨"EarleyChartModel", "fed", "()I"⟩ : Cond) ∈ tbG := tbG_of (List.mem_of_getElem? (i := 761) (by decide +kernel)) (by decide +kernel)
theorem tw_762 : (.code ⟨"EarleyChartModel", "fed", "()I"⟩ prog_8_method_33_code 1 (some .int) : Cond) ∈ tbG := tbG_of (List.mem_of_getElem? (i := 762) (by decide +kernel)) (by decide +kernel)
theorem tw_763 : (.arrayClass .long : Cond) ∈ tbG := tbG_of (List.mem_of_getElem? (i := 763) (by decide +kernel)) (by decide +kernel)
theorem ts_0 : (.selects "EarleyChart" ⟨"EarleyChart", "grammarChanged", "()V"⟩ ⟨"EarleyChart", "grammarChanged", "()V"⟩ : Cond) ∈ tbG := tbG_sel (by decide +kernel) (by decide +kernel)
theorem ts_1 : (.selects "EarleyChart$ItemSets" ⟨"EarleyChart$ItemSets", "predict", "(II)V"⟩ ⟨"EarleyChart$ItemSets", "predict", "(II)V"⟩ : Cond) ∈ tbG := tbG_sel (by decide +kernel) (by decide +kernel)
theorem ts_2 : (.selects "EarleyChart$ItemSets" ⟨"EarleyChart$ItemSets", "close", "(I)V"⟩ ⟨"EarleyChart$ItemSets", "close", "(I)V"⟩ : Cond) ∈ tbG := tbG_sel (by decide +kernel) (by decide +kernel)
theorem ts_3 : (.selects "EarleyChart$ItemSets" ⟨"EarleyChart$ItemSets", "gatherWholeOrigins", "(I)V"⟩ ⟨"EarleyChart$ItemSets", "gatherWholeOrigins", "(I)V"⟩ : Cond) ∈ tbG := tbG_sel (by decide +kernel) (by decide +kernel)
theorem ts_4 : (.selects "EarleyChart$ItemSets" ⟨"EarleyChart$ItemSets", "grow", "(I)V"⟩ ⟨"EarleyChart$ItemSets", "grow", "(I)V"⟩ : Cond) ∈ tbG := tbG_sel (by decide +kernel) (by decide +kernel)
theorem ts_5 : (.selects "EarleyChart$ItemSets" ⟨"EarleyChart$ItemSets", "originsIn", "(II)I"⟩ ⟨"EarleyChart$ItemSets", "originsIn", "(II)I"⟩ : Cond) ∈ tbG := tbG_sel (by decide +kernel) (by decide +kernel)
theorem ts_6 : (.selects "EarleyChart$StepTable" ⟨"EarleyChart$StepTable", "fillStretch", "(II)V"⟩ ⟨"EarleyChart$StepTable", "fillStretch", "(II)V"⟩ : Cond) ∈ tbG := tbG_sel (by decide +kernel) (by decide +kernel)
theorem ts_7 : (.selects "EarleyChart$StepTable" ⟨"EarleyChart$StepTable", "lower", "(II)Z"⟩ ⟨"EarleyChart$StepTable", "lower", "(II)Z"⟩ : Cond) ∈ tbG := tbG_sel (by decide +kernel) (by decide +kernel)
theorem ts_8 : (.selects "EarleyChart$StepTable" ⟨"EarleyChart$StepTable", "leastOfRow", "(III)I"⟩ ⟨"EarleyChart$StepTable", "leastOfRow", "(III)I"⟩ : Cond) ∈ tbG := tbG_sel (by decide +kernel) (by decide +kernel)
theorem ts_9 : (.selects "java/lang/Throwable" ⟨"java/lang/Throwable", "fillInStackTrace", "(I)Ljava/lang/Throwable;"⟩ ⟨"java/lang/Throwable", "fillInStackTrace", "(I)Ljava/lang/Throwable;"⟩ : Cond) ∈ tbG := tbG_sel (by decide +kernel) (by decide +kernel)
theorem ts_10 : (.selects "EarleyChart" ⟨"EarleyChart", "hasVariable", "(I)Z"⟩ ⟨"EarleyChart", "hasVariable", "(I)Z"⟩ : Cond) ∈ tbG := tbG_sel (by decide +kernel) (by decide +kernel)
theorem ts_11 : (.selects "EarleyChart$Grammar" ⟨"EarleyChart$Grammar", "openSlot", "()V"⟩ ⟨"EarleyChart$Grammar", "openSlot", "()V"⟩ : Cond) ∈ tbG := tbG_sel (by decide +kernel) (by decide +kernel)
theorem ts_12 : (.selects "EarleyChart" ⟨"EarleyChart", "hasToken", "(I)Z"⟩ ⟨"EarleyChart", "hasToken", "(I)Z"⟩ : Cond) ∈ tbG := tbG_sel (by decide +kernel) (by decide +kernel)
theorem ts_13 : (.selects "EarleyChart$Witness" ⟨"EarleyChart$Witness", "open", "(III)V"⟩ ⟨"EarleyChart$Witness", "open", "(III)V"⟩ : Cond) ∈ tbG := tbG_sel (by decide +kernel) (by decide +kernel)
theorem ts_14 : (.selects "EarleyChart$Witness" ⟨"EarleyChart$Witness", "lowestProduction", "(III)I"⟩ ⟨"EarleyChart$Witness", "lowestProduction", "(III)I"⟩ : Cond) ∈ tbG := tbG_sel (by decide +kernel) (by decide +kernel)
theorem ts_15 : (.selects "EarleyChart$Witness" ⟨"EarleyChart$Witness", "goOn", "()V"⟩ ⟨"EarleyChart$Witness", "goOn", "()V"⟩ : Cond) ∈ tbG := tbG_sel (by decide +kernel) (by decide +kernel)
theorem ts_16 : (.selects "EarleyChart$Witness" ⟨"EarleyChart$Witness", "shortestEnd", "(III)I"⟩ ⟨"EarleyChart$Witness", "shortestEnd", "(III)I"⟩ : Cond) ∈ tbG := tbG_sel (by decide +kernel) (by decide +kernel)
theorem ts_17 : (.selects "EarleyChart" ⟨"EarleyChart", "hasSet", "(I)Z"⟩ ⟨"EarleyChart", "hasSet", "(I)Z"⟩ : Cond) ∈ tbG := tbG_sel (by decide +kernel) (by decide +kernel)
theorem ts_18 : (.selects "EarleyChartModel" ⟨"EarleyChartModel", "isVariable", "(I)Z"⟩ ⟨"EarleyChartModel", "isVariable", "(I)Z"⟩ : Cond) ∈ tbG := tbG_sel (by decide +kernel) (by decide +kernel)
theorem ts_19 : (.selects "EarleyChartModel" ⟨"EarleyChartModel", "throwsBy", "(I)Z"⟩ ⟨"EarleyChartModel", "throwsBy", "(I)Z"⟩ : Cond) ∈ tbG := tbG_sel (by decide +kernel) (by decide +kernel)
theorem ts_20 : (.selects "EarleyChartModel" ⟨"EarleyChartModel", "grammarChanged", "()V"⟩ ⟨"EarleyChartModel", "grammarChanged", "()V"⟩ : Cond) ∈ tbG := tbG_sel (by decide +kernel) (by decide +kernel)
theorem ts_21 : (.selects "EarleyChartModel" ⟨"EarleyChartModel", "fill", "(I)V"⟩ ⟨"EarleyChartModel", "fill", "(I)V"⟩ : Cond) ∈ tbG := tbG_sel (by decide +kernel) (by decide +kernel)
theorem ts_22 : (.selects "EarleyChartModel" ⟨"EarleyChartModel", "put", "(IIII)V"⟩ ⟨"EarleyChartModel", "put", "(IIII)V"⟩ : Cond) ∈ tbG := tbG_sel (by decide +kernel) (by decide +kernel)
theorem ts_23 : (.selects "EarleyChartModel" ⟨"EarleyChartModel", "behind", "(II)I"⟩ ⟨"EarleyChartModel", "behind", "(II)I"⟩ : Cond) ∈ tbG := tbG_sel (by decide +kernel) (by decide +kernel)
theorem ts_24 : (.selects "EarleyChartModel" ⟨"EarleyChartModel", "isIn", "(IIII)Z"⟩ ⟨"EarleyChartModel", "isIn", "(IIII)Z"⟩ : Cond) ∈ tbG := tbG_sel (by decide +kernel) (by decide +kernel)
theorem ts_25 : (.selects "EarleyChartModel" ⟨"EarleyChartModel", "bring", "(IIII)V"⟩ ⟨"EarleyChartModel", "bring", "(IIII)V"⟩ : Cond) ∈ tbG := tbG_sel (by decide +kernel) (by decide +kernel)
theorem ts_26 : (.selects "EarleyChartModel" ⟨"EarleyChartModel", "allLengths", "()I"⟩ ⟨"EarleyChartModel", "allLengths", "()I"⟩ : Cond) ∈ tbG := tbG_sel (by decide +kernel) (by decide +kernel)
theorem ts_27 : (.selects "EarleyChartModel" ⟨"EarleyChartModel", "isToken", "(I)Z"⟩ ⟨"EarleyChartModel", "isToken", "(I)Z"⟩ : Cond) ∈ tbG := tbG_sel (by decide +kernel) (by decide +kernel)
theorem ts_28 : (.selects "EarleyChartModel" ⟨"EarleyChartModel", "sizeOf", "(I)I"⟩ ⟨"EarleyChartModel", "sizeOf", "(I)I"⟩ : Cond) ∈ tbG := tbG_sel (by decide +kernel) (by decide +kernel)
theorem ts_29 : (.selects "EarleyChartModel" ⟨"EarleyChartModel", "isAccepted", "()Z"⟩ ⟨"EarleyChartModel", "isAccepted", "()Z"⟩ : Cond) ∈ tbG := tbG_sel (by decide +kernel) (by decide +kernel)
theorem ts_30 : (.selects "EarleyChartModel" ⟨"EarleyChartModel", "work", "()V"⟩ ⟨"EarleyChartModel", "work", "()V"⟩ : Cond) ∈ tbG := tbG_sel (by decide +kernel) (by decide +kernel)
theorem ts_31 : (.selects "EarleyChartModel" ⟨"EarleyChartModel", "row", "(II)V"⟩ ⟨"EarleyChartModel", "row", "(II)V"⟩ : Cond) ∈ tbG := tbG_sel (by decide +kernel) (by decide +kernel)
theorem ts_32 : (.selects "EarleyChartModel" ⟨"EarleyChartModel", "stepsOf", "(III)I"⟩ ⟨"EarleyChartModel", "stepsOf", "(III)I"⟩ : Cond) ∈ tbG := tbG_sel (by decide +kernel) (by decide +kernel)
theorem ts_33 : (.selects "EarleyChartModel" ⟨"EarleyChartModel", "choose", "(III)I"⟩ ⟨"EarleyChartModel", "choose", "(III)I"⟩ : Cond) ∈ tbG := tbG_sel (by decide +kernel) (by decide +kernel)
end
section
theorem dE_init_0 : decode bE_init 0 = .ok (.aload_n 0, 1) := by decide +kernel
theorem dE_init_1 : decode bE_init 1 = .ok (.invokespecial 3, 3) := by decide +kernel
theorem dE_init_4 : decode bE_init 4 = .ok (.aload_n 0, 1) := by decide +kernel
theorem dE_init_5 : decode bE_init 5 = .ok (.iload_n 1, 1) := by decide +kernel
theorem dE_init_6 : decode bE_init 6 = .ok (.iconst 1, 1) := by decide +kernel
theorem dE_init_7 : decode bE_init 7 = .ok (.if_icmp .lt 13, 3) := by decide +kernel
theorem dE_init_10 : decode bE_init 10 = .ok (.iload_n 1, 1) := by decide +kernel
theorem dE_init_11 : decode bE_init 11 = .ok (.bipush 6, 2) := by decide +kernel
theorem dE_init_13 : decode bE_init 13 = .ok (.if_icmp .gt 7, 3) := by decide +kernel
theorem dE_init_16 : decode bE_init 16 = .ok (.iload_n 1, 1) := by decide +kernel
theorem dE_init_17 : decode bE_init 17 = .ok (.goto 4, 3) := by decide +kernel
theorem dE_init_20 : decode bE_init 20 = .ok (.iconst 4, 1) := by decide +kernel
theorem dE_init_21 : decode bE_init 21 = .ok (.putfield 9, 3) := by decide +kernel
theorem dE_init_24 : decode bE_init 24 = .ok (.aload_n 0, 1) := by decide +kernel
theorem dE_init_25 : decode bE_init 25 = .ok (.iload_n 2, 1) := by decide +kernel
theorem dE_init_26 : decode bE_init 26 = .ok (.iconst 1, 1) := by decide +kernel
theorem dE_init_27 : decode bE_init 27 = .ok (.if_icmp .lt 13, 3) := by decide +kernel
theorem dE_init_30 : decode bE_init 30 = .ok (.iload_n 2, 1) := by decide +kernel
theorem dE_init_31 : decode bE_init 31 = .ok (.bipush 6, 2) := by decide +kernel
theorem dE_init_33 : decode bE_init 33 = .ok (.if_icmp .gt 7, 3) := by decide +kernel
theorem dE_init_36 : decode bE_init 36 = .ok (.iload_n 2, 1) := by decide +kernel
theorem dE_init_37 : decode bE_init 37 = .ok (.goto 4, 3) := by decide +kernel
theorem dE_init_40 : decode bE_init 40 = .ok (.iconst 4, 1) := by decide +kernel
theorem dE_init_41 : decode bE_init 41 = .ok (.putfield 13, 3) := by decide +kernel
theorem dE_init_44 : decode bE_init 44 = .ok (.new 16, 3) := by decide +kernel
theorem dE_init_47 : decode bE_init 47 = .ok (.dup, 1) := by decide +kernel
theorem dE_init_48 : decode bE_init 48 = .ok (.invokespecial 18, 3) := by decide +kernel
theorem dE_init_51 : decode bE_init 51 = .ok (.astore_n 3, 1) := by decide +kernel
theorem dE_init_52 : decode bE_init 52 = .ok (.new 19, 3) := by decide +kernel
theorem dE_init_55 : decode bE_init 55 = .ok (.dup, 1) := by decide +kernel
theorem dE_init_56 : decode bE_init 56 = .ok (.invokespecial 21, 3) := by decide +kernel
theorem dE_init_59 : decode bE_init 59 = .ok (.astore 4, 2) := by decide +kernel
theorem dE_init_61 : decode bE_init 61 = .ok (.new 22, 3) := by decide +kernel
theorem dE_init_64 : decode bE_init 64 = .ok (.dup, 1) := by decide +kernel
theorem dE_init_65 : decode bE_init 65 = .ok (.aload_n 3, 1) := by decide +kernel
theorem dE_init_66 : decode bE_init 66 = .ok (.aload 4, 2) := by decide +kernel
theorem dE_init_68 : decode bE_init 68 = .ok (.invokespecial 24, 3) := by decide +kernel
theorem dE_init_71 : decode bE_init 71 = .ok (.astore 5, 2) := by decide +kernel
theorem dE_init_73 : decode bE_init 73 = .ok (.aload_n 0, 1) := by decide +kernel
theorem dE_init_74 : decode bE_init 74 = .ok (.aload_n 3, 1) := by decide +kernel
theorem dE_init_75 : decode bE_init 75 = .ok (.putfield 27, 3) := by decide +kernel
theorem dE_init_78 : decode bE_init 78 = .ok (.aload_n 0, 1) := by decide +kernel
theorem dE_init_79 : decode bE_init 79 = .ok (.aload 4, 2) := by decide +kernel
theorem dE_init_81 : decode bE_init 81 = .ok (.putfield 31, 3) := by decide +kernel
theorem dE_init_84 : decode bE_init 84 = .ok (.aload_n 0, 1) := by decide +kernel
theorem dE_init_85 : decode bE_init 85 = .ok (.new 35, 3) := by decide +kernel
theorem dE_init_88 : decode bE_init 88 = .ok (.dup, 1) := by decide +kernel
theorem dE_init_89 : decode bE_init 89 = .ok (.aload_n 3, 1) := by decide +kernel
theorem dE_init_90 : decode bE_init 90 = .ok (.invokespecial 37, 3) := by decide +kernel
theorem dE_init_93 : decode bE_init 93 = .ok (.putfield 40, 3) := by decide +kernel
theorem dE_init_96 : decode bE_init 96 = .ok (.aload_n 0, 1) := by decide +kernel
theorem dE_init_97 : decode bE_init 97 = .ok (.aload 5, 2) := by decide +kernel
theorem dE_init_99 : decode bE_init 99 = .ok (.putfield 44, 3) := by decide +kernel
theorem dE_init_102 : decode bE_init 102 = .ok (.aload_n 0, 1) := by decide +kernel
theorem dE_init_103 : decode bE_init 103 = .ok (.new 48, 3) := by decide +kernel
theorem dE_init_106 : decode bE_init 106 = .ok (.dup, 1) := by decide +kernel
theorem dE_init_107 : decode bE_init 107 = .ok (.aload_n 3, 1) := by decide +kernel
theorem dE_init_108 : decode bE_init 108 = .ok (.aload 5, 2) := by decide +kernel
theorem dE_init_110 : decode bE_init 110 = .ok (.invokespecial 50, 3) := by decide +kernel
theorem dE_init_113 : decode bE_init 113 = .ok (.putfield 53, 3) := by decide +kernel
theorem dE_init_116 : decode bE_init 116 = .ok (.aload_n 0, 1) := by decide +kernel
theorem dE_init_117 : decode bE_init 117 = .ok (.invokevirtual 57, 3) := by decide +kernel
theorem dE_init_120 : decode bE_init 120 = .ok (.return_, 1) := by decide +kernel
theorem dE_grammarChanged_0 : decode bE_grammarChanged 0 = .ok (.aload_n 0, 1) := by decide +kernel
theorem dE_grammarChanged_1 : decode bE_grammarChanged 1 = .ok (.getfield 53, 3) := by decide +kernel
theorem dE_grammarChanged_4 : decode bE_grammarChanged 4 = .ok (.invokevirtual 108, 3) := by decide +kernel
theorem dE_grammarChanged_7 : decode bE_grammarChanged 7 = .ok (.aload_n 0, 1) := by decide +kernel
theorem dE_grammarChanged_8 : decode bE_grammarChanged 8 = .ok (.getfield 40, 3) := by decide +kernel
theorem dE_grammarChanged_11 : decode bE_grammarChanged 11 = .ok (.invokevirtual 169, 3) := by decide +kernel
theorem dE_grammarChanged_14 : decode bE_grammarChanged 14 = .ok (.aload_n 0, 1) := by decide +kernel
theorem dE_grammarChanged_15 : decode bE_grammarChanged 15 = .ok (.getfield 44, 3) := by decide +kernel
theorem dE_grammarChanged_18 : decode bE_grammarChanged 18 = .ok (.iconst 0, 1) := by decide +kernel
theorem dE_grammarChanged_19 : decode bE_grammarChanged 19 = .ok (.invokevirtual 118, 3) := by decide +kernel
theorem dE_grammarChanged_22 : decode bE_grammarChanged 22 = .ok (.return_, 1) := by decide +kernel
theorem dE_isVariable_0 : decode bE_isVariable 0 = .ok (.iload_n 0, 1) := by decide +kernel
theorem dE_isVariable_1 : decode bE_isVariable 1 = .ok (.ifCond .lt 13, 3) := by decide +kernel
theorem dE_isVariable_4 : decode bE_isVariable 4 = .ok (.iload_n 0, 1) := by decide +kernel
theorem dE_isVariable_5 : decode bE_isVariable 5 = .ok (.bipush 6, 2) := by decide +kernel
theorem dE_isVariable_7 : decode bE_isVariable 7 = .ok (.if_icmp .ge 7, 3) := by decide +kernel
theorem dE_isVariable_10 : decode bE_isVariable 10 = .ok (.iconst 1, 1) := by decide +kernel
theorem dE_isVariable_11 : decode bE_isVariable 11 = .ok (.goto 4, 3) := by decide +kernel
theorem dE_isVariable_14 : decode bE_isVariable 14 = .ok (.iconst 0, 1) := by decide +kernel
theorem dE_isVariable_15 : decode bE_isVariable 15 = .ok (.ireturn, 1) := by decide +kernel
theorem dE_alive_0 : decode bE_alive 0 = .ok (.aload_n 0, 1) := by decide +kernel
theorem dE_alive_1 : decode bE_alive 1 = .ok (.getfield 40, 3) := by decide +kernel
theorem dE_alive_4 : decode bE_alive 4 = .ok (.aload_n 0, 1) := by decide +kernel
theorem dE_alive_5 : decode bE_alive 5 = .ok (.getfield 31, 3) := by decide +kernel
theorem dE_alive_8 : decode bE_alive 8 = .ok (.getfield 60, 3) := by decide +kernel
theorem dE_alive_11 : decode bE_alive 11 = .ok (.invokevirtual 121, 3) := by decide +kernel
theorem dE_alive_14 : decode bE_alive 14 = .ok (.ifCond .le 7, 3) := by decide +kernel
theorem dE_alive_17 : decode bE_alive 17 = .ok (.iconst 1, 1) := by decide +kernel
theorem dE_alive_18 : decode bE_alive 18 = .ok (.goto 4, 3) := by decide +kernel
theorem dE_alive_21 : decode bE_alive 21 = .ok (.iconst 0, 1) := by decide +kernel
theorem dE_alive_22 : decode bE_alive 22 = .ok (.ireturn, 1) := by decide +kernel
theorem dE_accepts_0 : decode bE_accepts 0 = .ok (.aload_n 0, 1) := by decide +kernel
theorem dE_accepts_1 : decode bE_accepts 1 = .ok (.getfield 40, 3) := by decide +kernel
theorem dE_accepts_4 : decode bE_accepts 4 = .ok (.aload_n 0, 1) := by decide +kernel
theorem dE_accepts_5 : decode bE_accepts 5 = .ok (.getfield 31, 3) := by decide +kernel
theorem dE_accepts_8 : decode bE_accepts 8 = .ok (.getfield 60, 3) := by decide +kernel
theorem dE_accepts_11 : decode bE_accepts 11 = .ok (.invokevirtual 125, 3) := by decide +kernel
theorem dE_accepts_14 : decode bE_accepts 14 = .ok (.ireturn, 1) := by decide +kernel
theorem dE_witCount_0 : decode bE_witCount 0 = .ok (.aload_n 0, 1) := by decide +kernel
theorem dE_witCount_1 : decode bE_witCount 1 = .ok (.getfield 53, 3) := by decide +kernel
theorem dE_witCount_4 : decode bE_witCount 4 = .ok (.getfield 139, 3) := by decide +kernel
theorem dE_witCount_7 : decode bE_witCount 7 = .ok (.ireturn, 1) := by decide +kernel
theorem dE_clear_0 : decode bE_clear 0 = .ok (.aload_n 0, 1) := by decide +kernel
theorem dE_clear_1 : decode bE_clear 1 = .ok (.getfield 31, 3) := by decide +kernel
theorem dE_clear_4 : decode bE_clear 4 = .ok (.getfield 60, 3) := by decide +kernel
theorem dE_clear_7 : decode bE_clear 7 = .ok (.istore_n 1, 1) := by decide +kernel
theorem dE_clear_8 : decode bE_clear 8 = .ok (.aload_n 0, 1) := by decide +kernel
theorem dE_clear_9 : decode bE_clear 9 = .ok (.getfield 31, 3) := by decide +kernel
theorem dE_clear_12 : decode bE_clear 12 = .ok (.iconst 0, 1) := by decide +kernel
theorem dE_clear_13 : decode bE_clear 13 = .ok (.putfield 60, 3) := by decide +kernel
theorem dE_clear_16 : decode bE_clear 16 = .ok (.aload_n 0, 1) := by decide +kernel
theorem dE_clear_17 : decode bE_clear 17 = .ok (.getfield 53, 3) := by decide +kernel
theorem dE_clear_20 : decode bE_clear 20 = .ok (.invokevirtual 108, 3) := by decide +kernel
theorem dE_clear_23 : decode bE_clear 23 = .ok (.iload_n 1, 1) := by decide +kernel
theorem dE_clear_24 : decode bE_clear 24 = .ok (.ireturn, 1) := by decide +kernel
theorem dE_erase_0 : decode bE_erase 0 = .ok (.aload_n 0, 1) := by decide +kernel
theorem dE_erase_1 : decode bE_erase 1 = .ok (.getfield 27, 3) := by decide +kernel
theorem dE_erase_4 : decode bE_erase 4 = .ok (.getfield 63, 3) := by decide +kernel
theorem dE_erase_7 : decode bE_erase 7 = .ok (.istore_n 1, 1) := by decide +kernel
theorem dE_erase_8 : decode bE_erase 8 = .ok (.aload_n 0, 1) := by decide +kernel
theorem dE_erase_9 : decode bE_erase 9 = .ok (.getfield 31, 3) := by decide +kernel
theorem dE_erase_12 : decode bE_erase 12 = .ok (.iconst 0, 1) := by decide +kernel
theorem dE_erase_13 : decode bE_erase 13 = .ok (.putfield 60, 3) := by decide +kernel
theorem dE_erase_16 : decode bE_erase 16 = .ok (.aload_n 0, 1) := by decide +kernel
theorem dE_erase_17 : decode bE_erase 17 = .ok (.getfield 27, 3) := by decide +kernel
theorem dE_erase_20 : decode bE_erase 20 = .ok (.invokevirtual 151, 3) := by decide +kernel
theorem dE_erase_23 : decode bE_erase 23 = .ok (.aload_n 0, 1) := by decide +kernel
theorem dE_erase_24 : decode bE_erase 24 = .ok (.invokevirtual 57, 3) := by decide +kernel
theorem dE_erase_27 : decode bE_erase 27 = .ok (.iload_n 1, 1) := by decide +kernel
theorem dE_erase_28 : decode bE_erase 28 = .ok (.ireturn, 1) := by decide +kernel
theorem dE_fed_0 : decode bE_fed 0 = .ok (.aload_n 0, 1) := by decide +kernel
theorem dE_fed_1 : decode bE_fed 1 = .ok (.getfield 31, 3) := by decide +kernel
theorem dE_fed_4 : decode bE_fed 4 = .ok (.getfield 60, 3) := by decide +kernel
theorem dE_fed_7 : decode bE_fed 7 = .ok (.ireturn, 1) := by decide +kernel
theorem dE_addProd_0 : decode bE_addProd 0 = .ok (.aload_n 0, 1) := by decide +kernel
theorem dE_addProd_1 : decode bE_addProd 1 = .ok (.getfield 31, 3) := by decide +kernel
theorem dE_addProd_4 : decode bE_addProd 4 = .ok (.getfield 60, 3) := by decide +kernel
theorem dE_addProd_7 : decode bE_addProd 7 = .ok (.ifCond .gt 15, 3) := by decide +kernel
theorem dE_addProd_10 : decode bE_addProd 10 = .ok (.aload_n 0, 1) := by decide +kernel
theorem dE_addProd_11 : decode bE_addProd 11 = .ok (.getfield 27, 3) := by decide +kernel
theorem dE_addProd_14 : decode bE_addProd 14 = .ok (.getfield 63, 3) := by decide +kernel
theorem dE_addProd_17 : decode bE_addProd 17 = .ok (.bipush 8, 2) := by decide +kernel
theorem dE_addProd_19 : decode bE_addProd 19 = .ok (.if_icmp .lt 13, 3) := by decide +kernel
theorem dE_addProd_22 : decode bE_addProd 22 = .ok (.new 66, 3) := by decide +kernel
theorem dE_addProd_25 : decode bE_addProd 25 = .ok (.dup, 1) := by decide +kernel
theorem dE_addProd_26 : decode bE_addProd 26 = .ok (.ldc 68, 2) := by decide +kernel
theorem dE_addProd_28 : decode bE_addProd 28 = .ok (.invokespecial 70, 3) := by decide +kernel
theorem dE_addProd_31 : decode bE_addProd 31 = .ok (.athrow, 1) := by decide +kernel
theorem dE_addProd_32 : decode bE_addProd 32 = .ok (.aload_n 0, 1) := by decide +kernel
theorem dE_addProd_33 : decode bE_addProd 33 = .ok (.iload_n 1, 1) := by decide +kernel
theorem dE_addProd_34 : decode bE_addProd 34 = .ok (.invokevirtual 73, 3) := by decide +kernel
theorem dE_addProd_37 : decode bE_addProd 37 = .ok (.ifCond .ne 13, 3) := by decide +kernel
theorem dE_addProd_40 : decode bE_addProd 40 = .ok (.new 77, 3) := by decide +kernel
theorem dE_addProd_43 : decode bE_addProd 43 = .ok (.dup, 1) := by decide +kernel
theorem dE_addProd_44 : decode bE_addProd 44 = .ok (.ldc 79, 2) := by decide +kernel
theorem dE_addProd_46 : decode bE_addProd 46 = .ok (.invokespecial 81, 3) := by decide +kernel
theorem dE_addProd_49 : decode bE_addProd 49 = .ok (.athrow, 1) := by decide +kernel
theorem dE_addProd_50 : decode bE_addProd 50 = .ok (.aload_n 0, 1) := by decide +kernel
theorem dE_addProd_51 : decode bE_addProd 51 = .ok (.getfield 27, 3) := by decide +kernel
theorem dE_addProd_54 : decode bE_addProd 54 = .ok (.iload_n 1, 1) := by decide +kernel
theorem dE_addProd_55 : decode bE_addProd 55 = .ok (.invokevirtual 82, 3) := by decide +kernel
theorem dE_addProd_58 : decode bE_addProd 58 = .ok (.aload_n 0, 1) := by decide +kernel
theorem dE_addProd_59 : decode bE_addProd 59 = .ok (.invokevirtual 57, 3) := by decide +kernel
theorem dE_addProd_62 : decode bE_addProd 62 = .ok (.aload_n 0, 1) := by decide +kernel
theorem dE_addProd_63 : decode bE_addProd 63 = .ok (.getfield 27, 3) := by decide +kernel
theorem dE_addProd_66 : decode bE_addProd 66 = .ok (.getfield 63, 3) := by decide +kernel
theorem dE_addProd_69 : decode bE_addProd 69 = .ok (.iconst 1, 1) := by decide +kernel
theorem dE_addProd_70 : decode bE_addProd 70 = .ok (.isub, 1) := by decide +kernel
theorem dE_addProd_71 : decode bE_addProd 71 = .ok (.ireturn, 1) := by decide +kernel
theorem dE_hasVariable_0 : decode bE_hasVariable 0 = .ok (.iload_n 1, 1) := by decide +kernel
theorem dE_hasVariable_1 : decode bE_hasVariable 1 = .ok (.ifCond .lt 15, 3) := by decide +kernel
theorem dE_hasVariable_4 : decode bE_hasVariable 4 = .ok (.iload_n 1, 1) := by decide +kernel
theorem dE_hasVariable_5 : decode bE_hasVariable 5 = .ok (.aload_n 0, 1) := by decide +kernel
theorem dE_hasVariable_6 : decode bE_hasVariable 6 = .ok (.getfield 9, 3) := by decide +kernel
theorem dE_hasVariable_9 : decode bE_hasVariable 9 = .ok (.if_icmp .ge 7, 3) := by decide +kernel
theorem dE_hasVariable_12 : decode bE_hasVariable 12 = .ok (.iconst 1, 1) := by decide +kernel
theorem dE_hasVariable_13 : decode bE_hasVariable 13 = .ok (.goto 4, 3) := by decide +kernel
theorem dE_hasVariable_16 : decode bE_hasVariable 16 = .ok (.iconst 0, 1) := by decide +kernel
theorem dE_hasVariable_17 : decode bE_hasVariable 17 = .ok (.ireturn, 1) := by decide +kernel
theorem dE_addRhs_0 : decode bE_addRhs 0 = .ok (.aload_n 0, 1) := by decide +kernel
theorem dE_addRhs_1 : decode bE_addRhs 1 = .ok (.getfield 31, 3) := by decide +kernel
theorem dE_addRhs_4 : decode bE_addRhs 4 = .ok (.getfield 60, 3) := by decide +kernel
theorem dE_addRhs_7 : decode bE_addRhs 7 = .ok (.ifCond .gt 13, 3) := by decide +kernel
theorem dE_addRhs_10 : decode bE_addRhs 10 = .ok (.aload_n 0, 1) := by decide +kernel
theorem dE_addRhs_11 : decode bE_addRhs 11 = .ok (.getfield 27, 3) := by decide +kernel
theorem dE_addRhs_14 : decode bE_addRhs 14 = .ok (.invokevirtual 86, 3) := by decide +kernel
theorem dE_addRhs_17 : decode bE_addRhs 17 = .ok (.ifCond .ne 13, 3) := by decide +kernel
theorem dE_addRhs_20 : decode bE_addRhs 20 = .ok (.new 66, 3) := by decide +kernel
theorem dE_addRhs_23 : decode bE_addRhs 23 = .ok (.dup, 1) := by decide +kernel
theorem dE_addRhs_24 : decode bE_addRhs 24 = .ok (.ldc 90, 2) := by decide +kernel
theorem dE_addRhs_26 : decode bE_addRhs 26 = .ok (.invokespecial 70, 3) := by decide +kernel
theorem dE_addRhs_29 : decode bE_addRhs 29 = .ok (.athrow, 1) := by decide +kernel
theorem dE_addRhs_30 : decode bE_addRhs 30 = .ok (.aload_n 0, 1) := by decide +kernel
theorem dE_addRhs_31 : decode bE_addRhs 31 = .ok (.iload_n 1, 1) := by decide +kernel
theorem dE_addRhs_32 : decode bE_addRhs 32 = .ok (.invokevirtual 73, 3) := by decide +kernel
theorem dE_addRhs_35 : decode bE_addRhs 35 = .ok (.ifCond .ne 21, 3) := by decide +kernel
theorem dE_addRhs_38 : decode bE_addRhs 38 = .ok (.aload_n 0, 1) := by decide +kernel
theorem dE_addRhs_39 : decode bE_addRhs 39 = .ok (.iload_n 1, 1) := by decide +kernel
theorem dE_addRhs_40 : decode bE_addRhs 40 = .ok (.invokevirtual 92, 3) := by decide +kernel
theorem dE_addRhs_43 : decode bE_addRhs 43 = .ok (.ifCond .ne 13, 3) := by decide +kernel
theorem dE_addRhs_46 : decode bE_addRhs 46 = .ok (.new 77, 3) := by decide +kernel
theorem dE_addRhs_49 : decode bE_addRhs 49 = .ok (.dup, 1) := by decide +kernel
theorem dE_addRhs_50 : decode bE_addRhs 50 = .ok (.ldc 95, 2) := by decide +kernel
theorem dE_addRhs_52 : decode bE_addRhs 52 = .ok (.invokespecial 81, 3) := by decide +kernel
theorem dE_addRhs_55 : decode bE_addRhs 55 = .ok (.athrow, 1) := by decide +kernel
theorem dE_addRhs_56 : decode bE_addRhs 56 = .ok (.aload_n 0, 1) := by decide +kernel
theorem dE_addRhs_57 : decode bE_addRhs 57 = .ok (.getfield 27, 3) := by decide +kernel
theorem dE_addRhs_60 : decode bE_addRhs 60 = .ok (.iload_n 1, 1) := by decide +kernel
theorem dE_addRhs_61 : decode bE_addRhs 61 = .ok (.invokevirtual 97, 3) := by decide +kernel
theorem dE_addRhs_64 : decode bE_addRhs 64 = .ok (.aload_n 0, 1) := by decide +kernel
theorem dE_addRhs_65 : decode bE_addRhs 65 = .ok (.invokevirtual 57, 3) := by decide +kernel
theorem dE_addRhs_68 : decode bE_addRhs 68 = .ok (.aload_n 0, 1) := by decide +kernel
theorem dE_addRhs_69 : decode bE_addRhs 69 = .ok (.getfield 27, 3) := by decide +kernel
theorem dE_addRhs_72 : decode bE_addRhs 72 = .ok (.invokevirtual 100, 3) := by decide +kernel
theorem dE_addRhs_75 : decode bE_addRhs 75 = .ok (.ireturn, 1) := by decide +kernel
theorem dE_hasToken_0 : decode bE_hasToken 0 = .ok (.iload_n 1, 1) := by decide +kernel
theorem dE_hasToken_1 : decode bE_hasToken 1 = .ok (.bipush 100, 2) := by decide +kernel
theorem dE_hasToken_3 : decode bE_hasToken 3 = .ok (.if_icmp .lt 18, 3) := by decide +kernel
theorem dE_hasToken_6 : decode bE_hasToken 6 = .ok (.iload_n 1, 1) := by decide +kernel
theorem dE_hasToken_7 : decode bE_hasToken 7 = .ok (.bipush 100, 2) := by decide +kernel
theorem dE_hasToken_9 : decode bE_hasToken 9 = .ok (.aload_n 0, 1) := by decide +kernel
theorem dE_hasToken_10 : decode bE_hasToken 10 = .ok (.getfield 13, 3) := by decide +kernel
theorem dE_hasToken_13 : decode bE_hasToken 13 = .ok (.iadd, 1) := by decide +kernel
theorem dE_hasToken_14 : decode bE_hasToken 14 = .ok (.if_icmp .ge 7, 3) := by decide +kernel
theorem dE_hasToken_17 : decode bE_hasToken 17 = .ok (.iconst 1, 1) := by decide +kernel
theorem dE_hasToken_18 : decode bE_hasToken 18 = .ok (.goto 4, 3) := by decide +kernel
theorem dE_hasToken_21 : decode bE_hasToken 21 = .ok (.iconst 0, 1) := by decide +kernel
theorem dE_hasToken_22 : decode bE_hasToken 22 = .ok (.ireturn, 1) := by decide +kernel
theorem dE_feed_0 : decode bE_feed 0 = .ok (.aload_n 0, 1) := by decide +kernel
theorem dE_feed_1 : decode bE_feed 1 = .ok (.getfield 27, 3) := by decide +kernel
theorem dE_feed_4 : decode bE_feed 4 = .ok (.getfield 63, 3) := by decide +kernel
theorem dE_feed_7 : decode bE_feed 7 = .ok (.ifCond .eq 15, 3) := by decide +kernel
theorem dE_feed_10 : decode bE_feed 10 = .ok (.aload_n 0, 1) := by decide +kernel
theorem dE_feed_11 : decode bE_feed 11 = .ok (.getfield 31, 3) := by decide +kernel
theorem dE_feed_14 : decode bE_feed 14 = .ok (.getfield 60, 3) := by decide +kernel
theorem dE_feed_17 : decode bE_feed 17 = .ok (.bipush 8, 2) := by decide +kernel
theorem dE_feed_19 : decode bE_feed 19 = .ok (.if_icmp .lt 13, 3) := by decide +kernel
theorem dE_feed_22 : decode bE_feed 22 = .ok (.new 66, 3) := by decide +kernel
theorem dE_feed_25 : decode bE_feed 25 = .ok (.dup, 1) := by decide +kernel
theorem dE_feed_26 : decode bE_feed 26 = .ok (.ldc 104, 2) := by decide +kernel
theorem dE_feed_28 : decode bE_feed 28 = .ok (.invokespecial 70, 3) := by decide +kernel
theorem dE_feed_31 : decode bE_feed 31 = .ok (.athrow, 1) := by decide +kernel
theorem dE_feed_32 : decode bE_feed 32 = .ok (.aload_n 0, 1) := by decide +kernel
theorem dE_feed_33 : decode bE_feed 33 = .ok (.iload_n 1, 1) := by decide +kernel
theorem dE_feed_34 : decode bE_feed 34 = .ok (.invokevirtual 92, 3) := by decide +kernel
theorem dE_feed_37 : decode bE_feed 37 = .ok (.ifCond .ne 13, 3) := by decide +kernel
theorem dE_feed_40 : decode bE_feed 40 = .ok (.new 77, 3) := by decide +kernel
theorem dE_feed_43 : decode bE_feed 43 = .ok (.dup, 1) := by decide +kernel
theorem dE_feed_44 : decode bE_feed 44 = .ok (.ldc 106, 2) := by decide +kernel
theorem dE_feed_46 : decode bE_feed 46 = .ok (.invokespecial 81, 3) := by decide +kernel
theorem dE_feed_49 : decode bE_feed 49 = .ok (.athrow, 1) := by decide +kernel
theorem dE_feed_50 : decode bE_feed 50 = .ok (.aload_n 0, 1) := by decide +kernel
theorem dE_feed_51 : decode bE_feed 51 = .ok (.getfield 53, 3) := by decide +kernel
theorem dE_feed_54 : decode bE_feed 54 = .ok (.invokevirtual 108, 3) := by decide +kernel
theorem dE_feed_57 : decode bE_feed 57 = .ok (.aload_n 0, 1) := by decide +kernel
theorem dE_feed_58 : decode bE_feed 58 = .ok (.getfield 31, 3) := by decide +kernel
theorem dE_feed_61 : decode bE_feed 61 = .ok (.iload_n 1, 1) := by decide +kernel
theorem dE_feed_62 : decode bE_feed 62 = .ok (.invokevirtual 111, 3) := by decide +kernel
theorem dE_feed_65 : decode bE_feed 65 = .ok (.aload_n 0, 1) := by decide +kernel
theorem dE_feed_66 : decode bE_feed 66 = .ok (.getfield 40, 3) := by decide +kernel
theorem dE_feed_69 : decode bE_feed 69 = .ok (.aload_n 0, 1) := by decide +kernel
theorem dE_feed_70 : decode bE_feed 70 = .ok (.getfield 31, 3) := by decide +kernel
theorem dE_feed_73 : decode bE_feed 73 = .ok (.getfield 60, 3) := by decide +kernel
theorem dE_feed_76 : decode bE_feed 76 = .ok (.iload_n 1, 1) := by decide +kernel
theorem dE_feed_77 : decode bE_feed 77 = .ok (.invokevirtual 114, 3) := by decide +kernel
theorem dE_feed_80 : decode bE_feed 80 = .ok (.aload_n 0, 1) := by decide +kernel
theorem dE_feed_81 : decode bE_feed 81 = .ok (.getfield 44, 3) := by decide +kernel
theorem dE_feed_84 : decode bE_feed 84 = .ok (.aload_n 0, 1) := by decide +kernel
theorem dE_feed_85 : decode bE_feed 85 = .ok (.getfield 31, 3) := by decide +kernel
theorem dE_feed_88 : decode bE_feed 88 = .ok (.getfield 60, 3) := by decide +kernel
theorem dE_feed_91 : decode bE_feed 91 = .ok (.invokevirtual 118, 3) := by decide +kernel
theorem dE_feed_94 : decode bE_feed 94 = .ok (.aload_n 0, 1) := by decide +kernel
theorem dE_feed_95 : decode bE_feed 95 = .ok (.getfield 40, 3) := by decide +kernel
theorem dE_feed_98 : decode bE_feed 98 = .ok (.aload_n 0, 1) := by decide +kernel
theorem dE_feed_99 : decode bE_feed 99 = .ok (.getfield 31, 3) := by decide +kernel
theorem dE_feed_102 : decode bE_feed 102 = .ok (.getfield 60, 3) := by decide +kernel
theorem dE_feed_105 : decode bE_feed 105 = .ok (.invokevirtual 121, 3) := by decide +kernel
theorem dE_feed_108 : decode bE_feed 108 = .ok (.ireturn, 1) := by decide +kernel
theorem dE_extract_0 : decode bE_extract 0 = .ok (.aload_n 0, 1) := by decide +kernel
theorem dE_extract_1 : decode bE_extract 1 = .ok (.getfield 40, 3) := by decide +kernel
theorem dE_extract_4 : decode bE_extract 4 = .ok (.aload_n 0, 1) := by decide +kernel
theorem dE_extract_5 : decode bE_extract 5 = .ok (.getfield 31, 3) := by decide +kernel
theorem dE_extract_8 : decode bE_extract 8 = .ok (.getfield 60, 3) := by decide +kernel
theorem dE_extract_11 : decode bE_extract 11 = .ok (.invokevirtual 125, 3) := by decide +kernel
theorem dE_extract_14 : decode bE_extract 14 = .ok (.ifCond .ne 13, 3) := by decide +kernel
theorem dE_extract_17 : decode bE_extract 17 = .ok (.new 128, 3) := by decide +kernel
theorem dE_extract_20 : decode bE_extract 20 = .ok (.dup, 1) := by decide +kernel
theorem dE_extract_21 : decode bE_extract 21 = .ok (.ldc 130, 2) := by decide +kernel
theorem dE_extract_23 : decode bE_extract 23 = .ok (.invokespecial 132, 3) := by decide +kernel
theorem dE_extract_26 : decode bE_extract 26 = .ok (.athrow, 1) := by decide +kernel
theorem dE_extract_27 : decode bE_extract 27 = .ok (.aload_n 0, 1) := by decide +kernel
theorem dE_extract_28 : decode bE_extract 28 = .ok (.getfield 53, 3) := by decide +kernel
theorem dE_extract_31 : decode bE_extract 31 = .ok (.aload_n 0, 1) := by decide +kernel
theorem dE_extract_32 : decode bE_extract 32 = .ok (.getfield 27, 3) := by decide +kernel
theorem dE_extract_35 : decode bE_extract 35 = .ok (.invokevirtual 133, 3) := by decide +kernel
theorem dE_extract_38 : decode bE_extract 38 = .ok (.aload_n 0, 1) := by decide +kernel
theorem dE_extract_39 : decode bE_extract 39 = .ok (.getfield 31, 3) := by decide +kernel
theorem dE_extract_42 : decode bE_extract 42 = .ok (.getfield 60, 3) := by decide +kernel
theorem dE_extract_45 : decode bE_extract 45 = .ok (.invokevirtual 136, 3) := by decide +kernel
theorem dE_extract_48 : decode bE_extract 48 = .ok (.aload_n 0, 1) := by decide +kernel
theorem dE_extract_49 : decode bE_extract 49 = .ok (.getfield 53, 3) := by decide +kernel
theorem dE_extract_52 : decode bE_extract 52 = .ok (.getfield 139, 3) := by decide +kernel
theorem dE_extract_55 : decode bE_extract 55 = .ok (.ireturn, 1) := by decide +kernel
theorem dE_wit_0 : decode bE_wit 0 = .ok (.iload_n 1, 1) := by decide +kernel
theorem dE_wit_1 : decode bE_wit 1 = .ok (.ifCond .lt 14, 3) := by decide +kernel
theorem dE_wit_4 : decode bE_wit 4 = .ok (.iload_n 1, 1) := by decide +kernel
theorem dE_wit_5 : decode bE_wit 5 = .ok (.aload_n 0, 1) := by decide +kernel
theorem dE_wit_6 : decode bE_wit 6 = .ok (.getfield 53, 3) := by decide +kernel
theorem dE_wit_9 : decode bE_wit 9 = .ok (.getfield 139, 3) := by decide +kernel
theorem dE_wit_12 : decode bE_wit 12 = .ok (.if_icmp .lt 13, 3) := by decide +kernel
theorem dE_wit_15 : decode bE_wit 15 = .ok (.new 142, 3) := by decide +kernel
theorem dE_wit_18 : decode bE_wit 18 = .ok (.dup, 1) := by decide +kernel
theorem dE_wit_19 : decode bE_wit 19 = .ok (.ldc 144, 2) := by decide +kernel
theorem dE_wit_21 : decode bE_wit 21 = .ok (.invokespecial 146, 3) := by decide +kernel
theorem dE_wit_24 : decode bE_wit 24 = .ok (.athrow, 1) := by decide +kernel
theorem dE_wit_25 : decode bE_wit 25 = .ok (.aload_n 0, 1) := by decide +kernel
theorem dE_wit_26 : decode bE_wit 26 = .ok (.getfield 53, 3) := by decide +kernel
theorem dE_wit_29 : decode bE_wit 29 = .ok (.getfield 147, 3) := by decide +kernel
theorem dE_wit_32 : decode bE_wit 32 = .ok (.iload_n 1, 1) := by decide +kernel
theorem dE_wit_33 : decode bE_wit 33 = .ok (.iaload, 1) := by decide +kernel
theorem dE_wit_34 : decode bE_wit 34 = .ok (.ireturn, 1) := by decide +kernel
theorem dE_items_0 : decode bE_items 0 = .ok (.aload_n 0, 1) := by decide +kernel
theorem dE_items_1 : decode bE_items 1 = .ok (.iload_n 1, 1) := by decide +kernel
theorem dE_items_2 : decode bE_items 2 = .ok (.invokevirtual 152, 3) := by decide +kernel
theorem dE_items_5 : decode bE_items 5 = .ok (.ifCond .ne 13, 3) := by decide +kernel
theorem dE_items_8 : decode bE_items 8 = .ok (.new 142, 3) := by decide +kernel
theorem dE_items_11 : decode bE_items 11 = .ok (.dup, 1) := by decide +kernel
theorem dE_items_12 : decode bE_items 12 = .ok (.ldc 155, 2) := by decide +kernel
theorem dE_items_14 : decode bE_items 14 = .ok (.invokespecial 146, 3) := by decide +kernel
theorem dE_items_17 : decode bE_items 17 = .ok (.athrow, 1) := by decide +kernel
theorem dE_items_18 : decode bE_items 18 = .ok (.aload_n 0, 1) := by decide +kernel
theorem dE_items_19 : decode bE_items 19 = .ok (.getfield 40, 3) := by decide +kernel
theorem dE_items_22 : decode bE_items 22 = .ok (.iload_n 1, 1) := by decide +kernel
theorem dE_items_23 : decode bE_items 23 = .ok (.invokevirtual 121, 3) := by decide +kernel
theorem dE_items_26 : decode bE_items 26 = .ok (.ireturn, 1) := by decide +kernel
theorem dE_hasSet_0 : decode bE_hasSet 0 = .ok (.iload_n 1, 1) := by decide +kernel
theorem dE_hasSet_1 : decode bE_hasSet 1 = .ok (.ifCond .lt 18, 3) := by decide +kernel
theorem dE_hasSet_4 : decode bE_hasSet 4 = .ok (.iload_n 1, 1) := by decide +kernel
theorem dE_hasSet_5 : decode bE_hasSet 5 = .ok (.aload_n 0, 1) := by decide +kernel
theorem dE_hasSet_6 : decode bE_hasSet 6 = .ok (.getfield 31, 3) := by decide +kernel
theorem dE_hasSet_9 : decode bE_hasSet 9 = .ok (.getfield 60, 3) := by decide +kernel
theorem dE_hasSet_12 : decode bE_hasSet 12 = .ok (.if_icmp .gt 7, 3) := by decide +kernel
theorem dE_hasSet_15 : decode bE_hasSet 15 = .ok (.iconst 1, 1) := by decide +kernel
theorem dE_hasSet_16 : decode bE_hasSet 16 = .ok (.goto 4, 3) := by decide +kernel
theorem dE_hasSet_19 : decode bE_hasSet 19 = .ok (.iconst 0, 1) := by decide +kernel
theorem dE_hasSet_20 : decode bE_hasSet 20 = .ok (.ireturn, 1) := by decide +kernel
theorem dE_item_0 : decode bE_item 0 = .ok (.aload_n 0, 1) := by decide +kernel
theorem dE_item_1 : decode bE_item 1 = .ok (.iload_n 1, 1) := by decide +kernel
theorem dE_item_2 : decode bE_item 2 = .ok (.invokevirtual 152, 3) := by decide +kernel
theorem dE_item_5 : decode bE_item 5 = .ok (.ifCond .eq 19, 3) := by decide +kernel
theorem dE_item_8 : decode bE_item 8 = .ok (.iload_n 2, 1) := by decide +kernel
theorem dE_item_9 : decode bE_item 9 = .ok (.ifCond .lt 15, 3) := by decide +kernel
theorem dE_item_12 : decode bE_item 12 = .ok (.iload_n 2, 1) := by decide +kernel
theorem dE_item_13 : decode bE_item 13 = .ok (.aload_n 0, 1) := by decide +kernel
theorem dE_item_14 : decode bE_item 14 = .ok (.getfield 40, 3) := by decide +kernel
theorem dE_item_17 : decode bE_item 17 = .ok (.iload_n 1, 1) := by decide +kernel
theorem dE_item_18 : decode bE_item 18 = .ok (.invokevirtual 121, 3) := by decide +kernel
theorem dE_item_21 : decode bE_item 21 = .ok (.if_icmp .lt 13, 3) := by decide +kernel
theorem dE_item_24 : decode bE_item 24 = .ok (.new 142, 3) := by decide +kernel
theorem dE_item_27 : decode bE_item 27 = .ok (.dup, 1) := by decide +kernel
theorem dE_item_28 : decode bE_item 28 = .ok (.ldc 157, 2) := by decide +kernel
theorem dE_item_30 : decode bE_item 30 = .ok (.invokespecial 146, 3) := by decide +kernel
theorem dE_item_33 : decode bE_item 33 = .ok (.athrow, 1) := by decide +kernel
theorem dE_item_34 : decode bE_item 34 = .ok (.aload_n 0, 1) := by decide +kernel
theorem dE_item_35 : decode bE_item 35 = .ok (.getfield 40, 3) := by decide +kernel
theorem dE_item_38 : decode bE_item 38 = .ok (.iload_n 1, 1) := by decide +kernel
theorem dE_item_39 : decode bE_item 39 = .ok (.iload_n 2, 1) := by decide +kernel
theorem dE_item_40 : decode bE_item 40 = .ok (.invokevirtual 159, 3) := by decide +kernel
theorem dE_item_43 : decode bE_item 43 = .ok (.ireturn, 1) := by decide +kernel
theorem dE_steps_0 : decode bE_steps 0 = .ok (.aload_n 0, 1) := by decide +kernel
theorem dE_steps_1 : decode bE_steps 1 = .ok (.iload_n 1, 1) := by decide +kernel
theorem dE_steps_2 : decode bE_steps 2 = .ok (.invokevirtual 73, 3) := by decide +kernel
theorem dE_steps_5 : decode bE_steps 5 = .ok (.ifCond .ne 21, 3) := by decide +kernel
theorem dE_steps_8 : decode bE_steps 8 = .ok (.aload_n 0, 1) := by decide +kernel
theorem dE_steps_9 : decode bE_steps 9 = .ok (.iload_n 1, 1) := by decide +kernel
theorem dE_steps_10 : decode bE_steps 10 = .ok (.invokevirtual 92, 3) := by decide +kernel
theorem dE_steps_13 : decode bE_steps 13 = .ok (.ifCond .ne 13, 3) := by decide +kernel
theorem dE_steps_16 : decode bE_steps 16 = .ok (.new 77, 3) := by decide +kernel
theorem dE_steps_19 : decode bE_steps 19 = .ok (.dup, 1) := by decide +kernel
theorem dE_steps_20 : decode bE_steps 20 = .ok (.ldc 95, 2) := by decide +kernel
theorem dE_steps_22 : decode bE_steps 22 = .ok (.invokespecial 81, 3) := by decide +kernel
theorem dE_steps_25 : decode bE_steps 25 = .ok (.athrow, 1) := by decide +kernel
theorem dE_steps_26 : decode bE_steps 26 = .ok (.iload_n 2, 1) := by decide +kernel
theorem dE_steps_27 : decode bE_steps 27 = .ok (.ifCond .lt 19, 3) := by decide +kernel
theorem dE_steps_30 : decode bE_steps 30 = .ok (.iload_n 2, 1) := by decide +kernel
theorem dE_steps_31 : decode bE_steps 31 = .ok (.iload_n 3, 1) := by decide +kernel
theorem dE_steps_32 : decode bE_steps 32 = .ok (.if_icmp .gt 14, 3) := by decide +kernel
theorem dE_steps_35 : decode bE_steps 35 = .ok (.iload_n 3, 1) := by decide +kernel
theorem dE_steps_36 : decode bE_steps 36 = .ok (.aload_n 0, 1) := by decide +kernel
theorem dE_steps_37 : decode bE_steps 37 = .ok (.getfield 31, 3) := by decide +kernel
theorem dE_steps_40 : decode bE_steps 40 = .ok (.getfield 60, 3) := by decide +kernel
theorem dE_steps_43 : decode bE_steps 43 = .ok (.if_icmp .le 13, 3) := by decide +kernel
theorem dE_steps_46 : decode bE_steps 46 = .ok (.new 142, 3) := by decide +kernel
theorem dE_steps_49 : decode bE_steps 49 = .ok (.dup, 1) := by decide +kernel
theorem dE_steps_50 : decode bE_steps 50 = .ok (.ldc 163, 2) := by decide +kernel
theorem dE_steps_52 : decode bE_steps 52 = .ok (.invokespecial 146, 3) := by decide +kernel
theorem dE_steps_55 : decode bE_steps 55 = .ok (.athrow, 1) := by decide +kernel
theorem dE_steps_56 : decode bE_steps 56 = .ok (.aload_n 0, 1) := by decide +kernel
theorem dE_steps_57 : decode bE_steps 57 = .ok (.getfield 44, 3) := by decide +kernel
theorem dE_steps_60 : decode bE_steps 60 = .ok (.iload_n 1, 1) := by decide +kernel
theorem dE_steps_61 : decode bE_steps 61 = .ok (.iload_n 2, 1) := by decide +kernel
theorem dE_steps_62 : decode bE_steps 62 = .ok (.iload_n 3, 1) := by decide +kernel
theorem dE_steps_63 : decode bE_steps 63 = .ok (.invokevirtual 165, 3) := by decide +kernel
theorem dE_steps_66 : decode bE_steps 66 = .ok (.ireturn, 1) := by decide +kernel
theorem dE_nullable_0 : decode bE_nullable 0 = .ok (.aload_n 0, 1) := by decide +kernel
theorem dE_nullable_1 : decode bE_nullable 1 = .ok (.iload_n 1, 1) := by decide +kernel
theorem dE_nullable_2 : decode bE_nullable 2 = .ok (.invokevirtual 73, 3) := by decide +kernel
theorem dE_nullable_5 : decode bE_nullable 5 = .ok (.ifCond .ne 13, 3) := by decide +kernel
theorem dE_nullable_8 : decode bE_nullable 8 = .ok (.new 77, 3) := by decide +kernel
theorem dE_nullable_11 : decode bE_nullable 11 = .ok (.dup, 1) := by decide +kernel
theorem dE_nullable_12 : decode bE_nullable 12 = .ok (.ldc 79, 2) := by decide +kernel
theorem dE_nullable_14 : decode bE_nullable 14 = .ok (.invokespecial 81, 3) := by decide +kernel
theorem dE_nullable_17 : decode bE_nullable 17 = .ok (.athrow, 1) := by decide +kernel
theorem dE_nullable_18 : decode bE_nullable 18 = .ok (.aload_n 0, 1) := by decide +kernel
theorem dE_nullable_19 : decode bE_nullable 19 = .ok (.getfield 44, 3) := by decide +kernel
theorem dE_nullable_22 : decode bE_nullable 22 = .ok (.iload_n 1, 1) := by decide +kernel
theorem dE_nullable_23 : decode bE_nullable 23 = .ok (.iconst 0, 1) := by decide +kernel
theorem dE_nullable_24 : decode bE_nullable 24 = .ok (.iconst 0, 1) := by decide +kernel
theorem dE_nullable_25 : decode bE_nullable 25 = .ok (.invokevirtual 165, 3) := by decide +kernel
theorem dE_nullable_28 : decode bE_nullable 28 = .ok (.iconst (-1), 1) := by decide +kernel
theorem dE_nullable_29 : decode bE_nullable 29 = .ok (.if_icmp .eq 7, 3) := by decide +kernel
theorem dE_nullable_32 : decode bE_nullable 32 = .ok (.iconst 1, 1) := by decide +kernel
theorem dE_nullable_33 : decode bE_nullable 33 = .ok (.goto 4, 3) := by decide +kernel
theorem dE_nullable_36 : decode bE_nullable 36 = .ok (.iconst 0, 1) := by decide +kernel
theorem dE_nullable_37 : decode bE_nullable 37 = .ok (.ireturn, 1) := by decide +kernel
theorem dG_init_0 : decode bG_init 0 = .ok (.aload_n 0, 1) := by decide +kernel
theorem dG_init_1 : decode bG_init 1 = .ok (.invokespecial 3, 3) := by decide +kernel
theorem dG_init_4 : decode bG_init 4 = .ok (.aload_n 0, 1) := by decide +kernel
theorem dG_init_5 : decode bG_init 5 = .ok (.bipush 8, 2) := by decide +kernel
theorem dG_init_7 : decode bG_init 7 = .ok (.newarray .int, 2) := by decide +kernel
theorem dG_init_9 : decode bG_init 9 = .ok (.putfield 9, 3) := by decide +kernel
theorem dG_init_12 : decode bG_init 12 = .ok (.aload_n 0, 1) := by decide +kernel
theorem dG_init_13 : decode bG_init 13 = .ok (.bipush 8, 2) := by decide +kernel
theorem dG_init_15 : decode bG_init 15 = .ok (.newarray .int, 2) := by decide +kernel
theorem dG_init_17 : decode bG_init 17 = .ok (.putfield 15, 3) := by decide +kernel
theorem dG_init_20 : decode bG_init 20 = .ok (.aload_n 0, 1) := by decide +kernel
theorem dG_init_21 : decode bG_init 21 = .ok (.bipush 24, 2) := by decide +kernel
theorem dG_init_23 : decode bG_init 23 = .ok (.newarray .int, 2) := by decide +kernel
theorem dG_init_25 : decode bG_init 25 = .ok (.putfield 18, 3) := by decide +kernel
theorem dG_init_28 : decode bG_init 28 = .ok (.aload_n 0, 1) := by decide +kernel
theorem dG_init_29 : decode bG_init 29 = .ok (.bipush 24, 2) := by decide +kernel
theorem dG_init_31 : decode bG_init 31 = .ok (.newarray .int, 2) := by decide +kernel
theorem dG_init_33 : decode bG_init 33 = .ok (.putfield 21, 3) := by decide +kernel
theorem dG_init_36 : decode bG_init 36 = .ok (.aload_n 0, 1) := by decide +kernel
theorem dG_init_37 : decode bG_init 37 = .ok (.iconst 0, 1) := by decide +kernel
theorem dG_init_38 : decode bG_init 38 = .ok (.putfield 24, 3) := by decide +kernel
theorem dG_init_41 : decode bG_init 41 = .ok (.aload_n 0, 1) := by decide +kernel
theorem dG_init_42 : decode bG_init 42 = .ok (.iconst 0, 1) := by decide +kernel
theorem dG_init_43 : decode bG_init 43 = .ok (.putfield 28, 3) := by decide +kernel
theorem dG_init_46 : decode bG_init 46 = .ok (.return_, 1) := by decide +kernel
theorem dG_start_0 : decode bG_start 0 = .ok (.aload_n 0, 1) := by decide +kernel
theorem dG_start_1 : decode bG_start 1 = .ok (.getfield 9, 3) := by decide +kernel
theorem dG_start_4 : decode bG_start 4 = .ok (.iconst 0, 1) := by decide +kernel
theorem dG_start_5 : decode bG_start 5 = .ok (.iaload, 1) := by decide +kernel
theorem dG_start_6 : decode bG_start 6 = .ok (.ireturn, 1) := by decide +kernel
theorem dG_leftSideAt_0 : decode bG_leftSideAt 0 = .ok (.aload_n 0, 1) := by decide +kernel
theorem dG_leftSideAt_1 : decode bG_leftSideAt 1 = .ok (.getfield 9, 3) := by decide +kernel
theorem dG_leftSideAt_4 : decode bG_leftSideAt 4 = .ok (.aload_n 0, 1) := by decide +kernel
theorem dG_leftSideAt_5 : decode bG_leftSideAt 5 = .ok (.getfield 21, 3) := by decide +kernel
theorem dG_leftSideAt_8 : decode bG_leftSideAt 8 = .ok (.iload_n 1, 1) := by decide +kernel
theorem dG_leftSideAt_9 : decode bG_leftSideAt 9 = .ok (.iaload, 1) := by decide +kernel
theorem dG_leftSideAt_10 : decode bG_leftSideAt 10 = .ok (.iaload, 1) := by decide +kernel
theorem dG_leftSideAt_11 : decode bG_leftSideAt 11 = .ok (.ireturn, 1) := by decide +kernel
theorem dG_dotAt_0 : decode bG_dotAt 0 = .ok (.iload_n 1, 1) := by decide +kernel
theorem dG_dotAt_1 : decode bG_dotAt 1 = .ok (.aload_n 0, 1) := by decide +kernel
theorem dG_dotAt_2 : decode bG_dotAt 2 = .ok (.getfield 15, 3) := by decide +kernel
theorem dG_dotAt_5 : decode bG_dotAt 5 = .ok (.aload_n 0, 1) := by decide +kernel
theorem dG_dotAt_6 : decode bG_dotAt 6 = .ok (.getfield 21, 3) := by decide +kernel
theorem dG_dotAt_9 : decode bG_dotAt 9 = .ok (.iload_n 1, 1) := by decide +kernel
theorem dG_dotAt_10 : decode bG_dotAt 10 = .ok (.iaload, 1) := by decide +kernel
theorem dG_dotAt_11 : decode bG_dotAt 11 = .ok (.iaload, 1) := by decide +kernel
theorem dG_dotAt_12 : decode bG_dotAt 12 = .ok (.isub, 1) := by decide +kernel
theorem dG_dotAt_13 : decode bG_dotAt 13 = .ok (.ireturn, 1) := by decide +kernel
theorem dG_forget_0 : decode bG_forget 0 = .ok (.aload_n 0, 1) := by decide +kernel
theorem dG_forget_1 : decode bG_forget 1 = .ok (.iconst 0, 1) := by decide +kernel
theorem dG_forget_2 : decode bG_forget 2 = .ok (.putfield 24, 3) := by decide +kernel
theorem dG_forget_5 : decode bG_forget 5 = .ok (.aload_n 0, 1) := by decide +kernel
theorem dG_forget_6 : decode bG_forget 6 = .ok (.iconst 0, 1) := by decide +kernel
theorem dG_forget_7 : decode bG_forget 7 = .ok (.putfield 28, 3) := by decide +kernel
theorem dG_forget_10 : decode bG_forget 10 = .ok (.return_, 1) := by decide +kernel
theorem dG_openProduction_0 : decode bG_openProduction 0 = .ok (.aload_n 0, 1) := by decide +kernel
theorem dG_openProduction_1 : decode bG_openProduction 1 = .ok (.getfield 24, 3) := by decide +kernel
theorem dG_openProduction_4 : decode bG_openProduction 4 = .ok (.bipush 8, 2) := by decide +kernel
theorem dG_openProduction_6 : decode bG_openProduction 6 = .ok (.if_icmp .ge 40, 3) := by decide +kernel
theorem dG_openProduction_9 : decode bG_openProduction 9 = .ok (.aload_n 0, 1) := by decide +kernel
theorem dG_openProduction_10 : decode bG_openProduction 10 = .ok (.getfield 9, 3) := by decide +kernel
theorem dG_openProduction_13 : decode bG_openProduction 13 = .ok (.aload_n 0, 1) := by decide +kernel
theorem dG_openProduction_14 : decode bG_openProduction 14 = .ok (.getfield 24, 3) := by decide +kernel
theorem dG_openProduction_17 : decode bG_openProduction 17 = .ok (.iload_n 1, 1) := by decide +kernel
theorem dG_openProduction_18 : decode bG_openProduction 18 = .ok (.iastore, 1) := by decide +kernel
theorem dG_openProduction_19 : decode bG_openProduction 19 = .ok (.aload_n 0, 1) := by decide +kernel
theorem dG_openProduction_20 : decode bG_openProduction 20 = .ok (.getfield 15, 3) := by decide +kernel
theorem dG_openProduction_23 : decode bG_openProduction 23 = .ok (.aload_n 0, 1) := by decide +kernel
theorem dG_openProduction_24 : decode bG_openProduction 24 = .ok (.getfield 24, 3) := by decide +kernel
theorem dG_openProduction_27 : decode bG_openProduction 27 = .ok (.aload_n 0, 1) := by decide +kernel
theorem dG_openProduction_28 : decode bG_openProduction 28 = .ok (.getfield 28, 3) := by decide +kernel
theorem dG_openProduction_31 : decode bG_openProduction 31 = .ok (.iastore, 1) := by decide +kernel
theorem dG_openProduction_32 : decode bG_openProduction 32 = .ok (.aload_n 0, 1) := by decide +kernel
theorem dG_openProduction_33 : decode bG_openProduction 33 = .ok (.dup, 1) := by decide +kernel
theorem dG_openProduction_34 : decode bG_openProduction 34 = .ok (.getfield 24, 3) := by decide +kernel
theorem dG_openProduction_37 : decode bG_openProduction 37 = .ok (.iconst 1, 1) := by decide +kernel
theorem dG_openProduction_38 : decode bG_openProduction 38 = .ok (.iadd, 1) := by decide +kernel
theorem dG_openProduction_39 : decode bG_openProduction 39 = .ok (.putfield 24, 3) := by decide +kernel
theorem dG_openProduction_42 : decode bG_openProduction 42 = .ok (.aload_n 0, 1) := by decide +kernel
theorem dG_openProduction_43 : decode bG_openProduction 43 = .ok (.invokevirtual 35, 3) := by decide +kernel
theorem dG_openProduction_46 : decode bG_openProduction 46 = .ok (.return_, 1) := by decide +kernel
theorem dG_openSlot_0 : decode bG_openSlot 0 = .ok (.aload_n 0, 1) := by decide +kernel
theorem dG_openSlot_1 : decode bG_openSlot 1 = .ok (.getfield 28, 3) := by decide +kernel
theorem dG_openSlot_4 : decode bG_openSlot 4 = .ok (.bipush 24, 2) := by decide +kernel
theorem dG_openSlot_6 : decode bG_openSlot 6 = .ok (.if_icmp .ge 38, 3) := by decide +kernel
theorem dG_openSlot_9 : decode bG_openSlot 9 = .ok (.aload_n 0, 1) := by decide +kernel
theorem dG_openSlot_10 : decode bG_openSlot 10 = .ok (.getfield 18, 3) := by decide +kernel
theorem dG_openSlot_13 : decode bG_openSlot 13 = .ok (.aload_n 0, 1) := by decide +kernel
theorem dG_openSlot_14 : decode bG_openSlot 14 = .ok (.getfield 28, 3) := by decide +kernel
theorem dG_openSlot_17 : decode bG_openSlot 17 = .ok (.iconst (-1), 1) := by decide +kernel
theorem dG_openSlot_18 : decode bG_openSlot 18 = .ok (.iastore, 1) := by decide +kernel
theorem dG_openSlot_19 : decode bG_openSlot 19 = .ok (.aload_n 0, 1) := by decide +kernel
theorem dG_openSlot_20 : decode bG_openSlot 20 = .ok (.getfield 21, 3) := by decide +kernel
theorem dG_openSlot_23 : decode bG_openSlot 23 = .ok (.aload_n 0, 1) := by decide +kernel
theorem dG_openSlot_24 : decode bG_openSlot 24 = .ok (.getfield 28, 3) := by decide +kernel
theorem dG_openSlot_27 : decode bG_openSlot 27 = .ok (.aload_n 0, 1) := by decide +kernel
theorem dG_openSlot_28 : decode bG_openSlot 28 = .ok (.getfield 24, 3) := by decide +kernel
theorem dG_openSlot_31 : decode bG_openSlot 31 = .ok (.iconst 1, 1) := by decide +kernel
theorem dG_openSlot_32 : decode bG_openSlot 32 = .ok (.isub, 1) := by decide +kernel
theorem dG_openSlot_33 : decode bG_openSlot 33 = .ok (.iastore, 1) := by decide +kernel
theorem dG_openSlot_34 : decode bG_openSlot 34 = .ok (.aload_n 0, 1) := by decide +kernel
theorem dG_openSlot_35 : decode bG_openSlot 35 = .ok (.dup, 1) := by decide +kernel
theorem dG_openSlot_36 : decode bG_openSlot 36 = .ok (.getfield 28, 3) := by decide +kernel
theorem dG_openSlot_39 : decode bG_openSlot 39 = .ok (.iconst 1, 1) := by decide +kernel
theorem dG_openSlot_40 : decode bG_openSlot 40 = .ok (.iadd, 1) := by decide +kernel
theorem dG_openSlot_41 : decode bG_openSlot 41 = .ok (.putfield 28, 3) := by decide +kernel
theorem dG_openSlot_44 : decode bG_openSlot 44 = .ok (.return_, 1) := by decide +kernel
theorem dG_hasRoomForSymbol_0 : decode bG_hasRoomForSymbol 0 = .ok (.aload_n 0, 1) := by decide +kernel
theorem dG_hasRoomForSymbol_1 : decode bG_hasRoomForSymbol 1 = .ok (.getfield 24, 3) := by decide +kernel
theorem dG_hasRoomForSymbol_4 : decode bG_hasRoomForSymbol 4 = .ok (.ifCond .le 29, 3) := by decide +kernel
theorem dG_hasRoomForSymbol_7 : decode bG_hasRoomForSymbol 7 = .ok (.aload_n 0, 1) := by decide +kernel
theorem dG_hasRoomForSymbol_8 : decode bG_hasRoomForSymbol 8 = .ok (.invokevirtual 31, 3) := by decide +kernel
theorem dG_hasRoomForSymbol_11 : decode bG_hasRoomForSymbol 11 = .ok (.iconst 4, 1) := by decide +kernel
theorem dG_hasRoomForSymbol_12 : decode bG_hasRoomForSymbol 12 = .ok (.if_icmp .ge 21, 3) := by decide +kernel
theorem dG_hasRoomForSymbol_15 : decode bG_hasRoomForSymbol 15 = .ok (.aload_n 0, 1) := by decide +kernel
theorem dG_hasRoomForSymbol_16 : decode bG_hasRoomForSymbol 16 = .ok (.getfield 28, 3) := by decide +kernel
theorem dG_hasRoomForSymbol_19 : decode bG_hasRoomForSymbol 19 = .ok (.aload_n 0, 1) := by decide +kernel
theorem dG_hasRoomForSymbol_20 : decode bG_hasRoomForSymbol 20 = .ok (.getfield 24, 3) := by decide +kernel
theorem dG_hasRoomForSymbol_23 : decode bG_hasRoomForSymbol 23 = .ok (.isub, 1) := by decide +kernel
theorem dG_hasRoomForSymbol_24 : decode bG_hasRoomForSymbol 24 = .ok (.bipush 16, 2) := by decide +kernel
theorem dG_hasRoomForSymbol_26 : decode bG_hasRoomForSymbol 26 = .ok (.if_icmp .ge 7, 3) := by decide +kernel
theorem dG_hasRoomForSymbol_29 : decode bG_hasRoomForSymbol 29 = .ok (.iconst 1, 1) := by decide +kernel
theorem dG_hasRoomForSymbol_30 : decode bG_hasRoomForSymbol 30 = .ok (.goto 4, 3) := by decide +kernel
theorem dG_hasRoomForSymbol_33 : decode bG_hasRoomForSymbol 33 = .ok (.iconst 0, 1) := by decide +kernel
theorem dG_hasRoomForSymbol_34 : decode bG_hasRoomForSymbol 34 = .ok (.ireturn, 1) := by decide +kernel
theorem dG_lastLength_0 : decode bG_lastLength 0 = .ok (.aload_n 0, 1) := by decide +kernel
theorem dG_lastLength_1 : decode bG_lastLength 1 = .ok (.getfield 24, 3) := by decide +kernel
theorem dG_lastLength_4 : decode bG_lastLength 4 = .ok (.ifCond .ne 7, 3) := by decide +kernel
theorem dG_lastLength_7 : decode bG_lastLength 7 = .ok (.iconst 0, 1) := by decide +kernel
theorem dG_lastLength_8 : decode bG_lastLength 8 = .ok (.goto 21, 3) := by decide +kernel
theorem dG_lastLength_11 : decode bG_lastLength 11 = .ok (.aload_n 0, 1) := by decide +kernel
theorem dG_lastLength_12 : decode bG_lastLength 12 = .ok (.getfield 28, 3) := by decide +kernel
theorem dG_lastLength_15 : decode bG_lastLength 15 = .ok (.iconst 1, 1) := by decide +kernel
theorem dG_lastLength_16 : decode bG_lastLength 16 = .ok (.isub, 1) := by decide +kernel
theorem dG_lastLength_17 : decode bG_lastLength 17 = .ok (.aload_n 0, 1) := by decide +kernel
theorem dG_lastLength_18 : decode bG_lastLength 18 = .ok (.getfield 15, 3) := by decide +kernel
theorem dG_lastLength_21 : decode bG_lastLength 21 = .ok (.aload_n 0, 1) := by decide +kernel
theorem dG_lastLength_22 : decode bG_lastLength 22 = .ok (.getfield 24, 3) := by decide +kernel
theorem dG_lastLength_25 : decode bG_lastLength 25 = .ok (.iconst 1, 1) := by decide +kernel
theorem dG_lastLength_26 : decode bG_lastLength 26 = .ok (.isub, 1) := by decide +kernel
theorem dG_lastLength_27 : decode bG_lastLength 27 = .ok (.iaload, 1) := by decide +kernel
theorem dG_lastLength_28 : decode bG_lastLength 28 = .ok (.isub, 1) := by decide +kernel
theorem dG_lastLength_29 : decode bG_lastLength 29 = .ok (.ireturn, 1) := by decide +kernel
theorem dG_appendSymbol_0 : decode bG_appendSymbol 0 = .ok (.aload_n 0, 1) := by decide +kernel
theorem dG_appendSymbol_1 : decode bG_appendSymbol 1 = .ok (.invokevirtual 38, 3) := by decide +kernel
theorem dG_appendSymbol_4 : decode bG_appendSymbol 4 = .ok (.ifCond .eq 19, 3) := by decide +kernel
theorem dG_appendSymbol_7 : decode bG_appendSymbol 7 = .ok (.aload_n 0, 1) := by decide +kernel
theorem dG_appendSymbol_8 : decode bG_appendSymbol 8 = .ok (.getfield 18, 3) := by decide +kernel
theorem dG_appendSymbol_11 : decode bG_appendSymbol 11 = .ok (.aload_n 0, 1) := by decide +kernel
theorem dG_appendSymbol_12 : decode bG_appendSymbol 12 = .ok (.getfield 28, 3) := by decide +kernel
theorem dG_appendSymbol_15 : decode bG_appendSymbol 15 = .ok (.iconst 1, 1) := by decide +kernel
theorem dG_appendSymbol_16 : decode bG_appendSymbol 16 = .ok (.isub, 1) := by decide +kernel
theorem dG_appendSymbol_17 : decode bG_appendSymbol 17 = .ok (.iload_n 1, 1) := by decide +kernel
theorem dG_appendSymbol_18 : decode bG_appendSymbol 18 = .ok (.iastore, 1) := by decide +kernel
theorem dG_appendSymbol_19 : decode bG_appendSymbol 19 = .ok (.aload_n 0, 1) := by decide +kernel
theorem dG_appendSymbol_20 : decode bG_appendSymbol 20 = .ok (.invokevirtual 35, 3) := by decide +kernel
theorem dG_appendSymbol_23 : decode bG_appendSymbol 23 = .ok (.return_, 1) := by decide +kernel
theorem dI_init_0 : decode bI_init 0 = .ok (.aload_n 0, 1) := by decide +kernel
theorem dI_init_1 : decode bI_init 1 = .ok (.invokespecial 3, 3) := by decide +kernel
theorem dI_init_4 : decode bI_init 4 = .ok (.aload_n 0, 1) := by decide +kernel
theorem dI_init_5 : decode bI_init 5 = .ok (.bipush 8, 2) := by decide +kernel
theorem dI_init_7 : decode bI_init 7 = .ok (.newarray .int, 2) := by decide +kernel
theorem dI_init_9 : decode bI_init 9 = .ok (.putfield 9, 3) := by decide +kernel
theorem dI_init_12 : decode bI_init 12 = .ok (.aload_n 0, 1) := by decide +kernel
theorem dI_init_13 : decode bI_init 13 = .ok (.iconst 0, 1) := by decide +kernel
theorem dI_init_14 : decode bI_init 14 = .ok (.putfield 15, 3) := by decide +kernel
theorem dI_init_17 : decode bI_init 17 = .ok (.return_, 1) := by decide +kernel
theorem dI_isJust_0 : decode bI_isJust 0 = .ok (.iload_n 3, 1) := by decide +kernel
theorem dI_isJust_1 : decode bI_isJust 1 = .ok (.iload_n 2, 1) := by decide +kernel
theorem dI_isJust_2 : decode bI_isJust 2 = .ok (.iconst 1, 1) := by decide +kernel
theorem dI_isJust_3 : decode bI_isJust 3 = .ok (.iadd, 1) := by decide +kernel
theorem dI_isJust_4 : decode bI_isJust 4 = .ok (.if_icmp .ne 29, 3) := by decide +kernel
theorem dI_isJust_7 : decode bI_isJust 7 = .ok (.iload_n 2, 1) := by decide +kernel
theorem dI_isJust_8 : decode bI_isJust 8 = .ok (.ifCond .lt 25, 3) := by decide +kernel
theorem dI_isJust_11 : decode bI_isJust 11 = .ok (.iload_n 2, 1) := by decide +kernel
theorem dI_isJust_12 : decode bI_isJust 12 = .ok (.aload_n 0, 1) := by decide +kernel
theorem dI_isJust_13 : decode bI_isJust 13 = .ok (.getfield 15, 3) := by decide +kernel
theorem dI_isJust_16 : decode bI_isJust 16 = .ok (.if_icmp .ge 17, 3) := by decide +kernel
theorem dI_isJust_19 : decode bI_isJust 19 = .ok (.aload_n 0, 1) := by decide +kernel
theorem dI_isJust_20 : decode bI_isJust 20 = .ok (.getfield 9, 3) := by decide +kernel
theorem dI_isJust_23 : decode bI_isJust 23 = .ok (.iload_n 2, 1) := by decide +kernel
theorem dI_isJust_24 : decode bI_isJust 24 = .ok (.iaload, 1) := by decide +kernel
theorem dI_isJust_25 : decode bI_isJust 25 = .ok (.iload_n 1, 1) := by decide +kernel
theorem dI_isJust_26 : decode bI_isJust 26 = .ok (.if_icmp .ne 7, 3) := by decide +kernel
theorem dI_isJust_29 : decode bI_isJust 29 = .ok (.iconst 1, 1) := by decide +kernel
theorem dI_isJust_30 : decode bI_isJust 30 = .ok (.goto 4, 3) := by decide +kernel
theorem dI_isJust_33 : decode bI_isJust 33 = .ok (.iconst 0, 1) := by decide +kernel
theorem dI_isJust_34 : decode bI_isJust 34 = .ok (.ireturn, 1) := by decide +kernel
theorem dI_append_0 : decode bI_append 0 = .ok (.aload_n 0, 1) := by decide +kernel
theorem dI_append_1 : decode bI_append 1 = .ok (.getfield 15, 3) := by decide +kernel
theorem dI_append_4 : decode bI_append 4 = .ok (.bipush 8, 2) := by decide +kernel
theorem dI_append_6 : decode bI_append 6 = .ok (.if_icmp .ge 23, 3) := by decide +kernel
theorem dI_append_9 : decode bI_append 9 = .ok (.aload_n 0, 1) := by decide +kernel
theorem dI_append_10 : decode bI_append 10 = .ok (.getfield 9, 3) := by decide +kernel
theorem dI_append_13 : decode bI_append 13 = .ok (.aload_n 0, 1) := by decide +kernel
theorem dI_append_14 : decode bI_append 14 = .ok (.getfield 15, 3) := by decide +kernel
theorem dI_append_17 : decode bI_append 17 = .ok (.iload_n 1, 1) := by decide +kernel
theorem dI_append_18 : decode bI_append 18 = .ok (.iastore, 1) := by decide +kernel
theorem dI_append_19 : decode bI_append 19 = .ok (.aload_n 0, 1) := by decide +kernel
theorem dI_append_20 : decode bI_append 20 = .ok (.dup, 1) := by decide +kernel
theorem dI_append_21 : decode bI_append 21 = .ok (.getfield 15, 3) := by decide +kernel
theorem dI_append_24 : decode bI_append 24 = .ok (.iconst 1, 1) := by decide +kernel
theorem dI_append_25 : decode bI_append 25 = .ok (.iadd, 1) := by decide +kernel
theorem dI_append_26 : decode bI_append 26 = .ok (.putfield 15, 3) := by decide +kernel
theorem dI_append_29 : decode bI_append 29 = .ok (.return_, 1) := by decide +kernel
theorem dJ_fill_0 : decode bJ_fill 0 = .ok (.iconst 0, 1) := by decide +kernel
theorem dJ_fill_1 : decode bJ_fill 1 = .ok (.istore_n 2, 1) := by decide +kernel
theorem dJ_fill_2 : decode bJ_fill 2 = .ok (.aload_n 0, 1) := by decide +kernel
theorem dJ_fill_3 : decode bJ_fill 3 = .ok (.arraylength, 1) := by decide +kernel
theorem dJ_fill_4 : decode bJ_fill 4 = .ok (.istore_n 3, 1) := by decide +kernel
theorem dJ_fill_5 : decode bJ_fill 5 = .ok (.iload_n 2, 1) := by decide +kernel
theorem dJ_fill_6 : decode bJ_fill 6 = .ok (.iload_n 3, 1) := by decide +kernel
theorem dJ_fill_7 : decode bJ_fill 7 = .ok (.if_icmp .ge 13, 3) := by decide +kernel
theorem dJ_fill_10 : decode bJ_fill 10 = .ok (.aload_n 0, 1) := by decide +kernel
theorem dJ_fill_11 : decode bJ_fill 11 = .ok (.iload_n 2, 1) := by decide +kernel
theorem dJ_fill_12 : decode bJ_fill 12 = .ok (.iload_n 1, 1) := by decide +kernel
theorem dJ_fill_13 : decode bJ_fill 13 = .ok (.iastore, 1) := by decide +kernel
theorem dJ_fill_14 : decode bJ_fill 14 = .ok (.iinc 2 1, 3) := by decide +kernel
theorem dJ_fill_17 : decode bJ_fill 17 = .ok (.goto (-12), 3) := by decide +kernel
theorem dJ_fill_20 : decode bJ_fill 20 = .ok (.return_, 1) := by decide +kernel
theorem dJ_bitCount_0 : decode bJ_bitCount 0 = .ok (.iload_n 0, 1) := by decide +kernel
theorem dJ_bitCount_1 : decode bJ_bitCount 1 = .ok (.iload_n 0, 1) := by decide +kernel
theorem dJ_bitCount_2 : decode bJ_bitCount 2 = .ok (.iconst 1, 1) := by decide +kernel
theorem dJ_bitCount_3 : decode bJ_bitCount 3 = .ok (.iushr, 1) := by decide +kernel
theorem dJ_bitCount_4 : decode bJ_bitCount 4 = .ok (.ldc_w 265, 3) := by decide +kernel
theorem dJ_bitCount_7 : decode bJ_bitCount 7 = .ok (.iand, 1) := by decide +kernel
theorem dJ_bitCount_8 : decode bJ_bitCount 8 = .ok (.isub, 1) := by decide +kernel
theorem dJ_bitCount_9 : decode bJ_bitCount 9 = .ok (.istore_n 0, 1) := by decide +kernel
theorem dJ_bitCount_10 : decode bJ_bitCount 10 = .ok (.iload_n 0, 1) := by decide +kernel
theorem dJ_bitCount_11 : decode bJ_bitCount 11 = .ok (.ldc_w 266, 3) := by decide +kernel
theorem dJ_bitCount_14 : decode bJ_bitCount 14 = .ok (.iand, 1) := by decide +kernel
theorem dJ_bitCount_15 : decode bJ_bitCount 15 = .ok (.iload_n 0, 1) := by decide +kernel
theorem dJ_bitCount_16 : decode bJ_bitCount 16 = .ok (.iconst 2, 1) := by decide +kernel
theorem dJ_bitCount_17 : decode bJ_bitCount 17 = .ok (.iushr, 1) := by decide +kernel
theorem dJ_bitCount_18 : decode bJ_bitCount 18 = .ok (.ldc_w 266, 3) := by decide +kernel
theorem dJ_bitCount_21 : decode bJ_bitCount 21 = .ok (.iand, 1) := by decide +kernel
theorem dJ_bitCount_22 : decode bJ_bitCount 22 = .ok (.iadd, 1) := by decide +kernel
theorem dJ_bitCount_23 : decode bJ_bitCount 23 = .ok (.istore_n 0, 1) := by decide +kernel
theorem dJ_bitCount_24 : decode bJ_bitCount 24 = .ok (.iload_n 0, 1) := by decide +kernel
theorem dJ_bitCount_25 : decode bJ_bitCount 25 = .ok (.iload_n 0, 1) := by decide +kernel
theorem dJ_bitCount_26 : decode bJ_bitCount 26 = .ok (.iconst 4, 1) := by decide +kernel
theorem dJ_bitCount_27 : decode bJ_bitCount 27 = .ok (.iushr, 1) := by decide +kernel
theorem dJ_bitCount_28 : decode bJ_bitCount 28 = .ok (.iadd, 1) := by decide +kernel
theorem dJ_bitCount_29 : decode bJ_bitCount 29 = .ok (.ldc_w 267, 3) := by decide +kernel
theorem dJ_bitCount_32 : decode bJ_bitCount 32 = .ok (.iand, 1) := by decide +kernel
theorem dJ_bitCount_33 : decode bJ_bitCount 33 = .ok (.istore_n 0, 1) := by decide +kernel
theorem dJ_bitCount_34 : decode bJ_bitCount 34 = .ok (.iload_n 0, 1) := by decide +kernel
theorem dJ_bitCount_35 : decode bJ_bitCount 35 = .ok (.iload_n 0, 1) := by decide +kernel
theorem dJ_bitCount_36 : decode bJ_bitCount 36 = .ok (.bipush 8, 2) := by decide +kernel
theorem dJ_bitCount_38 : decode bJ_bitCount 38 = .ok (.iushr, 1) := by decide +kernel
theorem dJ_bitCount_39 : decode bJ_bitCount 39 = .ok (.iadd, 1) := by decide +kernel
theorem dJ_bitCount_40 : decode bJ_bitCount 40 = .ok (.istore_n 0, 1) := by decide +kernel
theorem dJ_bitCount_41 : decode bJ_bitCount 41 = .ok (.iload_n 0, 1) := by decide +kernel
theorem dJ_bitCount_42 : decode bJ_bitCount 42 = .ok (.iload_n 0, 1) := by decide +kernel
theorem dJ_bitCount_43 : decode bJ_bitCount 43 = .ok (.bipush 16, 2) := by decide +kernel
theorem dJ_bitCount_45 : decode bJ_bitCount 45 = .ok (.iushr, 1) := by decide +kernel
theorem dJ_bitCount_46 : decode bJ_bitCount 46 = .ok (.iadd, 1) := by decide +kernel
theorem dJ_bitCount_47 : decode bJ_bitCount 47 = .ok (.istore_n 0, 1) := by decide +kernel
theorem dJ_bitCount_48 : decode bJ_bitCount 48 = .ok (.iload_n 0, 1) := by decide +kernel
theorem dJ_bitCount_49 : decode bJ_bitCount 49 = .ok (.bipush 63, 2) := by decide +kernel
theorem dJ_bitCount_51 : decode bJ_bitCount 51 = .ok (.iand, 1) := by decide +kernel
theorem dJ_bitCount_52 : decode bJ_bitCount 52 = .ok (.ireturn, 1) := by decide +kernel
end
section
theorem dS_init_0 : decode bS_init 0 = .ok (.aload_n 0, 1) := by decide +kernel
theorem dS_init_1 : decode bS_init 1 = .ok (.invokespecial 3, 3) := by decide +kernel
theorem dS_init_4 : decode bS_init 4 = .ok (.aload_n 0, 1) := by decide +kernel
theorem dS_init_5 : decode bS_init 5 = .ok (.bipush 9, 2) := by decide +kernel
theorem dS_init_7 : decode bS_init 7 = .ok (.bipush 24, 2) := by decide +kernel
theorem dS_init_9 : decode bS_init 9 = .ok (.multianewarray 9 2, 4) := by decide +kernel
theorem dS_init_13 : decode bS_init 13 = .ok (.putfield 11, 3) := by decide +kernel
theorem dS_init_16 : decode bS_init 16 = .ok (.aload_n 0, 1) := by decide +kernel
theorem dS_init_17 : decode bS_init 17 = .ok (.bipush 6, 2) := by decide +kernel
theorem dS_init_19 : decode bS_init 19 = .ok (.newarray .int, 2) := by decide +kernel
theorem dS_init_21 : decode bS_init 21 = .ok (.putfield 16, 3) := by decide +kernel
theorem dS_init_24 : decode bS_init 24 = .ok (.aload_n 0, 1) := by decide +kernel
theorem dS_init_25 : decode bS_init 25 = .ok (.aload_n 1, 1) := by decide +kernel
theorem dS_init_26 : decode bS_init 26 = .ok (.putfield 20, 3) := by decide +kernel
theorem dS_init_29 : decode bS_init 29 = .ok (.return_, 1) := by decide +kernel
theorem dS_makeFirst_0 : decode bS_makeFirst 0 = .ok (.aload_n 0, 1) := by decide +kernel
theorem dS_makeFirst_1 : decode bS_makeFirst 1 = .ok (.getfield 11, 3) := by decide +kernel
theorem dS_makeFirst_4 : decode bS_makeFirst 4 = .ok (.iconst 0, 1) := by decide +kernel
theorem dS_makeFirst_5 : decode bS_makeFirst 5 = .ok (.aaload, 1) := by decide +kernel
theorem dS_makeFirst_6 : decode bS_makeFirst 6 = .ok (.iconst 0, 1) := by decide +kernel
theorem dS_makeFirst_7 : decode bS_makeFirst 7 = .ok (.invokestatic 24, 3) := by decide +kernel
theorem dS_makeFirst_10 : decode bS_makeFirst 10 = .ok (.aload_n 0, 1) := by decide +kernel
theorem dS_makeFirst_11 : decode bS_makeFirst 11 = .ok (.getfield 20, 3) := by decide +kernel
theorem dS_makeFirst_14 : decode bS_makeFirst 14 = .ok (.getfield 30, 3) := by decide +kernel
theorem dS_makeFirst_17 : decode bS_makeFirst 17 = .ok (.ifCond .le 20, 3) := by decide +kernel
theorem dS_makeFirst_20 : decode bS_makeFirst 20 = .ok (.aload_n 0, 1) := by decide +kernel
theorem dS_makeFirst_21 : decode bS_makeFirst 21 = .ok (.iconst 0, 1) := by decide +kernel
theorem dS_makeFirst_22 : decode bS_makeFirst 22 = .ok (.aload_n 0, 1) := by decide +kernel
theorem dS_makeFirst_23 : decode bS_makeFirst 23 = .ok (.getfield 20, 3) := by decide +kernel
theorem dS_makeFirst_26 : decode bS_makeFirst 26 = .ok (.invokevirtual 36, 3) := by decide +kernel
theorem dS_makeFirst_29 : decode bS_makeFirst 29 = .ok (.invokevirtual 40, 3) := by decide +kernel
theorem dS_makeFirst_32 : decode bS_makeFirst 32 = .ok (.aload_n 0, 1) := by decide +kernel
theorem dS_makeFirst_33 : decode bS_makeFirst 33 = .ok (.iconst 0, 1) := by decide +kernel
theorem dS_makeFirst_34 : decode bS_makeFirst 34 = .ok (.invokevirtual 44, 3) := by decide +kernel
theorem dS_makeFirst_37 : decode bS_makeFirst 37 = .ok (.return_, 1) := by decide +kernel
theorem dS_predict_0 : decode bS_predict 0 = .ok (.iconst 0, 1) := by decide +kernel
theorem dS_predict_1 : decode bS_predict 1 = .ok (.istore_n 3, 1) := by decide +kernel
theorem dS_predict_2 : decode bS_predict 2 = .ok (.iload_n 3, 1) := by decide +kernel
theorem dS_predict_3 : decode bS_predict 3 = .ok (.aload_n 0, 1) := by decide +kernel
theorem dS_predict_4 : decode bS_predict 4 = .ok (.getfield 20, 3) := by decide +kernel
theorem dS_predict_7 : decode bS_predict 7 = .ok (.getfield 30, 3) := by decide +kernel
theorem dS_predict_10 : decode bS_predict 10 = .ok (.if_icmp .ge 44, 3) := by decide +kernel
theorem dS_predict_13 : decode bS_predict 13 = .ok (.aload_n 0, 1) := by decide +kernel
theorem dS_predict_14 : decode bS_predict 14 = .ok (.getfield 20, 3) := by decide +kernel
theorem dS_predict_17 : decode bS_predict 17 = .ok (.getfield 89, 3) := by decide +kernel
theorem dS_predict_20 : decode bS_predict 20 = .ok (.iload_n 3, 1) := by decide +kernel
theorem dS_predict_21 : decode bS_predict 21 = .ok (.iaload, 1) := by decide +kernel
theorem dS_predict_22 : decode bS_predict 22 = .ok (.iload_n 2, 1) := by decide +kernel
theorem dS_predict_23 : decode bS_predict 23 = .ok (.if_icmp .ne 25, 3) := by decide +kernel
theorem dS_predict_26 : decode bS_predict 26 = .ok (.aload_n 0, 1) := by decide +kernel
theorem dS_predict_27 : decode bS_predict 27 = .ok (.getfield 11, 3) := by decide +kernel
theorem dS_predict_30 : decode bS_predict 30 = .ok (.iload_n 1, 1) := by decide +kernel
theorem dS_predict_31 : decode bS_predict 31 = .ok (.aaload, 1) := by decide +kernel
theorem dS_predict_32 : decode bS_predict 32 = .ok (.aload_n 0, 1) := by decide +kernel
theorem dS_predict_33 : decode bS_predict 33 = .ok (.getfield 20, 3) := by decide +kernel
theorem dS_predict_36 : decode bS_predict 36 = .ok (.getfield 92, 3) := by decide +kernel
theorem dS_predict_39 : decode bS_predict 39 = .ok (.iload_n 3, 1) := by decide +kernel
theorem dS_predict_40 : decode bS_predict 40 = .ok (.iaload, 1) := by decide +kernel
theorem dS_predict_41 : decode bS_predict 41 = .ok (.dup2, 1) := by decide +kernel
theorem dS_predict_42 : decode bS_predict 42 = .ok (.iaload, 1) := by decide +kernel
theorem dS_predict_43 : decode bS_predict 43 = .ok (.iconst 1, 1) := by decide +kernel
theorem dS_predict_44 : decode bS_predict 44 = .ok (.iload_n 1, 1) := by decide +kernel
theorem dS_predict_45 : decode bS_predict 45 = .ok (.ishl, 1) := by decide +kernel
theorem dS_predict_46 : decode bS_predict 46 = .ok (.ior, 1) := by decide +kernel
theorem dS_predict_47 : decode bS_predict 47 = .ok (.iastore, 1) := by decide +kernel
theorem dS_predict_48 : decode bS_predict 48 = .ok (.iinc 3 1, 3) := by decide +kernel
theorem dS_predict_51 : decode bS_predict 51 = .ok (.goto (-49), 3) := by decide +kernel
theorem dS_predict_54 : decode bS_predict 54 = .ok (.return_, 1) := by decide +kernel
theorem dS_close_0 : decode bS_close 0 = .ok (.iconst 1, 1) := by decide +kernel
theorem dS_close_1 : decode bS_close 1 = .ok (.istore_n 2, 1) := by decide +kernel
theorem dS_close_2 : decode bS_close 2 = .ok (.iconst 0, 1) := by decide +kernel
theorem dS_close_3 : decode bS_close 3 = .ok (.istore_n 3, 1) := by decide +kernel
theorem dS_close_4 : decode bS_close 4 = .ok (.iload_n 2, 1) := by decide +kernel
theorem dS_close_5 : decode bS_close 5 = .ok (.ifCond .eq 49, 3) := by decide +kernel
theorem dS_close_8 : decode bS_close 8 = .ok (.iload_n 3, 1) := by decide +kernel
theorem dS_close_9 : decode bS_close 9 = .ok (.sipush 1000, 3) := by decide +kernel
theorem dS_close_12 : decode bS_close 12 = .ok (.if_icmp .ge 42, 3) := by decide +kernel
theorem dS_close_15 : decode bS_close 15 = .ok (.aload_n 0, 1) := by decide +kernel
theorem dS_close_16 : decode bS_close 16 = .ok (.iload_n 1, 1) := by decide +kernel
theorem dS_close_17 : decode bS_close 17 = .ok (.invokevirtual 73, 3) := by decide +kernel
theorem dS_close_20 : decode bS_close 20 = .ok (.istore 4, 2) := by decide +kernel
theorem dS_close_22 : decode bS_close 22 = .ok (.aload_n 0, 1) := by decide +kernel
theorem dS_close_23 : decode bS_close 23 = .ok (.iload_n 1, 1) := by decide +kernel
theorem dS_close_24 : decode bS_close 24 = .ok (.invokevirtual 76, 3) := by decide +kernel
theorem dS_close_27 : decode bS_close 27 = .ok (.aload_n 0, 1) := by decide +kernel
theorem dS_close_28 : decode bS_close 28 = .ok (.iload_n 1, 1) := by decide +kernel
theorem dS_close_29 : decode bS_close 29 = .ok (.invokevirtual 79, 3) := by decide +kernel
theorem dS_close_32 : decode bS_close 32 = .ok (.aload_n 0, 1) := by decide +kernel
theorem dS_close_33 : decode bS_close 33 = .ok (.iload_n 1, 1) := by decide +kernel
theorem dS_close_34 : decode bS_close 34 = .ok (.invokevirtual 73, 3) := by decide +kernel
theorem dS_close_37 : decode bS_close 37 = .ok (.iload 4, 2) := by decide +kernel
theorem dS_close_39 : decode bS_close 39 = .ok (.if_icmp .le 7, 3) := by decide +kernel
theorem dS_close_42 : decode bS_close 42 = .ok (.iconst 1, 1) := by decide +kernel
theorem dS_close_43 : decode bS_close 43 = .ok (.goto 4, 3) := by decide +kernel
theorem dS_close_46 : decode bS_close 46 = .ok (.iconst 0, 1) := by decide +kernel
theorem dS_close_47 : decode bS_close 47 = .ok (.istore_n 2, 1) := by decide +kernel
theorem dS_close_48 : decode bS_close 48 = .ok (.iinc 3 1, 3) := by decide +kernel
theorem dS_close_51 : decode bS_close 51 = .ok (.goto (-47), 3) := by decide +kernel
theorem dS_close_54 : decode bS_close 54 = .ok (.return_, 1) := by decide +kernel
theorem dS_size_0 : decode bS_size 0 = .ok (.iconst 0, 1) := by decide +kernel
theorem dS_size_1 : decode bS_size 1 = .ok (.istore_n 2, 1) := by decide +kernel
theorem dS_size_2 : decode bS_size 2 = .ok (.iconst 0, 1) := by decide +kernel
theorem dS_size_3 : decode bS_size 3 = .ok (.istore_n 3, 1) := by decide +kernel
theorem dS_size_4 : decode bS_size 4 = .ok (.iload_n 3, 1) := by decide +kernel
theorem dS_size_5 : decode bS_size 5 = .ok (.aload_n 0, 1) := by decide +kernel
theorem dS_size_6 : decode bS_size 6 = .ok (.getfield 20, 3) := by decide +kernel
theorem dS_size_9 : decode bS_size 9 = .ok (.getfield 48, 3) := by decide +kernel
theorem dS_size_12 : decode bS_size 12 = .ok (.if_icmp .ge 23, 3) := by decide +kernel
theorem dS_size_15 : decode bS_size 15 = .ok (.iload_n 2, 1) := by decide +kernel
theorem dS_size_16 : decode bS_size 16 = .ok (.aload_n 0, 1) := by decide +kernel
theorem dS_size_17 : decode bS_size 17 = .ok (.getfield 11, 3) := by decide +kernel
theorem dS_size_20 : decode bS_size 20 = .ok (.iload_n 1, 1) := by decide +kernel
theorem dS_size_21 : decode bS_size 21 = .ok (.aaload, 1) := by decide +kernel
theorem dS_size_22 : decode bS_size 22 = .ok (.iload_n 3, 1) := by decide +kernel
theorem dS_size_23 : decode bS_size 23 = .ok (.iaload, 1) := by decide +kernel
theorem dS_size_24 : decode bS_size 24 = .ok (.invokestatic 54, 3) := by decide +kernel
theorem dS_size_27 : decode bS_size 27 = .ok (.iadd, 1) := by decide +kernel
theorem dS_size_28 : decode bS_size 28 = .ok (.istore_n 2, 1) := by decide +kernel
theorem dS_size_29 : decode bS_size 29 = .ok (.iinc 3 1, 3) := by decide +kernel
theorem dS_size_32 : decode bS_size 32 = .ok (.goto (-28), 3) := by decide +kernel
theorem dS_size_35 : decode bS_size 35 = .ok (.iload_n 2, 1) := by decide +kernel
theorem dS_size_36 : decode bS_size 36 = .ok (.ireturn, 1) := by decide +kernel
theorem dS_gatherWholeOrigins_0 : decode bS_gatherWholeOrigins 0 = .ok (.aload_n 0, 1) := by decide +kernel
theorem dS_gatherWholeOrigins_1 : decode bS_gatherWholeOrigins 1 = .ok (.getfield 16, 3) := by decide +kernel
theorem dS_gatherWholeOrigins_4 : decode bS_gatherWholeOrigins 4 = .ok (.iconst 0, 1) := by decide +kernel
theorem dS_gatherWholeOrigins_5 : decode bS_gatherWholeOrigins 5 = .ok (.invokestatic 24, 3) := by decide +kernel
theorem dS_gatherWholeOrigins_8 : decode bS_gatherWholeOrigins 8 = .ok (.iconst 0, 1) := by decide +kernel
theorem dS_gatherWholeOrigins_9 : decode bS_gatherWholeOrigins 9 = .ok (.istore_n 2, 1) := by decide +kernel
theorem dS_gatherWholeOrigins_10 : decode bS_gatherWholeOrigins 10 = .ok (.iload_n 2, 1) := by decide +kernel
theorem dS_gatherWholeOrigins_11 : decode bS_gatherWholeOrigins 11 = .ok (.aload_n 0, 1) := by decide +kernel
theorem dS_gatherWholeOrigins_12 : decode bS_gatherWholeOrigins 12 = .ok (.getfield 20, 3) := by decide +kernel
theorem dS_gatherWholeOrigins_15 : decode bS_gatherWholeOrigins 15 = .ok (.getfield 48, 3) := by decide +kernel
theorem dS_gatherWholeOrigins_18 : decode bS_gatherWholeOrigins 18 = .ok (.if_icmp .ge 46, 3) := by decide +kernel
theorem dS_gatherWholeOrigins_21 : decode bS_gatherWholeOrigins 21 = .ok (.aload_n 0, 1) := by decide +kernel
theorem dS_gatherWholeOrigins_22 : decode bS_gatherWholeOrigins 22 = .ok (.getfield 20, 3) := by decide +kernel
theorem dS_gatherWholeOrigins_25 : decode bS_gatherWholeOrigins 25 = .ok (.getfield 51, 3) := by decide +kernel
theorem dS_gatherWholeOrigins_28 : decode bS_gatherWholeOrigins 28 = .ok (.iload_n 2, 1) := by decide +kernel
theorem dS_gatherWholeOrigins_29 : decode bS_gatherWholeOrigins 29 = .ok (.iaload, 1) := by decide +kernel
theorem dS_gatherWholeOrigins_30 : decode bS_gatherWholeOrigins 30 = .ok (.iconst (-1), 1) := by decide +kernel
theorem dS_gatherWholeOrigins_31 : decode bS_gatherWholeOrigins 31 = .ok (.if_icmp .ne 27, 3) := by decide +kernel
theorem dS_gatherWholeOrigins_34 : decode bS_gatherWholeOrigins 34 = .ok (.aload_n 0, 1) := by decide +kernel
theorem dS_gatherWholeOrigins_35 : decode bS_gatherWholeOrigins 35 = .ok (.getfield 16, 3) := by decide +kernel
theorem dS_gatherWholeOrigins_38 : decode bS_gatherWholeOrigins 38 = .ok (.aload_n 0, 1) := by decide +kernel
theorem dS_gatherWholeOrigins_39 : decode bS_gatherWholeOrigins 39 = .ok (.getfield 20, 3) := by decide +kernel
theorem dS_gatherWholeOrigins_42 : decode bS_gatherWholeOrigins 42 = .ok (.iload_n 2, 1) := by decide +kernel
theorem dS_gatherWholeOrigins_43 : decode bS_gatherWholeOrigins 43 = .ok (.invokevirtual 60, 3) := by decide +kernel
theorem dS_gatherWholeOrigins_46 : decode bS_gatherWholeOrigins 46 = .ok (.dup2, 1) := by decide +kernel
theorem dS_gatherWholeOrigins_47 : decode bS_gatherWholeOrigins 47 = .ok (.iaload, 1) := by decide +kernel
theorem dS_gatherWholeOrigins_48 : decode bS_gatherWholeOrigins 48 = .ok (.aload_n 0, 1) := by decide +kernel
theorem dS_gatherWholeOrigins_49 : decode bS_gatherWholeOrigins 49 = .ok (.getfield 11, 3) := by decide +kernel
theorem dS_gatherWholeOrigins_52 : decode bS_gatherWholeOrigins 52 = .ok (.iload_n 1, 1) := by decide +kernel
theorem dS_gatherWholeOrigins_53 : decode bS_gatherWholeOrigins 53 = .ok (.aaload, 1) := by decide +kernel
theorem dS_gatherWholeOrigins_54 : decode bS_gatherWholeOrigins 54 = .ok (.iload_n 2, 1) := by decide +kernel
theorem dS_gatherWholeOrigins_55 : decode bS_gatherWholeOrigins 55 = .ok (.iaload, 1) := by decide +kernel
theorem dS_gatherWholeOrigins_56 : decode bS_gatherWholeOrigins 56 = .ok (.ior, 1) := by decide +kernel
theorem dS_gatherWholeOrigins_57 : decode bS_gatherWholeOrigins 57 = .ok (.iastore, 1) := by decide +kernel
theorem dS_gatherWholeOrigins_58 : decode bS_gatherWholeOrigins 58 = .ok (.iinc 2 1, 3) := by decide +kernel
theorem dS_gatherWholeOrigins_61 : decode bS_gatherWholeOrigins 61 = .ok (.goto (-51), 3) := by decide +kernel
theorem dS_gatherWholeOrigins_64 : decode bS_gatherWholeOrigins 64 = .ok (.return_, 1) := by decide +kernel
theorem dS_grow_0 : decode bS_grow 0 = .ok (.iconst 0, 1) := by decide +kernel
theorem dS_grow_1 : decode bS_grow 1 = .ok (.istore_n 2, 1) := by decide +kernel
theorem dS_grow_2 : decode bS_grow 2 = .ok (.iload_n 2, 1) := by decide +kernel
theorem dS_grow_3 : decode bS_grow 3 = .ok (.iconst 1, 1) := by decide +kernel
theorem dS_grow_4 : decode bS_grow 4 = .ok (.iadd, 1) := by decide +kernel
theorem dS_grow_5 : decode bS_grow 5 = .ok (.aload_n 0, 1) := by decide +kernel
theorem dS_grow_6 : decode bS_grow 6 = .ok (.getfield 20, 3) := by decide +kernel
theorem dS_grow_9 : decode bS_grow 9 = .ok (.getfield 48, 3) := by decide +kernel
theorem dS_grow_12 : decode bS_grow 12 = .ok (.if_icmp .ge 67, 3) := by decide +kernel
theorem dS_grow_15 : decode bS_grow 15 = .ok (.aload_n 0, 1) := by decide +kernel
theorem dS_grow_16 : decode bS_grow 16 = .ok (.getfield 20, 3) := by decide +kernel
theorem dS_grow_19 : decode bS_grow 19 = .ok (.getfield 51, 3) := by decide +kernel
theorem dS_grow_22 : decode bS_grow 22 = .ok (.iload_n 2, 1) := by decide +kernel
theorem dS_grow_23 : decode bS_grow 23 = .ok (.iaload, 1) := by decide +kernel
theorem dS_grow_24 : decode bS_grow 24 = .ok (.istore_n 3, 1) := by decide +kernel
theorem dS_grow_25 : decode bS_grow 25 = .ok (.iload_n 3, 1) := by decide +kernel
theorem dS_grow_26 : decode bS_grow 26 = .ok (.invokestatic 82, 3) := by decide +kernel
theorem dS_grow_29 : decode bS_grow 29 = .ok (.ifCond .eq 44, 3) := by decide +kernel
theorem dS_grow_32 : decode bS_grow 32 = .ok (.aload_n 0, 1) := by decide +kernel
theorem dS_grow_33 : decode bS_grow 33 = .ok (.getfield 11, 3) := by decide +kernel
theorem dS_grow_36 : decode bS_grow 36 = .ok (.iload_n 1, 1) := by decide +kernel
theorem dS_grow_37 : decode bS_grow 37 = .ok (.aaload, 1) := by decide +kernel
theorem dS_grow_38 : decode bS_grow 38 = .ok (.iload_n 2, 1) := by decide +kernel
theorem dS_grow_39 : decode bS_grow 39 = .ok (.iaload, 1) := by decide +kernel
theorem dS_grow_40 : decode bS_grow 40 = .ok (.ifCond .eq 9, 3) := by decide +kernel
theorem dS_grow_43 : decode bS_grow 43 = .ok (.aload_n 0, 1) := by decide +kernel
theorem dS_grow_44 : decode bS_grow 44 = .ok (.iload_n 1, 1) := by decide +kernel
theorem dS_grow_45 : decode bS_grow 45 = .ok (.iload_n 3, 1) := by decide +kernel
theorem dS_grow_46 : decode bS_grow 46 = .ok (.invokevirtual 40, 3) := by decide +kernel
theorem dS_grow_49 : decode bS_grow 49 = .ok (.aload_n 0, 1) := by decide +kernel
theorem dS_grow_50 : decode bS_grow 50 = .ok (.getfield 11, 3) := by decide +kernel
theorem dS_grow_53 : decode bS_grow 53 = .ok (.iload_n 1, 1) := by decide +kernel
theorem dS_grow_54 : decode bS_grow 54 = .ok (.aaload, 1) := by decide +kernel
theorem dS_grow_55 : decode bS_grow 55 = .ok (.iload_n 2, 1) := by decide +kernel
theorem dS_grow_56 : decode bS_grow 56 = .ok (.iconst 1, 1) := by decide +kernel
theorem dS_grow_57 : decode bS_grow 57 = .ok (.iadd, 1) := by decide +kernel
theorem dS_grow_58 : decode bS_grow 58 = .ok (.dup2, 1) := by decide +kernel
theorem dS_grow_59 : decode bS_grow 59 = .ok (.iaload, 1) := by decide +kernel
theorem dS_grow_60 : decode bS_grow 60 = .ok (.aload_n 0, 1) := by decide +kernel
theorem dS_grow_61 : decode bS_grow 61 = .ok (.aload_n 0, 1) := by decide +kernel
theorem dS_grow_62 : decode bS_grow 62 = .ok (.getfield 16, 3) := by decide +kernel
theorem dS_grow_65 : decode bS_grow 65 = .ok (.iload_n 3, 1) := by decide +kernel
theorem dS_grow_66 : decode bS_grow 66 = .ok (.iaload, 1) := by decide +kernel
theorem dS_grow_67 : decode bS_grow 67 = .ok (.iload_n 2, 1) := by decide +kernel
theorem dS_grow_68 : decode bS_grow 68 = .ok (.invokevirtual 86, 3) := by decide +kernel
theorem dS_grow_71 : decode bS_grow 71 = .ok (.ior, 1) := by decide +kernel
theorem dS_grow_72 : decode bS_grow 72 = .ok (.iastore, 1) := by decide +kernel
theorem dS_grow_73 : decode bS_grow 73 = .ok (.iinc 2 1, 3) := by decide +kernel
theorem dS_grow_76 : decode bS_grow 76 = .ok (.goto (-74), 3) := by decide +kernel
theorem dS_grow_79 : decode bS_grow 79 = .ok (.return_, 1) := by decide +kernel
theorem dS_originsIn_0 : decode bS_originsIn 0 = .ok (.iconst 0, 1) := by decide +kernel
theorem dS_originsIn_1 : decode bS_originsIn 1 = .ok (.istore_n 3, 1) := by decide +kernel
theorem dS_originsIn_2 : decode bS_originsIn 2 = .ok (.iconst 0, 1) := by decide +kernel
theorem dS_originsIn_3 : decode bS_originsIn 3 = .ok (.istore 4, 2) := by decide +kernel
theorem dS_originsIn_5 : decode bS_originsIn 5 = .ok (.iload 4, 2) := by decide +kernel
theorem dS_originsIn_7 : decode bS_originsIn 7 = .ok (.bipush 9, 2) := by decide +kernel
theorem dS_originsIn_9 : decode bS_originsIn 9 = .ok (.if_icmp .ge 30, 3) := by decide +kernel
theorem dS_originsIn_12 : decode bS_originsIn 12 = .ok (.iload_n 1, 1) := by decide +kernel
theorem dS_originsIn_13 : decode bS_originsIn 13 = .ok (.iload 4, 2) := by decide +kernel
theorem dS_originsIn_15 : decode bS_originsIn 15 = .ok (.ishr, 1) := by decide +kernel
theorem dS_originsIn_16 : decode bS_originsIn 16 = .ok (.iconst 1, 1) := by decide +kernel
theorem dS_originsIn_17 : decode bS_originsIn 17 = .ok (.iand, 1) := by decide +kernel
theorem dS_originsIn_18 : decode bS_originsIn 18 = .ok (.ifCond .eq 15, 3) := by decide +kernel
theorem dS_originsIn_21 : decode bS_originsIn 21 = .ok (.iload_n 3, 1) := by decide +kernel
theorem dS_originsIn_22 : decode bS_originsIn 22 = .ok (.aload_n 0, 1) := by decide +kernel
theorem dS_originsIn_23 : decode bS_originsIn 23 = .ok (.getfield 11, 3) := by decide +kernel
theorem dS_originsIn_26 : decode bS_originsIn 26 = .ok (.iload 4, 2) := by decide +kernel
theorem dS_originsIn_28 : decode bS_originsIn 28 = .ok (.aaload, 1) := by decide +kernel
theorem dS_originsIn_29 : decode bS_originsIn 29 = .ok (.iload_n 2, 1) := by decide +kernel
theorem dS_originsIn_30 : decode bS_originsIn 30 = .ok (.iaload, 1) := by decide +kernel
theorem dS_originsIn_31 : decode bS_originsIn 31 = .ok (.ior, 1) := by decide +kernel
theorem dS_originsIn_32 : decode bS_originsIn 32 = .ok (.istore_n 3, 1) := by decide +kernel
theorem dS_originsIn_33 : decode bS_originsIn 33 = .ok (.iinc 4 1, 3) := by decide +kernel
theorem dS_originsIn_36 : decode bS_originsIn 36 = .ok (.goto (-31), 3) := by decide +kernel
theorem dS_originsIn_39 : decode bS_originsIn 39 = .ok (.iload_n 3, 1) := by decide +kernel
theorem dS_originsIn_40 : decode bS_originsIn 40 = .ok (.ireturn, 1) := by decide +kernel
theorem dS_holdWholeStart_0 : decode bS_holdWholeStart 0 = .ok (.iconst 0, 1) := by decide +kernel
theorem dS_holdWholeStart_1 : decode bS_holdWholeStart 1 = .ok (.istore_n 2, 1) := by decide +kernel
theorem dS_holdWholeStart_2 : decode bS_holdWholeStart 2 = .ok (.iload_n 2, 1) := by decide +kernel
theorem dS_holdWholeStart_3 : decode bS_holdWholeStart 3 = .ok (.aload_n 0, 1) := by decide +kernel
theorem dS_holdWholeStart_4 : decode bS_holdWholeStart 4 = .ok (.getfield 20, 3) := by decide +kernel
theorem dS_holdWholeStart_7 : decode bS_holdWholeStart 7 = .ok (.getfield 48, 3) := by decide +kernel
theorem dS_holdWholeStart_10 : decode bS_holdWholeStart 10 = .ok (.if_icmp .ge 55, 3) := by decide +kernel
theorem dS_holdWholeStart_13 : decode bS_holdWholeStart 13 = .ok (.aload_n 0, 1) := by decide +kernel
theorem dS_holdWholeStart_14 : decode bS_holdWholeStart 14 = .ok (.getfield 20, 3) := by decide +kernel
theorem dS_holdWholeStart_17 : decode bS_holdWholeStart 17 = .ok (.getfield 51, 3) := by decide +kernel
theorem dS_holdWholeStart_20 : decode bS_holdWholeStart 20 = .ok (.iload_n 2, 1) := by decide +kernel
theorem dS_holdWholeStart_21 : decode bS_holdWholeStart 21 = .ok (.iaload, 1) := by decide +kernel
theorem dS_holdWholeStart_22 : decode bS_holdWholeStart 22 = .ok (.iconst (-1), 1) := by decide +kernel
theorem dS_holdWholeStart_23 : decode bS_holdWholeStart 23 = .ok (.if_icmp .ne 36, 3) := by decide +kernel
theorem dS_holdWholeStart_26 : decode bS_holdWholeStart 26 = .ok (.aload_n 0, 1) := by decide +kernel
theorem dS_holdWholeStart_27 : decode bS_holdWholeStart 27 = .ok (.getfield 20, 3) := by decide +kernel
theorem dS_holdWholeStart_30 : decode bS_holdWholeStart 30 = .ok (.iload_n 2, 1) := by decide +kernel
theorem dS_holdWholeStart_31 : decode bS_holdWholeStart 31 = .ok (.invokevirtual 60, 3) := by decide +kernel
theorem dS_holdWholeStart_34 : decode bS_holdWholeStart 34 = .ok (.aload_n 0, 1) := by decide +kernel
theorem dS_holdWholeStart_35 : decode bS_holdWholeStart 35 = .ok (.getfield 20, 3) := by decide +kernel
theorem dS_holdWholeStart_38 : decode bS_holdWholeStart 38 = .ok (.invokevirtual 36, 3) := by decide +kernel
theorem dS_holdWholeStart_41 : decode bS_holdWholeStart 41 = .ok (.if_icmp .ne 18, 3) := by decide +kernel
theorem dS_holdWholeStart_44 : decode bS_holdWholeStart 44 = .ok (.aload_n 0, 1) := by decide +kernel
theorem dS_holdWholeStart_45 : decode bS_holdWholeStart 45 = .ok (.getfield 11, 3) := by decide +kernel
theorem dS_holdWholeStart_48 : decode bS_holdWholeStart 48 = .ok (.iload_n 1, 1) := by decide +kernel
theorem dS_holdWholeStart_49 : decode bS_holdWholeStart 49 = .ok (.aaload, 1) := by decide +kernel
theorem dS_holdWholeStart_50 : decode bS_holdWholeStart 50 = .ok (.iload_n 2, 1) := by decide +kernel
theorem dS_holdWholeStart_51 : decode bS_holdWholeStart 51 = .ok (.iaload, 1) := by decide +kernel
theorem dS_holdWholeStart_52 : decode bS_holdWholeStart 52 = .ok (.iconst 1, 1) := by decide +kernel
theorem dS_holdWholeStart_53 : decode bS_holdWholeStart 53 = .ok (.iand, 1) := by decide +kernel
theorem dS_holdWholeStart_54 : decode bS_holdWholeStart 54 = .ok (.ifCond .eq 5, 3) := by decide +kernel
theorem dS_holdWholeStart_57 : decode bS_holdWholeStart 57 = .ok (.iconst 1, 1) := by decide +kernel
theorem dS_holdWholeStart_58 : decode bS_holdWholeStart 58 = .ok (.ireturn, 1) := by decide +kernel
theorem dS_holdWholeStart_59 : decode bS_holdWholeStart 59 = .ok (.iinc 2 1, 3) := by decide +kernel
theorem dS_holdWholeStart_62 : decode bS_holdWholeStart 62 = .ok (.goto (-60), 3) := by decide +kernel
theorem dS_holdWholeStart_65 : decode bS_holdWholeStart 65 = .ok (.iconst 0, 1) := by decide +kernel
theorem dS_holdWholeStart_66 : decode bS_holdWholeStart 66 = .ok (.ireturn, 1) := by decide +kernel
theorem dS_makeNext_0 : decode bS_makeNext 0 = .ok (.aload_n 0, 1) := by decide +kernel
theorem dS_makeNext_1 : decode bS_makeNext 1 = .ok (.getfield 11, 3) := by decide +kernel
theorem dS_makeNext_4 : decode bS_makeNext 4 = .ok (.iload_n 1, 1) := by decide +kernel
theorem dS_makeNext_5 : decode bS_makeNext 5 = .ok (.aaload, 1) := by decide +kernel
theorem dS_makeNext_6 : decode bS_makeNext 6 = .ok (.iconst 0, 1) := by decide +kernel
theorem dS_makeNext_7 : decode bS_makeNext 7 = .ok (.invokestatic 24, 3) := by decide +kernel
theorem dS_makeNext_10 : decode bS_makeNext 10 = .ok (.iconst 0, 1) := by decide +kernel
theorem dS_makeNext_11 : decode bS_makeNext 11 = .ok (.istore_n 3, 1) := by decide +kernel
theorem dS_makeNext_12 : decode bS_makeNext 12 = .ok (.iload_n 3, 1) := by decide +kernel
theorem dS_makeNext_13 : decode bS_makeNext 13 = .ok (.iconst 1, 1) := by decide +kernel
theorem dS_makeNext_14 : decode bS_makeNext 14 = .ok (.iadd, 1) := by decide +kernel
theorem dS_makeNext_15 : decode bS_makeNext 15 = .ok (.aload_n 0, 1) := by decide +kernel
theorem dS_makeNext_16 : decode bS_makeNext 16 = .ok (.getfield 20, 3) := by decide +kernel
theorem dS_makeNext_19 : decode bS_makeNext 19 = .ok (.getfield 48, 3) := by decide +kernel
theorem dS_makeNext_22 : decode bS_makeNext 22 = .ok (.if_icmp .ge 42, 3) := by decide +kernel
theorem dS_makeNext_25 : decode bS_makeNext 25 = .ok (.aload_n 0, 1) := by decide +kernel
theorem dS_makeNext_26 : decode bS_makeNext 26 = .ok (.getfield 20, 3) := by decide +kernel
theorem dS_makeNext_29 : decode bS_makeNext 29 = .ok (.getfield 51, 3) := by decide +kernel
theorem dS_makeNext_32 : decode bS_makeNext 32 = .ok (.iload_n 3, 1) := by decide +kernel
theorem dS_makeNext_33 : decode bS_makeNext 33 = .ok (.iaload, 1) := by decide +kernel
theorem dS_makeNext_34 : decode bS_makeNext 34 = .ok (.iload_n 2, 1) := by decide +kernel
theorem dS_makeNext_35 : decode bS_makeNext 35 = .ok (.if_icmp .ne 23, 3) := by decide +kernel
theorem dS_makeNext_38 : decode bS_makeNext 38 = .ok (.aload_n 0, 1) := by decide +kernel
theorem dS_makeNext_39 : decode bS_makeNext 39 = .ok (.getfield 11, 3) := by decide +kernel
theorem dS_makeNext_42 : decode bS_makeNext 42 = .ok (.iload_n 1, 1) := by decide +kernel
theorem dS_makeNext_43 : decode bS_makeNext 43 = .ok (.aaload, 1) := by decide +kernel
theorem dS_makeNext_44 : decode bS_makeNext 44 = .ok (.iload_n 3, 1) := by decide +kernel
theorem dS_makeNext_45 : decode bS_makeNext 45 = .ok (.iconst 1, 1) := by decide +kernel
theorem dS_makeNext_46 : decode bS_makeNext 46 = .ok (.iadd, 1) := by decide +kernel
theorem dS_makeNext_47 : decode bS_makeNext 47 = .ok (.aload_n 0, 1) := by decide +kernel
theorem dS_makeNext_48 : decode bS_makeNext 48 = .ok (.getfield 11, 3) := by decide +kernel
theorem dS_makeNext_51 : decode bS_makeNext 51 = .ok (.iload_n 1, 1) := by decide +kernel
theorem dS_makeNext_52 : decode bS_makeNext 52 = .ok (.iconst 1, 1) := by decide +kernel
theorem dS_makeNext_53 : decode bS_makeNext 53 = .ok (.isub, 1) := by decide +kernel
theorem dS_makeNext_54 : decode bS_makeNext 54 = .ok (.aaload, 1) := by decide +kernel
theorem dS_makeNext_55 : decode bS_makeNext 55 = .ok (.iload_n 3, 1) := by decide +kernel
theorem dS_makeNext_56 : decode bS_makeNext 56 = .ok (.iaload, 1) := by decide +kernel
theorem dS_makeNext_57 : decode bS_makeNext 57 = .ok (.iastore, 1) := by decide +kernel
theorem dS_makeNext_58 : decode bS_makeNext 58 = .ok (.iinc 3 1, 3) := by decide +kernel
theorem dS_makeNext_61 : decode bS_makeNext 61 = .ok (.goto (-49), 3) := by decide +kernel
theorem dS_makeNext_64 : decode bS_makeNext 64 = .ok (.aload_n 0, 1) := by decide +kernel
theorem dS_makeNext_65 : decode bS_makeNext 65 = .ok (.iload_n 1, 1) := by decide +kernel
theorem dS_makeNext_66 : decode bS_makeNext 66 = .ok (.invokevirtual 44, 3) := by decide +kernel
theorem dS_makeNext_69 : decode bS_makeNext 69 = .ok (.return_, 1) := by decide +kernel
theorem dS_codeOf_0 : decode bS_codeOf 0 = .ok (.iload_n 2, 1) := by decide +kernel
theorem dS_codeOf_1 : decode bS_codeOf 1 = .ok (.istore_n 3, 1) := by decide +kernel
theorem dS_codeOf_2 : decode bS_codeOf 2 = .ok (.iconst 0, 1) := by decide +kernel
theorem dS_codeOf_3 : decode bS_codeOf 3 = .ok (.istore 4, 2) := by decide +kernel
theorem dS_codeOf_5 : decode bS_codeOf 5 = .ok (.iload 4, 2) := by decide +kernel
theorem dS_codeOf_7 : decode bS_codeOf 7 = .ok (.aload_n 0, 1) := by decide +kernel
theorem dS_codeOf_8 : decode bS_codeOf 8 = .ok (.getfield 20, 3) := by decide +kernel
theorem dS_codeOf_11 : decode bS_codeOf 11 = .ok (.getfield 48, 3) := by decide +kernel
theorem dS_codeOf_14 : decode bS_codeOf 14 = .ok (.if_icmp .ge 76, 3) := by decide +kernel
theorem dS_codeOf_17 : decode bS_codeOf 17 = .ok (.aload_n 0, 1) := by decide +kernel
theorem dS_codeOf_18 : decode bS_codeOf 18 = .ok (.getfield 11, 3) := by decide +kernel
theorem dS_codeOf_21 : decode bS_codeOf 21 = .ok (.iload_n 1, 1) := by decide +kernel
theorem dS_codeOf_22 : decode bS_codeOf 22 = .ok (.aaload, 1) := by decide +kernel
theorem dS_codeOf_23 : decode bS_codeOf 23 = .ok (.iload 4, 2) := by decide +kernel
theorem dS_codeOf_25 : decode bS_codeOf 25 = .ok (.iaload, 1) := by decide +kernel
theorem dS_codeOf_26 : decode bS_codeOf 26 = .ok (.invokestatic 54, 3) := by decide +kernel
theorem dS_codeOf_29 : decode bS_codeOf 29 = .ok (.istore 5, 2) := by decide +kernel
theorem dS_codeOf_31 : decode bS_codeOf 31 = .ok (.iload_n 3, 1) := by decide +kernel
theorem dS_codeOf_32 : decode bS_codeOf 32 = .ok (.iload 5, 2) := by decide +kernel
theorem dS_codeOf_34 : decode bS_codeOf 34 = .ok (.if_icmp .ge 45, 3) := by decide +kernel
theorem dS_codeOf_37 : decode bS_codeOf 37 = .ok (.sipush 1000, 3) := by decide +kernel
theorem dS_codeOf_40 : decode bS_codeOf 40 = .ok (.aload_n 0, 1) := by decide +kernel
theorem dS_codeOf_41 : decode bS_codeOf 41 = .ok (.getfield 20, 3) := by decide +kernel
theorem dS_codeOf_44 : decode bS_codeOf 44 = .ok (.getfield 63, 3) := by decide +kernel
theorem dS_codeOf_47 : decode bS_codeOf 47 = .ok (.iload 4, 2) := by decide +kernel
theorem dS_codeOf_49 : decode bS_codeOf 49 = .ok (.iaload, 1) := by decide +kernel
theorem dS_codeOf_50 : decode bS_codeOf 50 = .ok (.imul, 1) := by decide +kernel
theorem dS_codeOf_51 : decode bS_codeOf 51 = .ok (.bipush 100, 2) := by decide +kernel
theorem dS_codeOf_53 : decode bS_codeOf 53 = .ok (.aload_n 0, 1) := by decide +kernel
theorem dS_codeOf_54 : decode bS_codeOf 54 = .ok (.getfield 20, 3) := by decide +kernel
theorem dS_codeOf_57 : decode bS_codeOf 57 = .ok (.iload 4, 2) := by decide +kernel
theorem dS_codeOf_59 : decode bS_codeOf 59 = .ok (.invokevirtual 66, 3) := by decide +kernel
theorem dS_codeOf_62 : decode bS_codeOf 62 = .ok (.imul, 1) := by decide +kernel
theorem dS_codeOf_63 : decode bS_codeOf 63 = .ok (.iadd, 1) := by decide +kernel
theorem dS_codeOf_64 : decode bS_codeOf 64 = .ok (.aload_n 0, 1) := by decide +kernel
theorem dS_codeOf_65 : decode bS_codeOf 65 = .ok (.getfield 11, 3) := by decide +kernel
theorem dS_codeOf_68 : decode bS_codeOf 68 = .ok (.iload_n 1, 1) := by decide +kernel
theorem dS_codeOf_69 : decode bS_codeOf 69 = .ok (.aaload, 1) := by decide +kernel
theorem dS_codeOf_70 : decode bS_codeOf 70 = .ok (.iload 4, 2) := by decide +kernel
theorem dS_codeOf_72 : decode bS_codeOf 72 = .ok (.iaload, 1) := by decide +kernel
theorem dS_codeOf_73 : decode bS_codeOf 73 = .ok (.iload_n 3, 1) := by decide +kernel
theorem dS_codeOf_74 : decode bS_codeOf 74 = .ok (.invokestatic 69, 3) := by decide +kernel
theorem dS_codeOf_77 : decode bS_codeOf 77 = .ok (.iadd, 1) := by decide +kernel
theorem dS_codeOf_78 : decode bS_codeOf 78 = .ok (.ireturn, 1) := by decide +kernel
theorem dS_codeOf_79 : decode bS_codeOf 79 = .ok (.iload_n 3, 1) := by decide +kernel
theorem dS_codeOf_80 : decode bS_codeOf 80 = .ok (.iload 5, 2) := by decide +kernel
theorem dS_codeOf_82 : decode bS_codeOf 82 = .ok (.isub, 1) := by decide +kernel
theorem dS_codeOf_83 : decode bS_codeOf 83 = .ok (.istore_n 3, 1) := by decide +kernel
theorem dS_codeOf_84 : decode bS_codeOf 84 = .ok (.iinc 4 1, 3) := by decide +kernel
theorem dS_codeOf_87 : decode bS_codeOf 87 = .ok (.goto (-82), 3) := by decide +kernel
theorem dS_codeOf_90 : decode bS_codeOf 90 = .ok (.iconst 0, 1) := by decide +kernel
theorem dS_codeOf_91 : decode bS_codeOf 91 = .ok (.ireturn, 1) := by decide +kernel
theorem dS_originAt_0 : decode bS_originAt 0 = .ok (.iload_n 1, 1) := by decide +kernel
theorem dS_originAt_1 : decode bS_originAt 1 = .ok (.istore_n 2, 1) := by decide +kernel
theorem dS_originAt_2 : decode bS_originAt 2 = .ok (.iconst 0, 1) := by decide +kernel
theorem dS_originAt_3 : decode bS_originAt 3 = .ok (.istore_n 3, 1) := by decide +kernel
theorem dS_originAt_4 : decode bS_originAt 4 = .ok (.iload_n 3, 1) := by decide +kernel
theorem dS_originAt_5 : decode bS_originAt 5 = .ok (.bipush 9, 2) := by decide +kernel
theorem dS_originAt_7 : decode bS_originAt 7 = .ok (.if_icmp .ge 26, 3) := by decide +kernel
theorem dS_originAt_10 : decode bS_originAt 10 = .ok (.iload_n 0, 1) := by decide +kernel
theorem dS_originAt_11 : decode bS_originAt 11 = .ok (.iload_n 3, 1) := by decide +kernel
theorem dS_originAt_12 : decode bS_originAt 12 = .ok (.ishr, 1) := by decide +kernel
theorem dS_originAt_13 : decode bS_originAt 13 = .ok (.iconst 1, 1) := by decide +kernel
theorem dS_originAt_14 : decode bS_originAt 14 = .ok (.iand, 1) := by decide +kernel
theorem dS_originAt_15 : decode bS_originAt 15 = .ok (.ifCond .eq 12, 3) := by decide +kernel
theorem dS_originAt_18 : decode bS_originAt 18 = .ok (.iload_n 2, 1) := by decide +kernel
theorem dS_originAt_19 : decode bS_originAt 19 = .ok (.ifCond .ne 5, 3) := by decide +kernel
theorem dS_originAt_22 : decode bS_originAt 22 = .ok (.iload_n 3, 1) := by decide +kernel
theorem dS_originAt_23 : decode bS_originAt 23 = .ok (.ireturn, 1) := by decide +kernel
theorem dS_originAt_24 : decode bS_originAt 24 = .ok (.iinc 2 (-1), 3) := by decide +kernel
theorem dS_originAt_27 : decode bS_originAt 27 = .ok (.iinc 3 1, 3) := by decide +kernel
theorem dS_originAt_30 : decode bS_originAt 30 = .ok (.goto (-26), 3) := by decide +kernel
theorem dS_originAt_33 : decode bS_originAt 33 = .ok (.iconst 0, 1) := by decide +kernel
theorem dS_originAt_34 : decode bS_originAt 34 = .ok (.ireturn, 1) := by decide +kernel
theorem dT_init_0 : decode bT_init 0 = .ok (.aload_n 0, 1) := by decide +kernel
theorem dT_init_1 : decode bT_init 1 = .ok (.invokespecial 3, 3) := by decide +kernel
theorem dT_init_4 : decode bT_init 4 = .ok (.aload_n 0, 1) := by decide +kernel
theorem dT_init_5 : decode bT_init 5 = .ok (.bipush 6, 2) := by decide +kernel
theorem dT_init_7 : decode bT_init 7 = .ok (.bipush 81, 2) := by decide +kernel
theorem dT_init_9 : decode bT_init 9 = .ok (.multianewarray 9 2, 4) := by decide +kernel
theorem dT_init_13 : decode bT_init 13 = .ok (.putfield 11, 3) := by decide +kernel
theorem dT_init_16 : decode bT_init 16 = .ok (.aload_n 0, 1) := by decide +kernel
theorem dT_init_17 : decode bT_init 17 = .ok (.bipush 24, 2) := by decide +kernel
theorem dT_init_19 : decode bT_init 19 = .ok (.bipush 81, 2) := by decide +kernel
theorem dT_init_21 : decode bT_init 21 = .ok (.multianewarray 9 2, 4) := by decide +kernel
theorem dT_init_25 : decode bT_init 25 = .ok (.putfield 16, 3) := by decide +kernel
theorem dT_init_28 : decode bT_init 28 = .ok (.aload_n 0, 1) := by decide +kernel
theorem dT_init_29 : decode bT_init 29 = .ok (.aload_n 1, 1) := by decide +kernel
theorem dT_init_30 : decode bT_init 30 = .ok (.putfield 19, 3) := by decide +kernel
theorem dT_init_33 : decode bT_init 33 = .ok (.aload_n 0, 1) := by decide +kernel
theorem dT_init_34 : decode bT_init 34 = .ok (.aload_n 2, 1) := by decide +kernel
theorem dT_init_35 : decode bT_init 35 = .ok (.putfield 23, 3) := by decide +kernel
theorem dT_init_38 : decode bT_init 38 = .ok (.return_, 1) := by decide +kernel
theorem dT_fillUpTo_0 : decode bT_fillUpTo 0 = .ok (.iload_n 1, 1) := by decide +kernel
theorem dT_fillUpTo_1 : decode bT_fillUpTo 1 = .ok (.istore_n 2, 1) := by decide +kernel
theorem dT_fillUpTo_2 : decode bT_fillUpTo 2 = .ok (.iload_n 2, 1) := by decide +kernel
theorem dT_fillUpTo_3 : decode bT_fillUpTo 3 = .ok (.ifCond .lt 15, 3) := by decide +kernel
theorem dT_fillUpTo_6 : decode bT_fillUpTo 6 = .ok (.aload_n 0, 1) := by decide +kernel
theorem dT_fillUpTo_7 : decode bT_fillUpTo 7 = .ok (.iload_n 2, 1) := by decide +kernel
theorem dT_fillUpTo_8 : decode bT_fillUpTo 8 = .ok (.iload_n 1, 1) := by decide +kernel
theorem dT_fillUpTo_9 : decode bT_fillUpTo 9 = .ok (.invokevirtual 58, 3) := by decide +kernel
theorem dT_fillUpTo_12 : decode bT_fillUpTo 12 = .ok (.iinc 2 (-1), 3) := by decide +kernel
theorem dT_fillUpTo_15 : decode bT_fillUpTo 15 = .ok (.goto (-13), 3) := by decide +kernel
theorem dT_fillUpTo_18 : decode bT_fillUpTo 18 = .ok (.return_, 1) := by decide +kernel
theorem dT_fillStretch_0 : decode bT_fillStretch 0 = .ok (.iconst 0, 1) := by decide +kernel
theorem dT_fillStretch_1 : decode bT_fillStretch 1 = .ok (.istore_n 3, 1) := by decide +kernel
theorem dT_fillStretch_2 : decode bT_fillStretch 2 = .ok (.iload_n 3, 1) := by decide +kernel
theorem dT_fillStretch_3 : decode bT_fillStretch 3 = .ok (.bipush 6, 2) := by decide +kernel
theorem dT_fillStretch_5 : decode bT_fillStretch 5 = .ok (.if_icmp .ge 22, 3) := by decide +kernel
theorem dT_fillStretch_8 : decode bT_fillStretch 8 = .ok (.aload_n 0, 1) := by decide +kernel
theorem dT_fillStretch_9 : decode bT_fillStretch 9 = .ok (.getfield 11, 3) := by decide +kernel
theorem dT_fillStretch_12 : decode bT_fillStretch 12 = .ok (.iload_n 3, 1) := by decide +kernel
theorem dT_fillStretch_13 : decode bT_fillStretch 13 = .ok (.aaload, 1) := by decide +kernel
theorem dT_fillStretch_14 : decode bT_fillStretch 14 = .ok (.iload_n 1, 1) := by decide +kernel
theorem dT_fillStretch_15 : decode bT_fillStretch 15 = .ok (.iload_n 2, 1) := by decide +kernel
theorem dT_fillStretch_16 : decode bT_fillStretch 16 = .ok (.invokestatic 31, 3) := by decide +kernel
theorem dT_fillStretch_19 : decode bT_fillStretch 19 = .ok (.iconst (-1), 1) := by decide +kernel
theorem dT_fillStretch_20 : decode bT_fillStretch 20 = .ok (.iastore, 1) := by decide +kernel
theorem dT_fillStretch_21 : decode bT_fillStretch 21 = .ok (.iinc 3 1, 3) := by decide +kernel
theorem dT_fillStretch_24 : decode bT_fillStretch 24 = .ok (.goto (-22), 3) := by decide +kernel
theorem dT_fillStretch_27 : decode bT_fillStretch 27 = .ok (.iconst 1, 1) := by decide +kernel
theorem dT_fillStretch_28 : decode bT_fillStretch 28 = .ok (.istore_n 3, 1) := by decide +kernel
theorem dT_fillStretch_29 : decode bT_fillStretch 29 = .ok (.iconst 0, 1) := by decide +kernel
theorem dT_fillStretch_30 : decode bT_fillStretch 30 = .ok (.istore 4, 2) := by decide +kernel
theorem dT_fillStretch_32 : decode bT_fillStretch 32 = .ok (.iload_n 3, 1) := by decide +kernel
theorem dT_fillStretch_33 : decode bT_fillStretch 33 = .ok (.ifCond .eq 24, 3) := by decide +kernel
theorem dT_fillStretch_36 : decode bT_fillStretch 36 = .ok (.iload 4, 2) := by decide +kernel
theorem dT_fillStretch_38 : decode bT_fillStretch 38 = .ok (.sipush 1000, 3) := by decide +kernel
theorem dT_fillStretch_41 : decode bT_fillStretch 41 = .ok (.if_icmp .ge 16, 3) := by decide +kernel
theorem dT_fillStretch_44 : decode bT_fillStretch 44 = .ok (.aload_n 0, 1) := by decide +kernel
theorem dT_fillStretch_45 : decode bT_fillStretch 45 = .ok (.iload_n 1, 1) := by decide +kernel
theorem dT_fillStretch_46 : decode bT_fillStretch 46 = .ok (.iload_n 2, 1) := by decide +kernel
theorem dT_fillStretch_47 : decode bT_fillStretch 47 = .ok (.invokevirtual 62, 3) := by decide +kernel
theorem dT_fillStretch_50 : decode bT_fillStretch 50 = .ok (.istore_n 3, 1) := by decide +kernel
theorem dT_fillStretch_51 : decode bT_fillStretch 51 = .ok (.iinc 4 1, 3) := by decide +kernel
theorem dT_fillStretch_54 : decode bT_fillStretch 54 = .ok (.goto (-22), 3) := by decide +kernel
theorem dT_fillStretch_57 : decode bT_fillStretch 57 = .ok (.return_, 1) := by decide +kernel
theorem dT_stretch_0 : decode bT_stretch 0 = .ok (.iload_n 0, 1) := by decide +kernel
theorem dT_stretch_1 : decode bT_stretch 1 = .ok (.bipush 9, 2) := by decide +kernel
theorem dT_stretch_3 : decode bT_stretch 3 = .ok (.imul, 1) := by decide +kernel
theorem dT_stretch_4 : decode bT_stretch 4 = .ok (.iload_n 1, 1) := by decide +kernel
theorem dT_stretch_5 : decode bT_stretch 5 = .ok (.iadd, 1) := by decide +kernel
theorem dT_stretch_6 : decode bT_stretch 6 = .ok (.ireturn, 1) := by decide +kernel
theorem dT_lower_0 : decode bT_lower 0 = .ok (.iconst 0, 1) := by decide +kernel
theorem dT_lower_1 : decode bT_lower 1 = .ok (.istore_n 3, 1) := by decide +kernel
theorem dT_lower_2 : decode bT_lower 2 = .ok (.aload_n 0, 1) := by decide +kernel
theorem dT_lower_3 : decode bT_lower 3 = .ok (.getfield 19, 3) := by decide +kernel
theorem dT_lower_6 : decode bT_lower 6 = .ok (.getfield 51, 3) := by decide +kernel
theorem dT_lower_9 : decode bT_lower 9 = .ok (.iconst 1, 1) := by decide +kernel
theorem dT_lower_10 : decode bT_lower 10 = .ok (.isub, 1) := by decide +kernel
theorem dT_lower_11 : decode bT_lower 11 = .ok (.istore 4, 2) := by decide +kernel
theorem dT_lower_13 : decode bT_lower 13 = .ok (.iload 4, 2) := by decide +kernel
theorem dT_lower_15 : decode bT_lower 15 = .ok (.ifCond .lt 100, 3) := by decide +kernel
theorem dT_lower_18 : decode bT_lower 18 = .ok (.aload_n 0, 1) := by decide +kernel
theorem dT_lower_19 : decode bT_lower 19 = .ok (.iload 4, 2) := by decide +kernel
theorem dT_lower_21 : decode bT_lower 21 = .ok (.iload_n 1, 1) := by decide +kernel
theorem dT_lower_22 : decode bT_lower 22 = .ok (.iload_n 2, 1) := by decide +kernel
theorem dT_lower_23 : decode bT_lower 23 = .ok (.invokevirtual 66, 3) := by decide +kernel
theorem dT_lower_26 : decode bT_lower 26 = .ok (.istore 5, 2) := by decide +kernel
theorem dT_lower_28 : decode bT_lower 28 = .ok (.aload_n 0, 1) := by decide +kernel
theorem dT_lower_29 : decode bT_lower 29 = .ok (.getfield 16, 3) := by decide +kernel
theorem dT_lower_32 : decode bT_lower 32 = .ok (.iload 4, 2) := by decide +kernel
theorem dT_lower_34 : decode bT_lower 34 = .ok (.aaload, 1) := by decide +kernel
theorem dT_lower_35 : decode bT_lower 35 = .ok (.iload_n 1, 1) := by decide +kernel
theorem dT_lower_36 : decode bT_lower 36 = .ok (.iload_n 2, 1) := by decide +kernel
theorem dT_lower_37 : decode bT_lower 37 = .ok (.invokestatic 31, 3) := by decide +kernel
theorem dT_lower_40 : decode bT_lower 40 = .ok (.iload 5, 2) := by decide +kernel
theorem dT_lower_42 : decode bT_lower 42 = .ok (.iastore, 1) := by decide +kernel
theorem dT_lower_43 : decode bT_lower 43 = .ok (.aload_n 0, 1) := by decide +kernel
theorem dT_lower_44 : decode bT_lower 44 = .ok (.getfield 19, 3) := by decide +kernel
theorem dT_lower_47 : decode bT_lower 47 = .ok (.iload 4, 2) := by decide +kernel
theorem dT_lower_49 : decode bT_lower 49 = .ok (.invokevirtual 69, 3) := by decide +kernel
theorem dT_lower_52 : decode bT_lower 52 = .ok (.ifCond .ne 57, 3) := by decide +kernel
theorem dT_lower_55 : decode bT_lower 55 = .ok (.iload 5, 2) := by decide +kernel
theorem dT_lower_57 : decode bT_lower 57 = .ok (.iconst (-1), 1) := by decide +kernel
theorem dT_lower_58 : decode bT_lower 58 = .ok (.if_icmp .eq 51, 3) := by decide +kernel
theorem dT_lower_61 : decode bT_lower 61 = .ok (.aload_n 0, 1) := by decide +kernel
theorem dT_lower_62 : decode bT_lower 62 = .ok (.getfield 11, 3) := by decide +kernel
theorem dT_lower_65 : decode bT_lower 65 = .ok (.aload_n 0, 1) := by decide +kernel
theorem dT_lower_66 : decode bT_lower 66 = .ok (.getfield 19, 3) := by decide +kernel
theorem dT_lower_69 : decode bT_lower 69 = .ok (.iload 4, 2) := by decide +kernel
theorem dT_lower_71 : decode bT_lower 71 = .ok (.invokevirtual 73, 3) := by decide +kernel
theorem dT_lower_74 : decode bT_lower 74 = .ok (.aaload, 1) := by decide +kernel
theorem dT_lower_75 : decode bT_lower 75 = .ok (.astore 6, 2) := by decide +kernel
theorem dT_lower_77 : decode bT_lower 77 = .ok (.iload 5, 2) := by decide +kernel
theorem dT_lower_79 : decode bT_lower 79 = .ok (.iconst 1, 1) := by decide +kernel
theorem dT_lower_80 : decode bT_lower 80 = .ok (.iadd, 1) := by decide +kernel
theorem dT_lower_81 : decode bT_lower 81 = .ok (.aload 6, 2) := by decide +kernel
theorem dT_lower_83 : decode bT_lower 83 = .ok (.iload_n 1, 1) := by decide +kernel
theorem dT_lower_84 : decode bT_lower 84 = .ok (.iload_n 2, 1) := by decide +kernel
theorem dT_lower_85 : decode bT_lower 85 = .ok (.invokestatic 31, 3) := by decide +kernel
theorem dT_lower_88 : decode bT_lower 88 = .ok (.iaload, 1) := by decide +kernel
theorem dT_lower_89 : decode bT_lower 89 = .ok (.invokestatic 76, 3) := by decide +kernel
theorem dT_lower_92 : decode bT_lower 92 = .ok (.ifCond .eq 17, 3) := by decide +kernel
theorem dT_lower_95 : decode bT_lower 95 = .ok (.aload 6, 2) := by decide +kernel
theorem dT_lower_97 : decode bT_lower 97 = .ok (.iload_n 1, 1) := by decide +kernel
theorem dT_lower_98 : decode bT_lower 98 = .ok (.iload_n 2, 1) := by decide +kernel
theorem dT_lower_99 : decode bT_lower 99 = .ok (.invokestatic 31, 3) := by decide +kernel
theorem dT_lower_102 : decode bT_lower 102 = .ok (.iload 5, 2) := by decide +kernel
theorem dT_lower_104 : decode bT_lower 104 = .ok (.iconst 1, 1) := by decide +kernel
theorem dT_lower_105 : decode bT_lower 105 = .ok (.iadd, 1) := by decide +kernel
theorem dT_lower_106 : decode bT_lower 106 = .ok (.iastore, 1) := by decide +kernel
theorem dT_lower_107 : decode bT_lower 107 = .ok (.iconst 1, 1) := by decide +kernel
theorem dT_lower_108 : decode bT_lower 108 = .ok (.istore_n 3, 1) := by decide +kernel
theorem dT_lower_109 : decode bT_lower 109 = .ok (.iinc 4 (-1), 3) := by decide +kernel
theorem dT_lower_112 : decode bT_lower 112 = .ok (.goto (-99), 3) := by decide +kernel
theorem dT_lower_115 : decode bT_lower 115 = .ok (.iload_n 3, 1) := by decide +kernel
theorem dT_lower_116 : decode bT_lower 116 = .ok (.ireturn, 1) := by decide +kernel
theorem dT_leastOfRow_0 : decode bT_leastOfRow 0 = .ok (.aload_n 0, 1) := by decide +kernel
theorem dT_leastOfRow_1 : decode bT_leastOfRow 1 = .ok (.getfield 19, 3) := by decide +kernel
theorem dT_leastOfRow_4 : decode bT_leastOfRow 4 = .ok (.getfield 41, 3) := by decide +kernel
theorem dT_leastOfRow_7 : decode bT_leastOfRow 7 = .ok (.iload_n 1, 1) := by decide +kernel
theorem dT_leastOfRow_8 : decode bT_leastOfRow 8 = .ok (.iaload, 1) := by decide +kernel
theorem dT_leastOfRow_9 : decode bT_leastOfRow 9 = .ok (.iconst (-1), 1) := by decide +kernel
theorem dT_leastOfRow_10 : decode bT_leastOfRow 10 = .ok (.if_icmp .ne 14, 3) := by decide +kernel
theorem dT_leastOfRow_13 : decode bT_leastOfRow 13 = .ok (.iload_n 2, 1) := by decide +kernel
theorem dT_leastOfRow_14 : decode bT_leastOfRow 14 = .ok (.iload_n 3, 1) := by decide +kernel
theorem dT_leastOfRow_15 : decode bT_leastOfRow 15 = .ok (.if_icmp .ne 7, 3) := by decide +kernel
theorem dT_leastOfRow_18 : decode bT_leastOfRow 18 = .ok (.iconst 0, 1) := by decide +kernel
theorem dT_leastOfRow_19 : decode bT_leastOfRow 19 = .ok (.goto 4, 3) := by decide +kernel
theorem dT_leastOfRow_22 : decode bT_leastOfRow 22 = .ok (.iconst (-1), 1) := by decide +kernel
theorem dT_leastOfRow_23 : decode bT_leastOfRow 23 = .ok (.ireturn, 1) := by decide +kernel
theorem dT_leastOfRow_24 : decode bT_leastOfRow 24 = .ok (.iconst (-1), 1) := by decide +kernel
theorem dT_leastOfRow_25 : decode bT_leastOfRow 25 = .ok (.istore 4, 2) := by decide +kernel
theorem dT_leastOfRow_27 : decode bT_leastOfRow 27 = .ok (.iload_n 2, 1) := by decide +kernel
theorem dT_leastOfRow_28 : decode bT_leastOfRow 28 = .ok (.istore 5, 2) := by decide +kernel
theorem dT_leastOfRow_30 : decode bT_leastOfRow 30 = .ok (.iload 5, 2) := by decide +kernel
theorem dT_leastOfRow_32 : decode bT_leastOfRow 32 = .ok (.iload_n 3, 1) := by decide +kernel
theorem dT_leastOfRow_33 : decode bT_leastOfRow 33 = .ok (.if_icmp .gt 40, 3) := by decide +kernel
theorem dT_leastOfRow_36 : decode bT_leastOfRow 36 = .ok (.aload_n 0, 1) := by decide +kernel
theorem dT_leastOfRow_37 : decode bT_leastOfRow 37 = .ok (.iload_n 1, 1) := by decide +kernel
theorem dT_leastOfRow_38 : decode bT_leastOfRow 38 = .ok (.iload_n 2, 1) := by decide +kernel
theorem dT_leastOfRow_39 : decode bT_leastOfRow 39 = .ok (.iload 5, 2) := by decide +kernel
theorem dT_leastOfRow_41 : decode bT_leastOfRow 41 = .ok (.iload_n 3, 1) := by decide +kernel
theorem dT_leastOfRow_42 : decode bT_leastOfRow 42 = .ok (.invokevirtual 79, 3) := by decide +kernel
theorem dT_leastOfRow_45 : decode bT_leastOfRow 45 = .ok (.istore 6, 2) := by decide +kernel
theorem dT_leastOfRow_47 : decode bT_leastOfRow 47 = .ok (.iload 6, 2) := by decide +kernel
theorem dT_leastOfRow_49 : decode bT_leastOfRow 49 = .ok (.iconst (-1), 1) := by decide +kernel
theorem dT_leastOfRow_50 : decode bT_leastOfRow 50 = .ok (.if_icmp .eq 17, 3) := by decide +kernel
theorem dT_leastOfRow_53 : decode bT_leastOfRow 53 = .ok (.iload 6, 2) := by decide +kernel
theorem dT_leastOfRow_55 : decode bT_leastOfRow 55 = .ok (.iload 4, 2) := by decide +kernel
theorem dT_leastOfRow_57 : decode bT_leastOfRow 57 = .ok (.invokestatic 76, 3) := by decide +kernel
theorem dT_leastOfRow_60 : decode bT_leastOfRow 60 = .ok (.ifCond .eq 7, 3) := by decide +kernel
theorem dT_leastOfRow_63 : decode bT_leastOfRow 63 = .ok (.iload 6, 2) := by decide +kernel
theorem dT_leastOfRow_65 : decode bT_leastOfRow 65 = .ok (.istore 4, 2) := by decide +kernel
theorem dT_leastOfRow_67 : decode bT_leastOfRow 67 = .ok (.iinc 5 1, 3) := by decide +kernel
theorem dT_leastOfRow_70 : decode bT_leastOfRow 70 = .ok (.goto (-40), 3) := by decide +kernel
theorem dT_leastOfRow_73 : decode bT_leastOfRow 73 = .ok (.iload 4, 2) := by decide +kernel
theorem dT_leastOfRow_75 : decode bT_leastOfRow 75 = .ok (.ireturn, 1) := by decide +kernel
theorem dT_ofSplitRow_0 : decode bT_ofSplitRow 0 = .ok (.aload_n 0, 1) := by decide +kernel
theorem dT_ofSplitRow_1 : decode bT_ofSplitRow 1 = .ok (.aload_n 0, 1) := by decide +kernel
theorem dT_ofSplitRow_2 : decode bT_ofSplitRow 2 = .ok (.getfield 19, 3) := by decide +kernel
theorem dT_ofSplitRow_5 : decode bT_ofSplitRow 5 = .ok (.getfield 41, 3) := by decide +kernel
theorem dT_ofSplitRow_8 : decode bT_ofSplitRow 8 = .ok (.iload_n 1, 1) := by decide +kernel
theorem dT_ofSplitRow_9 : decode bT_ofSplitRow 9 = .ok (.iaload, 1) := by decide +kernel
theorem dT_ofSplitRow_10 : decode bT_ofSplitRow 10 = .ok (.iload_n 2, 1) := by decide +kernel
theorem dT_ofSplitRow_11 : decode bT_ofSplitRow 11 = .ok (.iload_n 3, 1) := by decide +kernel
theorem dT_ofSplitRow_12 : decode bT_ofSplitRow 12 = .ok (.invokevirtual 47, 3) := by decide +kernel
theorem dT_ofSplitRow_15 : decode bT_ofSplitRow 15 = .ok (.istore 5, 2) := by decide +kernel
theorem dT_ofSplitRow_17 : decode bT_ofSplitRow 17 = .ok (.iload 5, 2) := by decide +kernel
theorem dT_ofSplitRow_19 : decode bT_ofSplitRow 19 = .ok (.iconst (-1), 1) := by decide +kernel
theorem dT_ofSplitRow_20 : decode bT_ofSplitRow 20 = .ok (.if_icmp .eq 16, 3) := by decide +kernel
theorem dT_ofSplitRow_23 : decode bT_ofSplitRow 23 = .ok (.iload_n 1, 1) := by decide +kernel
theorem dT_ofSplitRow_24 : decode bT_ofSplitRow 24 = .ok (.iconst 1, 1) := by decide +kernel
theorem dT_ofSplitRow_25 : decode bT_ofSplitRow 25 = .ok (.iadd, 1) := by decide +kernel
theorem dT_ofSplitRow_26 : decode bT_ofSplitRow 26 = .ok (.aload_n 0, 1) := by decide +kernel
theorem dT_ofSplitRow_27 : decode bT_ofSplitRow 27 = .ok (.getfield 19, 3) := by decide +kernel
theorem dT_ofSplitRow_30 : decode bT_ofSplitRow 30 = .ok (.getfield 51, 3) := by decide +kernel
theorem dT_ofSplitRow_33 : decode bT_ofSplitRow 33 = .ok (.if_icmp .lt 5, 3) := by decide +kernel
theorem dT_ofSplitRow_36 : decode bT_ofSplitRow 36 = .ok (.iconst (-1), 1) := by decide +kernel
theorem dT_ofSplitRow_37 : decode bT_ofSplitRow 37 = .ok (.ireturn, 1) := by decide +kernel
theorem dT_ofSplitRow_38 : decode bT_ofSplitRow 38 = .ok (.aload_n 0, 1) := by decide +kernel
theorem dT_ofSplitRow_39 : decode bT_ofSplitRow 39 = .ok (.iload_n 1, 1) := by decide +kernel
theorem dT_ofSplitRow_40 : decode bT_ofSplitRow 40 = .ok (.iconst 1, 1) := by decide +kernel
theorem dT_ofSplitRow_41 : decode bT_ofSplitRow 41 = .ok (.iadd, 1) := by decide +kernel
theorem dT_ofSplitRow_42 : decode bT_ofSplitRow 42 = .ok (.iload_n 3, 1) := by decide +kernel
theorem dT_ofSplitRow_43 : decode bT_ofSplitRow 43 = .ok (.iload 4, 2) := by decide +kernel
theorem dT_ofSplitRow_45 : decode bT_ofSplitRow 45 = .ok (.invokevirtual 55, 3) := by decide +kernel
theorem dT_ofSplitRow_48 : decode bT_ofSplitRow 48 = .ok (.istore 6, 2) := by decide +kernel
theorem dT_ofSplitRow_50 : decode bT_ofSplitRow 50 = .ok (.iload 6, 2) := by decide +kernel
theorem dT_ofSplitRow_52 : decode bT_ofSplitRow 52 = .ok (.iconst (-1), 1) := by decide +kernel
theorem dT_ofSplitRow_53 : decode bT_ofSplitRow 53 = .ok (.if_icmp .ne 7, 3) := by decide +kernel
theorem dT_ofSplitRow_56 : decode bT_ofSplitRow 56 = .ok (.iconst (-1), 1) := by decide +kernel
theorem dT_ofSplitRow_57 : decode bT_ofSplitRow 57 = .ok (.goto 8, 3) := by decide +kernel
theorem dT_ofSplitRow_60 : decode bT_ofSplitRow 60 = .ok (.iload 5, 2) := by decide +kernel
theorem dT_ofSplitRow_62 : decode bT_ofSplitRow 62 = .ok (.iload 6, 2) := by decide +kernel
theorem dT_ofSplitRow_64 : decode bT_ofSplitRow 64 = .ok (.iadd, 1) := by decide +kernel
theorem dT_ofSplitRow_65 : decode bT_ofSplitRow 65 = .ok (.ireturn, 1) := by decide +kernel
theorem dT_ofSymbol_0 : decode bT_ofSymbol 0 = .ok (.iload_n 1, 1) := by decide +kernel
theorem dT_ofSymbol_1 : decode bT_ofSymbol 1 = .ok (.invokestatic 27, 3) := by decide +kernel
theorem dT_ofSymbol_4 : decode bT_ofSymbol 4 = .ok (.ifCond .eq 16, 3) := by decide +kernel
theorem dT_ofSymbol_7 : decode bT_ofSymbol 7 = .ok (.aload_n 0, 1) := by decide +kernel
theorem dT_ofSymbol_8 : decode bT_ofSymbol 8 = .ok (.getfield 11, 3) := by decide +kernel
theorem dT_ofSymbol_11 : decode bT_ofSymbol 11 = .ok (.iload_n 1, 1) := by decide +kernel
theorem dT_ofSymbol_12 : decode bT_ofSymbol 12 = .ok (.aaload, 1) := by decide +kernel
theorem dT_ofSymbol_13 : decode bT_ofSymbol 13 = .ok (.iload_n 2, 1) := by decide +kernel
theorem dT_ofSymbol_14 : decode bT_ofSymbol 14 = .ok (.iload_n 3, 1) := by decide +kernel
theorem dT_ofSymbol_15 : decode bT_ofSymbol 15 = .ok (.invokestatic 31, 3) := by decide +kernel
theorem dT_ofSymbol_18 : decode bT_ofSymbol 18 = .ok (.iaload, 1) := by decide +kernel
theorem dT_ofSymbol_19 : decode bT_ofSymbol 19 = .ok (.ireturn, 1) := by decide +kernel
theorem dT_ofSymbol_20 : decode bT_ofSymbol 20 = .ok (.aload_n 0, 1) := by decide +kernel
theorem dT_ofSymbol_21 : decode bT_ofSymbol 21 = .ok (.getfield 23, 3) := by decide +kernel
theorem dT_ofSymbol_24 : decode bT_ofSymbol 24 = .ok (.iload_n 1, 1) := by decide +kernel
theorem dT_ofSymbol_25 : decode bT_ofSymbol 25 = .ok (.iload_n 2, 1) := by decide +kernel
theorem dT_ofSymbol_26 : decode bT_ofSymbol 26 = .ok (.iload_n 3, 1) := by decide +kernel
theorem dT_ofSymbol_27 : decode bT_ofSymbol 27 = .ok (.invokevirtual 35, 3) := by decide +kernel
theorem dT_ofSymbol_30 : decode bT_ofSymbol 30 = .ok (.ifCond .eq 7, 3) := by decide +kernel
theorem dT_ofSymbol_33 : decode bT_ofSymbol 33 = .ok (.iconst 0, 1) := by decide +kernel
theorem dT_ofSymbol_34 : decode bT_ofSymbol 34 = .ok (.goto 4, 3) := by decide +kernel
theorem dT_ofSymbol_37 : decode bT_ofSymbol 37 = .ok (.iconst (-1), 1) := by decide +kernel
theorem dT_ofSymbol_38 : decode bT_ofSymbol 38 = .ok (.ireturn, 1) := by decide +kernel
theorem dT_ofRow_0 : decode bT_ofRow 0 = .ok (.aload_n 0, 1) := by decide +kernel
theorem dT_ofRow_1 : decode bT_ofRow 1 = .ok (.getfield 16, 3) := by decide +kernel
theorem dT_ofRow_4 : decode bT_ofRow 4 = .ok (.iload_n 1, 1) := by decide +kernel
theorem dT_ofRow_5 : decode bT_ofRow 5 = .ok (.aaload, 1) := by decide +kernel
theorem dT_ofRow_6 : decode bT_ofRow 6 = .ok (.iload_n 2, 1) := by decide +kernel
theorem dT_ofRow_7 : decode bT_ofRow 7 = .ok (.iload_n 3, 1) := by decide +kernel
theorem dT_ofRow_8 : decode bT_ofRow 8 = .ok (.invokestatic 31, 3) := by decide +kernel
theorem dT_ofRow_11 : decode bT_ofRow 11 = .ok (.iaload, 1) := by decide +kernel
theorem dT_ofRow_12 : decode bT_ofRow 12 = .ok (.ireturn, 1) := by decide +kernel
theorem dT_isFewer_0 : decode bT_isFewer 0 = .ok (.iload_n 1, 1) := by decide +kernel
theorem dT_isFewer_1 : decode bT_isFewer 1 = .ok (.iconst (-1), 1) := by decide +kernel
theorem dT_isFewer_2 : decode bT_isFewer 2 = .ok (.if_icmp .eq 8, 3) := by decide +kernel
theorem dT_isFewer_5 : decode bT_isFewer 5 = .ok (.iload_n 0, 1) := by decide +kernel
theorem dT_isFewer_6 : decode bT_isFewer 6 = .ok (.iload_n 1, 1) := by decide +kernel
theorem dT_isFewer_7 : decode bT_isFewer 7 = .ok (.if_icmp .ge 7, 3) := by decide +kernel
theorem dT_isFewer_10 : decode bT_isFewer 10 = .ok (.iconst 1, 1) := by decide +kernel
theorem dT_isFewer_11 : decode bT_isFewer 11 = .ok (.goto 4, 3) := by decide +kernel
theorem dT_isFewer_14 : decode bT_isFewer 14 = .ok (.iconst 0, 1) := by decide +kernel
theorem dT_isFewer_15 : decode bT_isFewer 15 = .ok (.ireturn, 1) := by decide +kernel
theorem dW_init_0 : decode bW_init 0 = .ok (.aload_n 0, 1) := by decide +kernel
theorem dW_init_1 : decode bW_init 1 = .ok (.invokespecial 3, 3) := by decide +kernel
theorem dW_init_4 : decode bW_init 4 = .ok (.aload_n 0, 1) := by decide +kernel
theorem dW_init_5 : decode bW_init 5 = .ok (.sipush 8000, 3) := by decide +kernel
theorem dW_init_8 : decode bW_init 8 = .ok (.newarray .int, 2) := by decide +kernel
theorem dW_init_10 : decode bW_init 10 = .ok (.putfield 9, 3) := by decide +kernel
theorem dW_init_13 : decode bW_init 13 = .ok (.aload_n 0, 1) := by decide +kernel
theorem dW_init_14 : decode bW_init 14 = .ok (.iconst 0, 1) := by decide +kernel
theorem dW_init_15 : decode bW_init 15 = .ok (.putfield 15, 3) := by decide +kernel
theorem dW_init_18 : decode bW_init 18 = .ok (.aload_n 0, 1) := by decide +kernel
theorem dW_init_19 : decode bW_init 19 = .ok (.bipush 54, 2) := by decide +kernel
theorem dW_init_21 : decode bW_init 21 = .ok (.newarray .int, 2) := by decide +kernel
theorem dW_init_23 : decode bW_init 23 = .ok (.putfield 19, 3) := by decide +kernel
theorem dW_init_26 : decode bW_init 26 = .ok (.aload_n 0, 1) := by decide +kernel
theorem dW_init_27 : decode bW_init 27 = .ok (.bipush 54, 2) := by decide +kernel
theorem dW_init_29 : decode bW_init 29 = .ok (.newarray .int, 2) := by decide +kernel
theorem dW_init_31 : decode bW_init 31 = .ok (.putfield 22, 3) := by decide +kernel
theorem dW_init_34 : decode bW_init 34 = .ok (.aload_n 0, 1) := by decide +kernel
theorem dW_init_35 : decode bW_init 35 = .ok (.bipush 54, 2) := by decide +kernel
theorem dW_init_37 : decode bW_init 37 = .ok (.newarray .int, 2) := by decide +kernel
theorem dW_init_39 : decode bW_init 39 = .ok (.putfield 25, 3) := by decide +kernel
theorem dW_init_42 : decode bW_init 42 = .ok (.aload_n 0, 1) := by decide +kernel
theorem dW_init_43 : decode bW_init 43 = .ok (.iconst 0, 1) := by decide +kernel
theorem dW_init_44 : decode bW_init 44 = .ok (.putfield 28, 3) := by decide +kernel
theorem dW_init_47 : decode bW_init 47 = .ok (.aload_n 0, 1) := by decide +kernel
theorem dW_init_48 : decode bW_init 48 = .ok (.aload_n 1, 1) := by decide +kernel
theorem dW_init_49 : decode bW_init 49 = .ok (.putfield 31, 3) := by decide +kernel
theorem dW_init_52 : decode bW_init 52 = .ok (.aload_n 0, 1) := by decide +kernel
theorem dW_init_53 : decode bW_init 53 = .ok (.aload_n 2, 1) := by decide +kernel
theorem dW_init_54 : decode bW_init 54 = .ok (.putfield 35, 3) := by decide +kernel
theorem dW_init_57 : decode bW_init 57 = .ok (.return_, 1) := by decide +kernel
theorem dW_forget_0 : decode bW_forget 0 = .ok (.aload_n 0, 1) := by decide +kernel
theorem dW_forget_1 : decode bW_forget 1 = .ok (.iconst 0, 1) := by decide +kernel
theorem dW_forget_2 : decode bW_forget 2 = .ok (.putfield 15, 3) := by decide +kernel
theorem dW_forget_5 : decode bW_forget 5 = .ok (.return_, 1) := by decide +kernel
theorem dW_tell_0 : decode bW_tell 0 = .ok (.aload_n 0, 1) := by decide +kernel
theorem dW_tell_1 : decode bW_tell 1 = .ok (.iconst 0, 1) := by decide +kernel
theorem dW_tell_2 : decode bW_tell 2 = .ok (.putfield 15, 3) := by decide +kernel
theorem dW_tell_5 : decode bW_tell 5 = .ok (.aload_n 0, 1) := by decide +kernel
theorem dW_tell_6 : decode bW_tell 6 = .ok (.iconst 0, 1) := by decide +kernel
theorem dW_tell_7 : decode bW_tell 7 = .ok (.putfield 28, 3) := by decide +kernel
theorem dW_tell_10 : decode bW_tell 10 = .ok (.aload_n 0, 1) := by decide +kernel
theorem dW_tell_11 : decode bW_tell 11 = .ok (.iload_n 1, 1) := by decide +kernel
theorem dW_tell_12 : decode bW_tell 12 = .ok (.iconst 0, 1) := by decide +kernel
theorem dW_tell_13 : decode bW_tell 13 = .ok (.iload_n 2, 1) := by decide +kernel
theorem dW_tell_14 : decode bW_tell 14 = .ok (.invokevirtual 39, 3) := by decide +kernel
theorem dW_tell_17 : decode bW_tell 17 = .ok (.iconst 0, 1) := by decide +kernel
theorem dW_tell_18 : decode bW_tell 18 = .ok (.istore_n 3, 1) := by decide +kernel
theorem dW_tell_19 : decode bW_tell 19 = .ok (.aload_n 0, 1) := by decide +kernel
theorem dW_tell_20 : decode bW_tell 20 = .ok (.getfield 28, 3) := by decide +kernel
theorem dW_tell_23 : decode bW_tell 23 = .ok (.ifCond .le 19, 3) := by decide +kernel
theorem dW_tell_26 : decode bW_tell 26 = .ok (.iload_n 3, 1) := by decide +kernel
theorem dW_tell_27 : decode bW_tell 27 = .ok (.ldc 43, 2) := by decide +kernel
theorem dW_tell_29 : decode bW_tell 29 = .ok (.if_icmp .ge 13, 3) := by decide +kernel
theorem dW_tell_32 : decode bW_tell 32 = .ok (.aload_n 0, 1) := by decide +kernel
theorem dW_tell_33 : decode bW_tell 33 = .ok (.invokevirtual 44, 3) := by decide +kernel
theorem dW_tell_36 : decode bW_tell 36 = .ok (.iinc 3 1, 3) := by decide +kernel
theorem dW_tell_39 : decode bW_tell 39 = .ok (.goto (-20), 3) := by decide +kernel
theorem dW_tell_42 : decode bW_tell 42 = .ok (.return_, 1) := by decide +kernel
theorem dW_open_0 : decode bW_open 0 = .ok (.aload_n 0, 1) := by decide +kernel
theorem dW_open_1 : decode bW_open 1 = .ok (.iload_n 1, 1) := by decide +kernel
theorem dW_open_2 : decode bW_open 2 = .ok (.iload_n 2, 1) := by decide +kernel
theorem dW_open_3 : decode bW_open 3 = .ok (.iload_n 3, 1) := by decide +kernel
theorem dW_open_4 : decode bW_open 4 = .ok (.invokevirtual 47, 3) := by decide +kernel
theorem dW_open_7 : decode bW_open 7 = .ok (.istore 4, 2) := by decide +kernel
theorem dW_open_9 : decode bW_open 9 = .ok (.iload 4, 2) := by decide +kernel
theorem dW_open_11 : decode bW_open 11 = .ok (.iconst (-1), 1) := by decide +kernel
theorem dW_open_12 : decode bW_open 12 = .ok (.if_icmp .eq 12, 3) := by decide +kernel
theorem dW_open_15 : decode bW_open 15 = .ok (.aload_n 0, 1) := by decide +kernel
theorem dW_open_16 : decode bW_open 16 = .ok (.getfield 28, 3) := by decide +kernel
theorem dW_open_19 : decode bW_open 19 = .ok (.bipush 54, 2) := by decide +kernel
theorem dW_open_21 : decode bW_open 21 = .ok (.if_icmp .lt 4, 3) := by decide +kernel
theorem dW_open_24 : decode bW_open 24 = .ok (.return_, 1) := by decide +kernel
theorem dW_open_25 : decode bW_open 25 = .ok (.aload_n 0, 1) := by decide +kernel
theorem dW_open_26 : decode bW_open 26 = .ok (.getfield 15, 3) := by decide +kernel
theorem dW_open_29 : decode bW_open 29 = .ok (.sipush 8000, 3) := by decide +kernel
theorem dW_open_32 : decode bW_open 32 = .ok (.if_icmp .lt 9, 3) := by decide +kernel
theorem dW_open_35 : decode bW_open 35 = .ok (.aload_n 0, 1) := by decide +kernel
theorem dW_open_36 : decode bW_open 36 = .ok (.iconst 0, 1) := by decide +kernel
theorem dW_open_37 : decode bW_open 37 = .ok (.putfield 28, 3) := by decide +kernel
theorem dW_open_40 : decode bW_open 40 = .ok (.return_, 1) := by decide +kernel
theorem dW_open_41 : decode bW_open 41 = .ok (.aload_n 0, 1) := by decide +kernel
theorem dW_open_42 : decode bW_open 42 = .ok (.getfield 9, 3) := by decide +kernel
theorem dW_open_45 : decode bW_open 45 = .ok (.aload_n 0, 1) := by decide +kernel
theorem dW_open_46 : decode bW_open 46 = .ok (.getfield 15, 3) := by decide +kernel
theorem dW_open_49 : decode bW_open 49 = .ok (.iload 4, 2) := by decide +kernel
theorem dW_open_51 : decode bW_open 51 = .ok (.iastore, 1) := by decide +kernel
theorem dW_open_52 : decode bW_open 52 = .ok (.aload_n 0, 1) := by decide +kernel
theorem dW_open_53 : decode bW_open 53 = .ok (.dup, 1) := by decide +kernel
theorem dW_open_54 : decode bW_open 54 = .ok (.getfield 15, 3) := by decide +kernel
theorem dW_open_57 : decode bW_open 57 = .ok (.iconst 1, 1) := by decide +kernel
theorem dW_open_58 : decode bW_open 58 = .ok (.iadd, 1) := by decide +kernel
theorem dW_open_59 : decode bW_open 59 = .ok (.putfield 15, 3) := by decide +kernel
theorem dW_open_62 : decode bW_open 62 = .ok (.aload_n 0, 1) := by decide +kernel
theorem dW_open_63 : decode bW_open 63 = .ok (.getfield 19, 3) := by decide +kernel
theorem dW_open_66 : decode bW_open 66 = .ok (.aload_n 0, 1) := by decide +kernel
theorem dW_open_67 : decode bW_open 67 = .ok (.getfield 28, 3) := by decide +kernel
theorem dW_open_70 : decode bW_open 70 = .ok (.aload_n 0, 1) := by decide +kernel
theorem dW_open_71 : decode bW_open 71 = .ok (.getfield 31, 3) := by decide +kernel
theorem dW_open_74 : decode bW_open 74 = .ok (.getfield 51, 3) := by decide +kernel
theorem dW_open_77 : decode bW_open 77 = .ok (.iload 4, 2) := by decide +kernel
theorem dW_open_79 : decode bW_open 79 = .ok (.iaload, 1) := by decide +kernel
theorem dW_open_80 : decode bW_open 80 = .ok (.iastore, 1) := by decide +kernel
theorem dW_open_81 : decode bW_open 81 = .ok (.aload_n 0, 1) := by decide +kernel
theorem dW_open_82 : decode bW_open 82 = .ok (.getfield 22, 3) := by decide +kernel
theorem dW_open_85 : decode bW_open 85 = .ok (.aload_n 0, 1) := by decide +kernel
theorem dW_open_86 : decode bW_open 86 = .ok (.getfield 28, 3) := by decide +kernel
theorem dW_open_89 : decode bW_open 89 = .ok (.iload_n 2, 1) := by decide +kernel
theorem dW_open_90 : decode bW_open 90 = .ok (.iastore, 1) := by decide +kernel
theorem dW_open_91 : decode bW_open 91 = .ok (.aload_n 0, 1) := by decide +kernel
theorem dW_open_92 : decode bW_open 92 = .ok (.getfield 25, 3) := by decide +kernel
theorem dW_open_95 : decode bW_open 95 = .ok (.aload_n 0, 1) := by decide +kernel
theorem dW_open_96 : decode bW_open 96 = .ok (.getfield 28, 3) := by decide +kernel
theorem dW_open_99 : decode bW_open 99 = .ok (.iload_n 3, 1) := by decide +kernel
theorem dW_open_100 : decode bW_open 100 = .ok (.iastore, 1) := by decide +kernel
theorem dW_open_101 : decode bW_open 101 = .ok (.aload_n 0, 1) := by decide +kernel
theorem dW_open_102 : decode bW_open 102 = .ok (.dup, 1) := by decide +kernel
theorem dW_open_103 : decode bW_open 103 = .ok (.getfield 28, 3) := by decide +kernel
theorem dW_open_106 : decode bW_open 106 = .ok (.iconst 1, 1) := by decide +kernel
theorem dW_open_107 : decode bW_open 107 = .ok (.iadd, 1) := by decide +kernel
theorem dW_open_108 : decode bW_open 108 = .ok (.putfield 28, 3) := by decide +kernel
theorem dW_open_111 : decode bW_open 111 = .ok (.return_, 1) := by decide +kernel
theorem dW_lowestProduction_0 : decode bW_lowestProduction 0 = .ok (.aload_n 0, 1) := by decide +kernel
theorem dW_lowestProduction_1 : decode bW_lowestProduction 1 = .ok (.getfield 35, 3) := by decide +kernel
theorem dW_lowestProduction_4 : decode bW_lowestProduction 4 = .ok (.iload_n 1, 1) := by decide +kernel
theorem dW_lowestProduction_5 : decode bW_lowestProduction 5 = .ok (.iload_n 2, 1) := by decide +kernel
theorem dW_lowestProduction_6 : decode bW_lowestProduction 6 = .ok (.iload_n 3, 1) := by decide +kernel
theorem dW_lowestProduction_7 : decode bW_lowestProduction 7 = .ok (.invokevirtual 66, 3) := by decide +kernel
theorem dW_lowestProduction_10 : decode bW_lowestProduction 10 = .ok (.istore 4, 2) := by decide +kernel
theorem dW_lowestProduction_12 : decode bW_lowestProduction 12 = .ok (.iconst 0, 1) := by decide +kernel
theorem dW_lowestProduction_13 : decode bW_lowestProduction 13 = .ok (.istore 5, 2) := by decide +kernel
theorem dW_lowestProduction_15 : decode bW_lowestProduction 15 = .ok (.iload 5, 2) := by decide +kernel
theorem dW_lowestProduction_17 : decode bW_lowestProduction 17 = .ok (.aload_n 0, 1) := by decide +kernel
theorem dW_lowestProduction_18 : decode bW_lowestProduction 18 = .ok (.getfield 31, 3) := by decide +kernel
theorem dW_lowestProduction_21 : decode bW_lowestProduction 21 = .ok (.getfield 71, 3) := by decide +kernel
theorem dW_lowestProduction_24 : decode bW_lowestProduction 24 = .ok (.if_icmp .ge 58, 3) := by decide +kernel
theorem dW_lowestProduction_27 : decode bW_lowestProduction 27 = .ok (.iload 4, 2) := by decide +kernel
theorem dW_lowestProduction_29 : decode bW_lowestProduction 29 = .ok (.iconst (-1), 1) := by decide +kernel
theorem dW_lowestProduction_30 : decode bW_lowestProduction 30 = .ok (.if_icmp .eq 46, 3) := by decide +kernel
theorem dW_lowestProduction_33 : decode bW_lowestProduction 33 = .ok (.aload_n 0, 1) := by decide +kernel
theorem dW_lowestProduction_34 : decode bW_lowestProduction 34 = .ok (.getfield 31, 3) := by decide +kernel
theorem dW_lowestProduction_37 : decode bW_lowestProduction 37 = .ok (.getfield 74, 3) := by decide +kernel
theorem dW_lowestProduction_40 : decode bW_lowestProduction 40 = .ok (.iload 5, 2) := by decide +kernel
theorem dW_lowestProduction_42 : decode bW_lowestProduction 42 = .ok (.iaload, 1) := by decide +kernel
theorem dW_lowestProduction_43 : decode bW_lowestProduction 43 = .ok (.iload_n 1, 1) := by decide +kernel
theorem dW_lowestProduction_44 : decode bW_lowestProduction 44 = .ok (.if_icmp .ne 32, 3) := by decide +kernel
theorem dW_lowestProduction_47 : decode bW_lowestProduction 47 = .ok (.aload_n 0, 1) := by decide +kernel
theorem dW_lowestProduction_48 : decode bW_lowestProduction 48 = .ok (.getfield 35, 3) := by decide +kernel
theorem dW_lowestProduction_51 : decode bW_lowestProduction 51 = .ok (.aload_n 0, 1) := by decide +kernel
theorem dW_lowestProduction_52 : decode bW_lowestProduction 52 = .ok (.getfield 31, 3) := by decide +kernel
theorem dW_lowestProduction_55 : decode bW_lowestProduction 55 = .ok (.getfield 51, 3) := by decide +kernel
theorem dW_lowestProduction_58 : decode bW_lowestProduction 58 = .ok (.iload 5, 2) := by decide +kernel
theorem dW_lowestProduction_60 : decode bW_lowestProduction 60 = .ok (.iaload, 1) := by decide +kernel
theorem dW_lowestProduction_61 : decode bW_lowestProduction 61 = .ok (.iload_n 2, 1) := by decide +kernel
theorem dW_lowestProduction_62 : decode bW_lowestProduction 62 = .ok (.iload_n 3, 1) := by decide +kernel
theorem dW_lowestProduction_63 : decode bW_lowestProduction 63 = .ok (.invokevirtual 77, 3) := by decide +kernel
theorem dW_lowestProduction_66 : decode bW_lowestProduction 66 = .ok (.iload 4, 2) := by decide +kernel
theorem dW_lowestProduction_68 : decode bW_lowestProduction 68 = .ok (.iconst 1, 1) := by decide +kernel
theorem dW_lowestProduction_69 : decode bW_lowestProduction 69 = .ok (.isub, 1) := by decide +kernel
theorem dW_lowestProduction_70 : decode bW_lowestProduction 70 = .ok (.if_icmp .ne 6, 3) := by decide +kernel
theorem dW_lowestProduction_73 : decode bW_lowestProduction 73 = .ok (.iload 5, 2) := by decide +kernel
theorem dW_lowestProduction_75 : decode bW_lowestProduction 75 = .ok (.ireturn, 1) := by decide +kernel
theorem dW_lowestProduction_76 : decode bW_lowestProduction 76 = .ok (.iinc 5 1, 3) := by decide +kernel
theorem dW_lowestProduction_79 : decode bW_lowestProduction 79 = .ok (.goto (-64), 3) := by decide +kernel
theorem dW_lowestProduction_82 : decode bW_lowestProduction 82 = .ok (.iconst (-1), 1) := by decide +kernel
theorem dW_lowestProduction_83 : decode bW_lowestProduction 83 = .ok (.ireturn, 1) := by decide +kernel
theorem dW_goOn_0 : decode bW_goOn 0 = .ok (.aload_n 0, 1) := by decide +kernel
theorem dW_goOn_1 : decode bW_goOn 1 = .ok (.getfield 28, 3) := by decide +kernel
theorem dW_goOn_4 : decode bW_goOn 4 = .ok (.iconst 1, 1) := by decide +kernel
theorem dW_goOn_5 : decode bW_goOn 5 = .ok (.isub, 1) := by decide +kernel
theorem dW_goOn_6 : decode bW_goOn 6 = .ok (.istore_n 1, 1) := by decide +kernel
theorem dW_goOn_7 : decode bW_goOn 7 = .ok (.aload_n 0, 1) := by decide +kernel
theorem dW_goOn_8 : decode bW_goOn 8 = .ok (.getfield 19, 3) := by decide +kernel
theorem dW_goOn_11 : decode bW_goOn 11 = .ok (.iload_n 1, 1) := by decide +kernel
theorem dW_goOn_12 : decode bW_goOn 12 = .ok (.iaload, 1) := by decide +kernel
theorem dW_goOn_13 : decode bW_goOn 13 = .ok (.istore_n 2, 1) := by decide +kernel
theorem dW_goOn_14 : decode bW_goOn 14 = .ok (.aload_n 0, 1) := by decide +kernel
theorem dW_goOn_15 : decode bW_goOn 15 = .ok (.getfield 31, 3) := by decide +kernel
theorem dW_goOn_18 : decode bW_goOn 18 = .ok (.getfield 56, 3) := by decide +kernel
theorem dW_goOn_21 : decode bW_goOn 21 = .ok (.iload_n 2, 1) := by decide +kernel
theorem dW_goOn_22 : decode bW_goOn 22 = .ok (.iaload, 1) := by decide +kernel
theorem dW_goOn_23 : decode bW_goOn 23 = .ok (.istore_n 3, 1) := by decide +kernel
theorem dW_goOn_24 : decode bW_goOn 24 = .ok (.iload_n 3, 1) := by decide +kernel
theorem dW_goOn_25 : decode bW_goOn 25 = .ok (.iconst (-1), 1) := by decide +kernel
theorem dW_goOn_26 : decode bW_goOn 26 = .ok (.if_icmp .ne 14, 3) := by decide +kernel
theorem dW_goOn_29 : decode bW_goOn 29 = .ok (.aload_n 0, 1) := by decide +kernel
theorem dW_goOn_30 : decode bW_goOn 30 = .ok (.dup, 1) := by decide +kernel
theorem dW_goOn_31 : decode bW_goOn 31 = .ok (.getfield 28, 3) := by decide +kernel
theorem dW_goOn_34 : decode bW_goOn 34 = .ok (.iconst 1, 1) := by decide +kernel
theorem dW_goOn_35 : decode bW_goOn 35 = .ok (.isub, 1) := by decide +kernel
theorem dW_goOn_36 : decode bW_goOn 36 = .ok (.putfield 28, 3) := by decide +kernel
theorem dW_goOn_39 : decode bW_goOn 39 = .ok (.return_, 1) := by decide +kernel
theorem dW_goOn_40 : decode bW_goOn 40 = .ok (.aload_n 0, 1) := by decide +kernel
theorem dW_goOn_41 : decode bW_goOn 41 = .ok (.getfield 22, 3) := by decide +kernel
theorem dW_goOn_44 : decode bW_goOn 44 = .ok (.iload_n 1, 1) := by decide +kernel
theorem dW_goOn_45 : decode bW_goOn 45 = .ok (.iaload, 1) := by decide +kernel
theorem dW_goOn_46 : decode bW_goOn 46 = .ok (.istore 4, 2) := by decide +kernel
theorem dW_goOn_48 : decode bW_goOn 48 = .ok (.aload_n 0, 1) := by decide +kernel
theorem dW_goOn_49 : decode bW_goOn 49 = .ok (.iload_n 2, 1) := by decide +kernel
theorem dW_goOn_50 : decode bW_goOn 50 = .ok (.iload 4, 2) := by decide +kernel
theorem dW_goOn_52 : decode bW_goOn 52 = .ok (.aload_n 0, 1) := by decide +kernel
theorem dW_goOn_53 : decode bW_goOn 53 = .ok (.getfield 25, 3) := by decide +kernel
theorem dW_goOn_56 : decode bW_goOn 56 = .ok (.iload_n 1, 1) := by decide +kernel
theorem dW_goOn_57 : decode bW_goOn 57 = .ok (.iaload, 1) := by decide +kernel
theorem dW_goOn_58 : decode bW_goOn 58 = .ok (.invokevirtual 59, 3) := by decide +kernel
theorem dW_goOn_61 : decode bW_goOn 61 = .ok (.istore 5, 2) := by decide +kernel
theorem dW_goOn_63 : decode bW_goOn 63 = .ok (.aload_n 0, 1) := by decide +kernel
theorem dW_goOn_64 : decode bW_goOn 64 = .ok (.getfield 19, 3) := by decide +kernel
theorem dW_goOn_67 : decode bW_goOn 67 = .ok (.iload_n 1, 1) := by decide +kernel
theorem dW_goOn_68 : decode bW_goOn 68 = .ok (.iload_n 2, 1) := by decide +kernel
theorem dW_goOn_69 : decode bW_goOn 69 = .ok (.iconst 1, 1) := by decide +kernel
theorem dW_goOn_70 : decode bW_goOn 70 = .ok (.iadd, 1) := by decide +kernel
theorem dW_goOn_71 : decode bW_goOn 71 = .ok (.iastore, 1) := by decide +kernel
theorem dW_goOn_72 : decode bW_goOn 72 = .ok (.aload_n 0, 1) := by decide +kernel
theorem dW_goOn_73 : decode bW_goOn 73 = .ok (.getfield 22, 3) := by decide +kernel
theorem dW_goOn_76 : decode bW_goOn 76 = .ok (.iload_n 1, 1) := by decide +kernel
theorem dW_goOn_77 : decode bW_goOn 77 = .ok (.iload 5, 2) := by decide +kernel
theorem dW_goOn_79 : decode bW_goOn 79 = .ok (.iastore, 1) := by decide +kernel
theorem dW_goOn_80 : decode bW_goOn 80 = .ok (.iload_n 3, 1) := by decide +kernel
theorem dW_goOn_81 : decode bW_goOn 81 = .ok (.invokestatic 62, 3) := by decide +kernel
theorem dW_goOn_84 : decode bW_goOn 84 = .ok (.ifCond .eq 12, 3) := by decide +kernel
theorem dW_goOn_87 : decode bW_goOn 87 = .ok (.aload_n 0, 1) := by decide +kernel
theorem dW_goOn_88 : decode bW_goOn 88 = .ok (.iload_n 3, 1) := by decide +kernel
theorem dW_goOn_89 : decode bW_goOn 89 = .ok (.iload 4, 2) := by decide +kernel
theorem dW_goOn_91 : decode bW_goOn 91 = .ok (.iload 5, 2) := by decide +kernel
theorem dW_goOn_93 : decode bW_goOn 93 = .ok (.invokevirtual 39, 3) := by decide +kernel
theorem dW_goOn_96 : decode bW_goOn 96 = .ok (.return_, 1) := by decide +kernel
theorem dW_shortestEnd_0 : decode bW_shortestEnd 0 = .ok (.aload_n 0, 1) := by decide +kernel
theorem dW_shortestEnd_1 : decode bW_shortestEnd 1 = .ok (.getfield 35, 3) := by decide +kernel
theorem dW_shortestEnd_4 : decode bW_shortestEnd 4 = .ok (.iload_n 1, 1) := by decide +kernel
theorem dW_shortestEnd_5 : decode bW_shortestEnd 5 = .ok (.iload_n 2, 1) := by decide +kernel
theorem dW_shortestEnd_6 : decode bW_shortestEnd 6 = .ok (.iload_n 3, 1) := by decide +kernel
theorem dW_shortestEnd_7 : decode bW_shortestEnd 7 = .ok (.invokevirtual 77, 3) := by decide +kernel
theorem dW_shortestEnd_10 : decode bW_shortestEnd 10 = .ok (.istore 4, 2) := by decide +kernel
theorem dW_shortestEnd_12 : decode bW_shortestEnd 12 = .ok (.iload_n 2, 1) := by decide +kernel
theorem dW_shortestEnd_13 : decode bW_shortestEnd 13 = .ok (.istore 5, 2) := by decide +kernel
theorem dW_shortestEnd_15 : decode bW_shortestEnd 15 = .ok (.iload 5, 2) := by decide +kernel
theorem dW_shortestEnd_17 : decode bW_shortestEnd 17 = .ok (.iload_n 3, 1) := by decide +kernel
theorem dW_shortestEnd_18 : decode bW_shortestEnd 18 = .ok (.if_icmp .ge 35, 3) := by decide +kernel
theorem dW_shortestEnd_21 : decode bW_shortestEnd 21 = .ok (.iload 4, 2) := by decide +kernel
theorem dW_shortestEnd_23 : decode bW_shortestEnd 23 = .ok (.iconst (-1), 1) := by decide +kernel
theorem dW_shortestEnd_24 : decode bW_shortestEnd 24 = .ok (.if_icmp .eq 23, 3) := by decide +kernel
theorem dW_shortestEnd_27 : decode bW_shortestEnd 27 = .ok (.aload_n 0, 1) := by decide +kernel
theorem dW_shortestEnd_28 : decode bW_shortestEnd 28 = .ok (.getfield 35, 3) := by decide +kernel
theorem dW_shortestEnd_31 : decode bW_shortestEnd 31 = .ok (.iload_n 1, 1) := by decide +kernel
theorem dW_shortestEnd_32 : decode bW_shortestEnd 32 = .ok (.iload_n 2, 1) := by decide +kernel
theorem dW_shortestEnd_33 : decode bW_shortestEnd 33 = .ok (.iload 5, 2) := by decide +kernel
theorem dW_shortestEnd_35 : decode bW_shortestEnd 35 = .ok (.iload_n 3, 1) := by decide +kernel
theorem dW_shortestEnd_36 : decode bW_shortestEnd 36 = .ok (.invokevirtual 80, 3) := by decide +kernel
theorem dW_shortestEnd_39 : decode bW_shortestEnd 39 = .ok (.iload 4, 2) := by decide +kernel
theorem dW_shortestEnd_41 : decode bW_shortestEnd 41 = .ok (.if_icmp .ne 6, 3) := by decide +kernel
theorem dW_shortestEnd_44 : decode bW_shortestEnd 44 = .ok (.iload 5, 2) := by decide +kernel
theorem dW_shortestEnd_46 : decode bW_shortestEnd 46 = .ok (.ireturn, 1) := by decide +kernel
theorem dW_shortestEnd_47 : decode bW_shortestEnd 47 = .ok (.iinc 5 1, 3) := by decide +kernel
theorem dW_shortestEnd_50 : decode bW_shortestEnd 50 = .ok (.goto (-35), 3) := by decide +kernel
theorem dW_shortestEnd_53 : decode bW_shortestEnd 53 = .ok (.iload_n 3, 1) := by decide +kernel
theorem dW_shortestEnd_54 : decode bW_shortestEnd 54 = .ok (.ireturn, 1) := by decide +kernel
end
section
/-! a world: cells at the addresses ad 0 .. ad (N - 1); cell k holds 'cont k' of row k of a memory of ints -/
abbrev Mem : Type := Nat → Nat → Int32
abbrev Wd : Type := va_G × (Nat → Nat) × (Nat → (Nat → Int32) → va_E) × Nat
def wo (ω : Wd) (σ : Mem) : va_W := (List.range ω.2.2.2).map (fun k => (ω.2.1 k, ω.2.2.1 k (σ k)))
theorem wo_at {ω : Wd} {σ : Mem} {k : Nat} (h : k < ω.2.2.2) : (wo ω σ)[k]? = some (ω.2.1 k, ω.2.2.1 k (σ k)) := by
  rw [wo, List.getElem?_map, List.getElem?_range h]; rfl
theorem wo_of {ω : Wd} {σ : Mem} {k : Nat} {x : Nat × va_E} (h : (wo ω σ)[k]? = some x) : k < ω.2.2.2 ∧ x = (ω.2.1 k, ω.2.2.1 k (σ k)) := by
  have hk : k < ω.2.2.2 := by
    have h1 := (List.getElem?_eq_some_iff.mp h).1
    simpa [wo] using h1
  rw [wo_at hk] at h
  exact ⟨hk, (Option.some.inj h).symm⟩
def mrow (σ : Mem) (k : Nat) (r : Nat → Int32) : Mem := fun j => if j = k then r else σ j
theorem mrow_s {σ : Mem} {k : Nat} {r : Nat → Int32} : mrow σ k r k = r := if_pos rfl
theorem mrow_n {σ : Mem} {k j : Nat} {r : Nat → Int32} (h : j ≠ k) : mrow σ k r j = σ j := if_neg h
def mset (σ : Mem) (k i : Nat) (x : Int32) : Mem := mrow σ k (upd (σ k) i x)
theorem wo_set {ω : Wd} {σ : Mem} {k : Nat} {r : Nat → Int32} {e : va_E} (h : k < ω.2.2.2) (he : ω.2.2.1 k r = e) : (wo ω σ).set k (ω.2.1 k, e) = wo ω (mrow σ k r) := by
  subst he
  apply List.ext_getElem?
  intro j
  by_cases hj : j = k
  · subst hj
    rw [wo_at h, mrow_s, List.getElem?_set_self (by simpa [wo] using h)]
  · rw [List.getElem?_set_ne (Ne.symm hj)]
    by_cases hl : j < ω.2.2.2
    · rw [wo_at hl, wo_at hl, mrow_n hj]
    · rw [List.getElem?_eq_none (by simp [wo]; omega), List.getElem?_eq_none (by simp [wo]; omega)]
/-- the world stands in H; since H0 nothing outside A has changed -/
def wS (ω : Wd) (A : Nat → Prop) (H0 : Heap) (σ : Mem) (H : Heap) (locs : List Loc) : Prop := va_P ω.1 classes (wo ω σ) H ∧ va_D A (wo ω σ) ∧ va_S A H0 H locs
abbrev tysL (cs : Nat → ClassId) : List (ClassId × FieldType) := [(cs 0, .int), (cs 1, .array .int), (cs 2, .boolean), (cs 3, .long)]
abbrev nest_S : Cond := .methodLinkNest "EarleyChart$ItemSets" 82 yE_isVariable "EarleyChart"
abbrev nest_T : Cond := .methodLinkNest "EarleyChart$StepTable" 27 yE_isVariable "EarleyChart"
abbrev nest_W : Cond := .methodLinkNest "EarleyChart$Witness" 62 yE_isVariable "EarleyChart"
abbrev nest_G : Cond := .methodLinkNest "EarleyChart" 18 yG_init "EarleyChart"
abbrev nest_I : Cond := .methodLinkNest "EarleyChart" 21 yI_init "EarleyChart"
/-- what the tables say: classes, array classes, calls across the nest -/
def wk (D : va_G) (cs : Nat → ClassId) (U : State) : Prop := va_K D classes (tysL cs) U ∧ va_Nw nest_S U ∧ va_Nw nest_T U ∧ va_Nw nest_W U ∧ va_Nw nest_G U ∧ va_Nw nest_I U
theorem wk.warm {D : va_G} {cs : Nat → ClassId} {s U : State} (h : wk D cs s) (hW : s.WarmedH U.vm) : wk D cs U :=
  ⟨va_K.moved hW.alike h.1, va_Nw.warmM hW h.2.1, va_Nw.warmM hW h.2.2.1, va_Nw.warmM hW h.2.2.2.1, va_Nw.warmM hW h.2.2.2.2.1, va_Nw.warmM hW h.2.2.2.2.2⟩
theorem wk.calling {D : va_G} {cs : Nat → ClassId} {U : State} (h : wk D cs U) (g : JFrame) (mk : MethodId) (a : Array Value) : wk D cs (U.calling g mk a) :=
  ⟨va_K.moved (u := U) (U := U.calling g mk a) (Vm.Alike.refl U.vm) h.1, va_Nw.same rfl (u := U) rfl h.2.1, va_Nw.same rfl (u := U) rfl h.2.2.1, va_Nw.same rfl (u := U) rfl h.2.2.2.1, va_Nw.same rfl (u := U) rfl h.2.2.2.2.1, va_Nw.same rfl (u := U) rfl h.2.2.2.2.2⟩
/-- a method's words: its code and the tables' -/
def ms_ws (y : MethodName) (b : ByteArray) (mL : Nat) (ret : Option FieldType) : List Cond := Cond.code y b mL ret :: tbG
theorem gi_of {ws : List Cond} (h : ∀ w ∈ ws, w ∈ tbG) : GoodIn tbG ws := fun w hw => ⟨h w hw, good_of_word (List.all_eq_true.mp tbG_good w (h w hw))⟩
theorem gi_ms {y : MethodName} {b : ByteArray} {mL : Nat} {ret : Option FieldType} (h : Cond.code y b mL ret ∈ tbG) : ∀ w ∈ ms_ws y b mL ret, w ∈ tbG := fun w hw => (List.mem_cons.mp hw).elim (fun e => e ▸ h) id
abbrev rmF (f L : Nat) : Room := { frames := f, cells := 0, slots := 0, locals := L }
def wPc (ω : Wd) (cs : Nat → ClassId) (As : List Value) (σ : Mem) (sz : Nat) : Array Value → State → Prop := va_Pc As (fun U => U.heap.size = sz ∧ va_P ω.1 classes (wo ω σ) U.heap ∧ wk ω.1 cs U ∧ va_D (fun _ => True) (wo ω σ))
def wB (ω : Wd) (A : Nat → Prop) : Mem → State → Prop := fun σ t => va_P ω.1 classes (wo ω σ) t.heap ∧ va_D A (wo ω σ)
/-- a method that answers an int (or a boolean) and changes the world alone -/
def MetI (l : Launch) (ω : Wd) (cs : Nat → ClassId) (y : MethodName) (b : ByteArray) (mL : Nat) (ret : Option FieldType) (f L : Nat) (As : List Value) (σ : Mem) (post : Int32 → Mem → Prop) : Prop :=
  ∀ sz : Nat, Met l y (ms_ws y b mL ret) (rmF f L) (wPc ω cs As σ sz) (va_Qi post (wB ω (va_A (wo ω σ) sz)) (va_A (wo ω σ) sz)) 0 0 (va_A (wo ω σ) sz)
/-- a method that answers nothing -/
def MetV (l : Launch) (ω : Wd) (cs : Nat → ClassId) (y : MethodName) (b : ByteArray) (mL : Nat) (f L : Nat) (As : List Value) (σ : Mem) (post : Mem → Prop) : Prop :=
  ∀ sz : Nat, Met l y (ms_ws y b mL none) (rmF f L) (wPc ω cs As σ sz) (va_Qv post (wB ω (va_A (wo ω σ) sz)) (va_A (wo ω σ) sz)) 0 0 (va_A (wo ω σ) sz)
theorem wPc_blind {ω : Wd} {cs : Nat → ClassId} {As : List Value} {σ : Mem} {sz : Nat} : FrameBlind (wPc ω cs As σ sz) := by
  intro a U g mk q
  obtain ⟨q0, q1, qP, qK, qD⟩ := q
  exact ⟨q0, q1, qP, qK.calling g mk a, qD⟩
/-- what stands fixed in a method's body -/
def bC (p : Program) (s : State) (m : MethodId) (args : Array Value) (meth : Method) (c : Code) (cc : ByteArray) (nL : Nat) (own : String) (ret : Option FieldType) : Prop :=
  p.tables.exec = Jvm.exec ∧ c.code = cc ∧ c.maxLocals = nL ∧ s.vm.findClass own = some m.cls ∧ (∀ w ∈ tbG, w.before args s = true) ∧ meth.sig.returnType = ret ∧ meth.locks = false
abbrev wQi (ω : Wd) (A : Nat → Prop) (post : Int32 → Mem → Prop) (s : State) (below : List Frame) (args : Array Value) : State → Prop := MQ below (va_Qi post (wB ω A) A) args s 0 0 A
abbrev wQv (ω : Wd) (A : Nat → Prop) (post : Mem → Prop) (s : State) (below : List Frame) (args : Array Value) : State → Prop := MQ below (va_Qv post (wB ω A) A) args s 0 0 A
theorem MetI.start {l : Launch} {ω : Wd} {cs : Nat → ClassId} {y : MethodName} {b : ByteArray} {mL : Nat} {ret : Option FieldType} {f L : Nat} {As : List Value} {σ : Mem} {post : Int32 → Mem → Prop} (hy : plainName y.cls = true) (hn : (lg_sl As).length ≤ mL)
    (body : ∀ (p : Program) (e : Env) (s : State) (m : MethodId) (below : List Frame) (meth : Method) (c : Code) (A : Nat → Prop) (ls : Array Slot), bC p s m As.toArray meth c b mL y.cls ret → wk ω.1 cs s → (∀ q : Nat, s.heap.size ≤ q → A q) → wS ω A s.heap σ s.heap [] → lv_has ls mL (lv_args 0 As) →
      W p l e (rmF f L) s m As.toArray below meth c s.heap [] 0 0 (wQi ω A post s below As.toArray) (F0 m 0 ls [])) : MetI l ω cs y b mL ret f L As σ post := by
  intro sz
  refine Met.ofW (cc := b) (maxL := mL) (ret := ret) hy rfl ?_
  intro p e s m args below meth c s₁ B hml hv
  obtain ⟨rfl, hsz, hP, hK, hD0⟩ := hv
  subst hsz
  have hts := atoms_spec (ws := ms_ws y b mL ret) B.pre
  have hl := lv_entry As (n := mL) hn
  rw [lg_entry_eq]
  exact body p e s m below meth c (va_A (wo ω σ) s.heap.size) _ ⟨B.exec, B.bytes, hml, findClass_of_methodNamed B.named, fun w hw => hts w (List.mem_cons_of_mem _ hw), B.returns, B.notSynchronized⟩ hK (fun q h => Or.inr h) ⟨hP, hD0.self, va_S.rf⟩ hl
theorem MetV.start {l : Launch} {ω : Wd} {cs : Nat → ClassId} {y : MethodName} {b : ByteArray} {mL : Nat} {f L : Nat} {As : List Value} {σ : Mem} {post : Mem → Prop} (hy : plainName y.cls = true) (hn : (lg_sl As).length ≤ mL)
    (body : ∀ (p : Program) (e : Env) (s : State) (m : MethodId) (below : List Frame) (meth : Method) (c : Code) (A : Nat → Prop) (ls : Array Slot), bC p s m As.toArray meth c b mL y.cls none → wk ω.1 cs s → (∀ q : Nat, s.heap.size ≤ q → A q) → wS ω A s.heap σ s.heap [] → lv_has ls mL (lv_args 0 As) →
      W p l e (rmF f L) s m As.toArray below meth c s.heap [] 0 0 (wQv ω A post s below As.toArray) (F0 m 0 ls [])) : MetV l ω cs y b mL f L As σ post := by
  intro sz
  refine Met.ofW (cc := b) (maxL := mL) (ret := none) hy rfl ?_
  intro p e s m args below meth c s₁ B hml hv
  obtain ⟨rfl, hsz, hP, hK, hD0⟩ := hv
  subst hsz
  have hts := atoms_spec (ws := ms_ws y b mL none) B.pre
  have hl := lv_entry As (n := mL) hn
  rw [lg_entry_eq]
  exact body p e s m below meth c (va_A (wo ω σ) s.heap.size) _ ⟨B.exec, B.bytes, hml, findClass_of_methodNamed B.named, fun w hw => hts w (List.mem_cons_of_mem _ hw), B.returns, B.notSynchronized⟩ hK (fun q h => Or.inr h) ⟨hP, hD0.self, va_S.rf⟩ hl
section WR
variable {p : Program} {l : Launch} {e : Env} {R : Room} {s : State} {m : MethodId} {args : Array Value} {below : List Frame} {meth : Method} {c : Code} {H : Heap} {locs : List Loc} {cells slots : Nat} {Q : State → Prop}
variable {cc : ByteArray} {pc nL : Nat} {own : String} {ret : Option FieldType} {ls : Array Slot} {rest : List Value} {ω : Wd} {cs : Nat → ClassId} {A : Nat → Prop} {σ : Mem}
theorem w_get (C : bC p s m args meth c cc nL own ret) (hk : wk ω.1 cs s) (hE : wS ω A s.heap σ H locs) {ref K : String} {T : u_T} {N ci index : Nat} (hin : ∀ w ∈ u_ws K T N, w ∈ tbG) (q : Nat) (hq : q < ω.2.2.2) {fs : List Value} (hf : ω.2.2.1 q (σ q) = .inr (ci, fs)) (hc : classes[ci]? = some (K, T, N)) (k : Nat) (hkN : k < N)
    (hl : Cond.fieldLink own index ref (T k).2.1 (T k).2.2.1 ∈ tbG) (hr : ref = (T k).1) {v : Value} (hv : fs[k]? = some v) (hdg : decode cc pc = .ok (.getfield index, 3))
    (kk : W p l e R s m args below meth c H locs cells slots Q (F0 m (pc + 3) ls (v :: rest))) : W p l e R s m args below meth c H locs cells slots Q (F0 m pc ls (.ref (ω.2.1 q) :: rest)) := by
  obtain ⟨hx, hb, hml, ho, hts, -, -⟩ := C
  subst hr
  exact va_get (D := ω.1) hx hb hts hin ho hk.1 hE.1 q (by rw [wo_at hq, hf]) hc k hkN (hts _ hl) (fun _ h => h) hv hdg kk
theorem w_put (C : bC p s m args meth c cc nL own ret) (hk : wk ω.1 cs s) (hE : wS ω A s.heap σ H locs) {ref K : String} {T : u_T} {N ci index : Nat} (hin : ∀ w ∈ u_ws K T N, w ∈ tbG) {ty0 : Nat → FieldType} (hty : ∀ k, k < N → parseFieldDescriptor (T k).2.2.1 = some (ty0 k)) (hnm : ∀ a, a < N → ∀ b, b < N → a ≠ b → (T a).2.1 ≠ (T b).2.1)
    (q : Nat) (hq : q < ω.2.2.2) {fs : List Value} (hf : ω.2.2.1 q (σ q) = .inr (ci, fs)) (hc : classes[ci]? = some (K, T, N)) (k : Nat) (hkN : k < N)
    (hl : Cond.fieldLink own index ref (T k).2.1 (T k).2.2.1 ∈ tbG) (hr : ref = (T k).1) (hfin : (T k).2.2.2 = false) {x : Int32} (hn : narrow (ty0 k) (.int x) = .int x) (hfit : fits (ty0 k) (.int x) = true) (hlen : k < fs.length) (hu : ω.2.2.1 q (upd (σ q) k x) = .inr (ci, fs.set k (.int x)))
    (hdg : decode cc pc = .ok (.putfield index, 3))
    (kk : ∀ (H1 : Heap) (locs1 : List Loc), wS ω A s.heap (mset σ q k x) H1 locs1 → W p l e R s m args below meth c H1 locs1 cells slots Q (F0 m (pc + 3) ls rest)) : W p l e R s m args below meth c H locs cells slots Q (F0 m pc ls (.int x :: .ref (ω.2.1 q) :: rest)) := by
  obtain ⟨hx, hb, hml, ho, hts, -, -⟩ := C
  subst hr
  refine va_put (D := ω.1) hx hb hts hin ty0 hty hnm ho hk.1 hE.1 hE.2.1 hE.2.2 q (by rw [wo_at hq, hf]) hc k hkN (hts _ hl) (fun _ h => h) hfin (hty k hkN) hn hfit hlen hdg (fun H1 locs1 hP hD hS => ?_)
  rw [wo_set hq hu] at hP hD
  exact kk H1 locs1 ⟨hP, hD, hS⟩
theorem w_iald (C : bC p s m args meth c cc nL own ret) (hk : wk ω.1 cs s) (hE : wS ω A s.heap σ H locs) (q : Nat) (hq : q < ω.2.2.2) {n i : Nat} (hf : ω.2.2.1 q (σ q) = .inl (cs 0, n, .inl (σ q))) (hi : i < n) (hn : n < 2 ^ 31) (hdg : decode cc pc = .ok (.iaload, 1))
    (kk : W p l e R s m args below meth c H locs cells slots Q (F0 m (pc + 1) ls (.int (σ q i) :: rest))) : W p l e R s m args below meth c H locs cells slots Q (F0 m pc ls (.int (nI i) :: .ref (ω.2.1 q) :: rest)) := by
  obtain ⟨hx, hb, hml, ho, hts, -, -⟩ := C
  refine va_iald (D := ω.1) hx hb hk.1 hE.1 q 0 (by rw [wo_at hq, hf]) rfl (vp_in_nI hi hn) hdg ?_
  rw [nI_clamp (by omega)]
  exact kk
theorem w_iast (C : bC p s m args meth c cc nL own ret) (hk : wk ω.1 cs s) (hE : wS ω A s.heap σ H locs) (q : Nat) (hq : q < ω.2.2.2) {n i : Nat} (hf : ∀ r : Nat → Int32, ω.2.2.1 q r = .inl (cs 0, n, .inl r)) (hi : i < n) (hn : n < 2 ^ 31) {x : Int32} (hdg : decode cc pc = .ok (.iastore, 1))
    (kk : ∀ (H1 : Heap) (locs1 : List Loc), wS ω A s.heap (mset σ q i x) H1 locs1 → W p l e R s m args below meth c H1 locs1 cells slots Q (F0 m (pc + 1) ls rest)) : W p l e R s m args below meth c H locs cells slots Q (F0 m pc ls (.int x :: .int (nI i) :: .ref (ω.2.1 q) :: rest)) := by
  obtain ⟨hx, hb, hml, ho, hts, -, -⟩ := C
  refine va_iast (D := ω.1) hx hb hk.1 hE.1 hE.2.1 hE.2.2 q 0 (by rw [wo_at hq, hf]) rfl (vp_in_nI hi hn) hdg (fun H1 locs1 hP hD hS => ?_)
  rw [nI_clamp (by omega), wo_set hq (hf _)] at hP hD
  exact kk H1 locs1 ⟨hP, hD, hS⟩
theorem w_zald (C : bC p s m args meth c cc nL own ret) (hk : wk ω.1 cs s) (hE : wS ω A s.heap σ H locs) (q : Nat) (hq : q < ω.2.2.2) {n i : Nat} (hf : ω.2.2.1 q (σ q) = .inl (cs 2, n, .inl (σ q))) (hi : i < n) (hn : n < 2 ^ 31) (hdg : decode cc pc = .ok (.baload, 1))
    (kk : W p l e R s m args below meth c H locs cells slots Q (F0 m (pc + 1) ls (.int (σ q i) :: rest))) : W p l e R s m args below meth c H locs cells slots Q (F0 m pc ls (.int (nI i) :: .ref (ω.2.1 q) :: rest)) := by
  obtain ⟨hx, hb, hml, ho, hts, -, -⟩ := C
  refine va_zald (D := ω.1) hx hb hk.1 hE.1 q 2 (by rw [wo_at hq, hf]) rfl (vp_in_nI hi hn) hdg ?_
  rw [nI_clamp (by omega)]
  exact kk
/-- a row out of an array of rows -/
theorem w_aald (C : bC p s m args meth c cc nL own ret) (hk : wk ω.1 cs s) (hE : wS ω A s.heap σ H locs) (q : Nat) (hq : q < ω.2.2.2) {n i : Nat} {f : Nat → Option Nat} {b : Nat} (hf : ω.2.2.1 q (σ q) = .inl (cs 1, n, .inr (.inr (.inr (.inr f))))) (hi : i < n) (hn : n < 2 ^ 31) (hfi : f i = some b) (hdg : decode cc pc = .ok (.aaload, 1))
    (kk : W p l e R s m args below meth c H locs cells slots Q (F0 m (pc + 1) ls (.ref b :: rest))) : W p l e R s m args below meth c H locs cells slots Q (F0 m pc ls (.int (nI i) :: .ref (ω.2.1 q) :: rest)) := by
  obtain ⟨hx, hb, hml, ho, hts, -, -⟩ := C
  have hat : va_at ω.1 classes (ω.2.1 q, .inl (cs 1, n, .inr (.inr (.inr (.inr f))))) H := by
    have h := hE.1 q _ (wo_at hq)
    rwa [hf] at h
  have hcl : (nI i).toNatClampNeg = i := nI_clamp (by omega)
  refine W.aald (v := .ref b) (ty := .array .int) hx hb hat ((hk.1.2 1 _ rfl).1 n (fun j => va_rf (f j))) rfl (fun q => by cases q) (by show ¬ (nI i < 0 ∨ (arrV _ _ _).slots.size ≤ _); rw [arrV_size]; exact vp_in_nI hi hn) (by show (arrV _ _ _).slots[_]? = _; rw [hcl, arrV_read _ _ hi, hfi]; rfl) rfl rfl hdg kk
theorem w_reti (C : bC p s m args meth c cc nL own (some .int)) {post : Int32 → Mem → Prop} (hE : wS ω A s.heap σ H locs) {r : Int32} (hp : post r σ) (hdg : decode cc pc = .ok (.ireturn, 1)) :
    W p l e R s m args below meth c H locs 0 0 (wQi ω A post s below args) (F0 m pc ls [.int r]) := by
  obtain ⟨hx, hb, hml, ho, hts, hr, hlocks⟩ := C
  exact W.iret hx hb hr (fun t ht hW => ⟨⟨r, σ, rfl, hp, by rw [ht]; exact hE.1, hE.2.1⟩, hE.2.2.F ht⟩) hE.2.2.2.2 hdg
theorem w_retz (C : bC p s m args meth c cc nL own (some .boolean)) {post : Int32 → Mem → Prop} (hE : wS ω A s.heap σ H locs) {r : Int32} (hn : r = 0 ∨ r = 1) (hp : post r σ) (hdg : decode cc pc = .ok (.ireturn, 1)) :
    W p l e R s m args below meth c H locs 0 0 (wQi ω A post s below args) (F0 m pc ls [.int r]) := by
  obtain ⟨hx, hb, hml, ho, hts, hr, hlocks⟩ := C
  exact W.zret hx hb hr (by rcases hn with rfl | rfl <;> rfl) (fun t ht hW => ⟨⟨r, σ, rfl, hp, by rw [ht]; exact hE.1, hE.2.1⟩, hE.2.2.F ht⟩) hE.2.2.2.2 hdg
theorem w_retv (C : bC p s m args meth c cc nL own none) {post : Mem → Prop} (hE : wS ω A s.heap σ H locs) (hp : post σ) (hdg : decode cc pc = .ok (.return_, 1)) :
    W p l e R s m args below meth c H locs 0 0 (wQv ω A post s below args) (F0 m pc ls []) := by
  obtain ⟨hx, hb, hml, ho, hts, hr, hlocks⟩ := C
  exact W.vret hx hb hr (fun t ht hW => ⟨⟨σ, rfl, hp, by rw [ht]; exact hE.1, hE.2.1⟩, hE.2.2.F ht⟩) hE.2.2.2.2 hdg
/-- the cells that a callee over the world may change are ours to change -/
theorem w_free (hE : wS ω A s.heap σ H locs) (hA : ∀ q : Nat, s.heap.size ≤ q → A q) : ∀ q, va_A (wo ω σ) H.size q → A q := by
  intro q h
  rcases h with ⟨k, e, h⟩ | h
  · exact hE.2.1.2 k _ h
  · exact hA q (Nat.le_trans hE.2.2.1 h)
variable {y : MethodName} {b : ByteArray} {mL f L index : Nat} {ret' : Option FieldType} {a : Nat} {As st0 : List Value}
abbrev w_okd (y : MethodName) (n : Nat) : Prop := y.cls ≠ "java/lang/invoke/MethodHandle" ∧ y.cls ≠ "java/lang/invoke/VarHandle" ∧ (parseMethodDescriptor y.desc).map (fun d => d.parameters.length) = some n
theorem w_runV (C : bC p s m args meth c cc nL own ret) (hk : wk ω.1 cs s) (hE : wS ω A s.heap σ H locs) (hsz : ls.size = nL)
    {q : Nat} {Qc : Array Value → State → Outcome → State → Prop} {free : Addr → Prop} (hM : Met l y (ms_ws y b mL ret') (rmF f L) (wPc ω cs (.ref (ω.2.1 q) :: As) σ H.size) Qc 0 0 free)
    (hq : q < ω.2.2.2) {ci N : Nat} {T : u_T} {fs : List Value} (hf : ω.2.2.1 q (σ q) = .inr (ci, fs)) (hc : classes[ci]? = some (y.cls, T, N))
    (h1 : Cond.methodLink own index y ∈ tbG) (h2 : Cond.instanceMethod y ∈ tbG) (h3 : Cond.selects y.cls y y ∈ tbG) (h4 : Cond.initialized y.cls ∈ tbG) (h5 : Cond.code y b mL ret' ∈ tbG) {n : Nat} (hd : w_okd y n) (hn : As.length = n)
    (hst : st0 = As.reverse ++ .ref (ω.2.1 q) :: rest) (hw : (rest.map fun v => v.category).sum ≤ 8) (hdg : decode cc pc = .ok (.invokevirtual index, 3)) (hR : f + 1 ≤ R.frames ∧ 8 + (mL + 11) + L ≤ R.locals) (hc0 : cells ≤ R.cells ∧ slots ≤ R.slots) :
    va_Run p l e R s m args below meth c H locs cells slots 0 0 (F0 m pc ls st0) rest (Qc (Value.ref (ω.2.1 q) :: As).toArray) free := by
  obtain ⟨hx, hb, hml, ho, hts, -, -⟩ := C
  refine va_runV (Ts := tbG) (own := own) (C := y.cls) ⟨hx, hb, hml, ho, hts⟩ hM (cwV (ret := ret') n hts (gi_of ?_) rfl rfl rfl ⟨rfl, hd⟩ hR) ⟨wPc_blind, va_recv hk.1 hE.1 (ci := ci) (q0 := q) hc (by rw [wo_at hq, hf]), fun U hU hW => ⟨rfl, by rw [hU], by rw [hU]; exact hE.1, hk.warm hW, hE.2.1.weaken (fun _ _ _ _ => trivial)⟩⟩ rfl hn hsz hst (lv_room hw) hdg hc0
  intro w hw
  rcases List.mem_append.mp hw with h | h
  · simp only [List.mem_cons, List.not_mem_nil, or_false] at h
    rcases h with rfl | rfl | rfl | rfl
    · exact h1
    · exact h2
    · exact h3
    · exact h4
  · exact gi_ms h5 w h
theorem w_runS (C : bC p s m args meth c cc nL own ret) (hk : wk ω.1 cs s) (hE : wS ω A s.heap σ H locs) (hsz : ls.size = nL)
    {Qc : Array Value → State → Outcome → State → Prop} {free : Addr → Prop} (hM : Met l y (ms_ws y b mL ret') (rmF f L) (wPc ω cs As σ H.size) Qc 0 0 free)
    (h1 : Cond.methodLink own index y ∈ tbG) (h2 : Cond.static y ∈ tbG) (h4 : Cond.initialized y.cls ∈ tbG) (h5 : Cond.code y b mL ret' ∈ tbG) {n : Nat} (hd : w_okd y n) (hn : As.length = n)
    (hst : st0 = As.reverse ++ rest) (hw : (rest.map fun v => v.category).sum ≤ 8) (hdg : decode cc pc = .ok (.invokestatic index, 3)) (hR : f + 1 ≤ R.frames ∧ 8 + (mL + 11) + L ≤ R.locals) (hc0 : cells ≤ R.cells ∧ slots ≤ R.slots) :
    va_Run p l e R s m args below meth c H locs cells slots 0 0 (F0 m pc ls st0) rest (Qc As.toArray) free := by
  obtain ⟨hx, hb, hml, ho, hts, -, -⟩ := C
  refine va_runS (Ts := tbG) (own := own) ⟨hx, hb, hml, ho, hts⟩ hM (va_cwS (ret := ret') n hts (gi_of ?_) rfl rfl rfl hd hR) ⟨wPc_blind, fun U hU hW => ⟨rfl, by rw [hU], by rw [hU]; exact hE.1, hk.warm hW, hE.2.1.weaken (fun _ _ _ _ => trivial)⟩⟩ rfl hn hsz hst (lv_room hw) hdg hc0
  intro w hw
  rcases List.mem_append.mp hw with h | h
  · simp only [List.mem_cons, List.not_mem_nil, or_false] at h
    rcases h with rfl | rfl | rfl
    · exact h1
    · exact h2
    · exact h4
  · exact gi_ms h5 w h
theorem w_runSN (C : bC p s m args meth c cc nL own ret) (hk : wk ω.1 cs s) (hE : wS ω A s.heap σ H locs) (hsz : ls.size = nL)
    {Qc : Array Value → State → Outcome → State → Prop} {free : Addr → Prop} (hM : Met l y (ms_ws y b mL ret') (rmF f L) (wPc ω cs As σ H.size) Qc 0 0 free) {host : String}
    (h1 : va_Nw (.methodLinkNest own index y host) s) (h2 : Cond.static y ∈ tbG) (h4 : Cond.initialized y.cls ∈ tbG) (h5 : Cond.code y b mL ret' ∈ tbG) {n : Nat} (hd : w_okd y n) (hn : As.length = n)
    (hst : st0 = As.reverse ++ rest) (hw : (rest.map fun v => v.category).sum ≤ 8) (hdg : decode cc pc = .ok (.invokestatic index, 3)) (hR : f + 1 ≤ R.frames ∧ 8 + (mL + 11) + L ≤ R.locals) (hc0 : cells ≤ R.cells ∧ slots ≤ R.slots) :
    va_Run p l e R s m args below meth c H locs cells slots 0 0 (F0 m pc ls st0) rest (Qc As.toArray) free := by
  obtain ⟨hx, hb, hml, ho, hts, -, -⟩ := C
  exact va_runSN (Ts := tbG) (own := own) ⟨hx, hb, hml, ho, hts⟩ hM ⟨va_cnB (ret := ret') n hts (gi_of (gi_ms h5)) rfl rfl rfl h1 (hts _ h4) hd hR, hts _ h2, trivial⟩ ⟨wPc_blind, fun U hU hW => ⟨rfl, by rw [hU], by rw [hU]; exact hE.1, hk.warm hW, hE.2.1.weaken (fun _ _ _ _ => trivial)⟩⟩ rfl hn hsz hst (lv_room hw) hdg hc0
theorem w_ci {post : Int32 → Mem → Prop} (hE : wS ω A s.heap σ H locs) (hA : ∀ q : Nat, s.heap.size ≤ q → A q) {a : Array Value} (hr : va_Run p l e R s m args below meth c H locs cells slots 0 0 (F0 m pc ls st0) rest (va_Qi post (wB ω (va_A (wo ω σ) H.size)) (va_A (wo ω σ) H.size) a) (va_A (wo ω σ) H.size))
    (kk : ∀ (r : Int32) (σ1 : Mem) (H1 : Heap) (locs1 : List Loc), post r σ1 → wS ω A s.heap σ1 H1 locs1 → H.size ≤ H1.size → (∀ q : Nat, q < H.size → ¬ va_A (wo ω σ) H.size q → H1[q]? = H[q]?) → W p l e R s m args below meth c H1 locs1 cells slots Q (F0 m (pc + 3) ls (.int r :: rest))) :
    W p l e R s m args below meth c H locs cells slots Q (F0 m pc ls st0) :=
  va_calli hr hE.2.2 (fun q _ h => w_free hE hA q h) (w_free hE hA) (fun r u t H1 locs1 ht _ hp hB hz1 hk1 hS1 => kk r u H1 locs1 hp ⟨by rw [← ht]; exact hB.1, hB.2.weaken (fun _ _ _ h => w_free hE hA _ h), hS1⟩ hz1 hk1)
theorem w_cv {post : Mem → Prop} (hE : wS ω A s.heap σ H locs) (hA : ∀ q : Nat, s.heap.size ≤ q → A q) {a : Array Value} (hr : va_Run p l e R s m args below meth c H locs cells slots 0 0 (F0 m pc ls st0) rest (va_Qv post (wB ω (va_A (wo ω σ) H.size)) (va_A (wo ω σ) H.size) a) (va_A (wo ω σ) H.size))
    (kk : ∀ (σ1 : Mem) (H1 : Heap) (locs1 : List Loc), post σ1 → wS ω A s.heap σ1 H1 locs1 → H.size ≤ H1.size → (∀ q : Nat, q < H.size → ¬ va_A (wo ω σ) H.size q → H1[q]? = H[q]?) → W p l e R s m args below meth c H1 locs1 cells slots Q (F0 m (pc + 3) ls rest)) :
    W p l e R s m args below meth c H locs cells slots Q (F0 m pc ls st0) :=
  va_callv hr hE.2.2 (fun q _ h => w_free hE hA q h) (w_free hE hA) (fun u t H1 locs1 ht _ hp hB hz1 hk1 hS1 => kk u H1 locs1 hp ⟨by rw [← ht]; exact hB.1, hB.2.weaken (fun _ _ _ h => w_free hE hA _ h), hS1⟩ hz1 hk1)
end WR
/-! the world of an EarleyChart: 58 cells -/
def cE (cs : Nat → ClassId) (ad : Nat → Nat) (k : Nat) (r : Nat → Int32) : va_E :=
  match k with
  | 0 => .inr (5, [.int (r 0), .int (r 1), .ref (ad 1), .ref (ad 2), .ref (ad 3), .ref (ad 4), .ref (ad 5)])
  | 1 => .inr (0, [.ref (ad 6), .ref (ad 7), .ref (ad 8), .ref (ad 9), .int (r 4), .int (r 5)])
  | 2 => .inr (1, [.ref (ad 10), .int (r 1)])
  | 3 => .inr (2, [.ref (ad 1), .ref (ad 11), .ref (ad 12)])
  | 4 => .inr (3, [.ref (ad 1), .ref (ad 2), .ref (ad 13), .ref (ad 14)])
  | 5 => .inr (4, [.ref (ad 1), .ref (ad 4), .ref (ad 15), .int (r 3), .ref (ad 16), .ref (ad 17), .ref (ad 18), .int (r 7)])
  | 6 => .inl (cs 0, 8, .inl r)
  | 7 => .inl (cs 0, 8, .inl r)
  | 8 => .inl (cs 0, 24, .inl r)
  | 9 => .inl (cs 0, 24, .inl r)
  | 10 => .inl (cs 0, 8, .inl r)
  | 11 => .inl (cs 1, 9, .inr (.inr (.inr (.inr (fun i => some (ad (i + 19)))))))
  | 12 => .inl (cs 0, 6, .inl r)
  | 13 => .inl (cs 1, 6, .inr (.inr (.inr (.inr (fun i => some (ad (i + 28)))))))
  | 14 => .inl (cs 1, 24, .inr (.inr (.inr (.inr (fun i => some (ad (i + 34)))))))
  | 15 => .inl (cs 0, 8000, .inl r)
  | 16 => .inl (cs 0, 54, .inl r)
  | 17 => .inl (cs 0, 54, .inl r)
  | 18 => .inl (cs 0, 54, .inl r)
  | k + 19 => if k < 9 then .inl (cs 0, 24, .inl r) else .inl (cs 0, 81, .inl r)
theorem cE_o {cs : Nat → ClassId} {ad : Nat → Nat} {k : Nat} {r : Nat → Int32} (h : k < 9) : cE cs ad (k + 19) r = .inl (cs 0, 24, .inl r) := if_pos h
theorem cE_v {cs : Nat → ClassId} {ad : Nat → Nat} {k : Nat} {r : Nat → Int32} : cE cs ad (k + 28) r = .inl (cs 0, 81, .inl r) := by
  show (if k + 9 < 9 then (.inl (cs 0, 24, .inl r) : va_E) else .inl (cs 0, 81, .inl r)) = _
  rw [if_neg (by omega)]
theorem cE_r {cs : Nat → ClassId} {ad : Nat → Nat} {k : Nat} {r : Nat → Int32} : cE cs ad (k + 34) r = .inl (cs 0, 81, .inl r) := by
  show (if k + 15 < 9 then (.inl (cs 0, 24, .inl r) : va_E) else .inl (cs 0, 81, .inl r)) = _
  rw [if_neg (by omega)]
abbrev wE (D : va_G) (cs : Nat → ClassId) (ad : Nat → Nat) : Wd := (D, ad, cE cs ad, 58)
/-! the world of an EarleyChartModel: 10 cells -/
def cM (cs : Nat → ClassId) (ad : Nat → Nat) (k : Nat) (r : Nat → Int32) : va_E :=
  match k with
  | 0 => .inr (6, [.int (r 0), .int (r 1), .int (r 2), .int (r 3), .ref (ad 1), .ref (ad 2), .ref (ad 3), .int (r 7), .ref (ad 4), .ref (ad 5), .int (r 10), .ref (ad 6), .int (r 12), .ref (ad 7), .int (r 14), .ref (ad 8), .ref (ad 9)])
  | 1 => .inl (cs 0, 8, .inl r)
  | 2 => .inl (cs 0, 8, .inl r)
  | 3 => .inl (cs 0, 32, .inl r)
  | 4 => .inl (cs 0, 9, .inl r)
  | 5 => .inl (cs 2, 3240, .inl r)
  | 6 => .inl (cs 0, 486, .inl r)
  | 7 => .inl (cs 0, 45, .inl r)
  | 8 => .inl (cs 0, 8000, .inl r)
  | _ => .inl (cs 0, 1000, .inl r)
abbrev wM (D : va_G) (cs : Nat → ClassId) (ad : Nat → Nat) : Wd := (D, ad, cM cs ad, 10)
end
section
section WH
variable {p : Program} {l : Launch} {e : Env} {R : Room} {s : State} {m : MethodId} {args : Array Value} {below : List Frame} {meth : Method} {c : Code} {H : Heap} {locs : List Loc} {cells slots : Nat} {Q : State → Prop}
variable {cc : ByteArray} {pc nL : Nat} {own : String} {ret : Option FieldType} {ls : Array Slot} {rest : List Value} {ω : Wd} {cs : Nat → ClassId} {A : Nat → Prop} {σ : Mem}
theorem w_top {x y : Int32} (h : x = y) (kk : W p l e R s m args below meth c H locs cells slots Q (F0 m pc ls (.int y :: rest))) : W p l e R s m args below meth c H locs cells slots Q (F0 m pc ls (.int x :: rest)) := h ▸ kk
theorem w_alen (C : bC p s m args meth c cc nL own ret) (hk : wk ω.1 cs s) (hE : wS ω A s.heap σ H locs) (q : Nat) (hq : q < ω.2.2.2) {n : Nat} (hf : ω.2.2.1 q (σ q) = .inl (cs 0, n, .inl (σ q))) (hdg : decode cc pc = .ok (.arraylength, 1))
    (kk : W p l e R s m args below meth c H locs cells slots Q (F0 m (pc + 1) ls (.int (nI n) :: rest))) : W p l e R s m args below meth c H locs cells slots Q (F0 m pc ls (.ref (ω.2.1 q) :: rest)) := by
  obtain ⟨hx, hb, hml, ho, hts, -, -⟩ := C
  have hat : va_at ω.1 classes (ω.2.1 q, .inl (cs 0, n, .inl (σ q))) H := by
    have h := hE.1 q _ (wo_at hq)
    rwa [hf] at h
  exact W.alen (n := nI n) (ty := .int) hx hb hat ((hk.1.2 0 _ rfl).1 n (fun j => .int (σ q j))) (by show (arrV _ _ _).slots.size.toInt32 = _; rw [arrV_size]; rfl) rfl rfl hdg kk
theorem w_zast (C : bC p s m args meth c cc nL own ret) (hk : wk ω.1 cs s) (hE : wS ω A s.heap σ H locs) (q : Nat) (hq : q < ω.2.2.2) {n i : Nat} (hf : ∀ r : Nat → Int32, ω.2.2.1 q r = .inl (cs 2, n, .inl r)) (hi : i < n) (hn : n < 2 ^ 31) {x : Int32} (hx1 : x = 0 ∨ x = 1) (hdg : decode cc pc = .ok (.bastore, 1))
    (kk : ∀ (H1 : Heap) (locs1 : List Loc), wS ω A s.heap (mset σ q i x) H1 locs1 → W p l e R s m args below meth c H1 locs1 cells slots Q (F0 m (pc + 1) ls rest)) : W p l e R s m args below meth c H locs cells slots Q (F0 m pc ls (.int x :: .int (nI i) :: .ref (ω.2.1 q) :: rest)) := by
  obtain ⟨hx, hb, hml, ho, hts, -, -⟩ := C
  refine va_zast (D := ω.1) hx hb hk.1 hE.1 hE.2.1 hE.2.2 q 2 (by rw [wo_at hq, hf]) rfl (vp_in_nI hi hn) hdg (fun H1 locs1 hP hD hS => ?_)
  have e : vp_nar .boolean x = x := by rcases hx1 with rfl | rfl <;> rfl
  rw [e, nI_clamp (by omega), wo_set hq (hf _)] at hP hD
  exact kk H1 locs1 ⟨hP, hD, hS⟩
end WH
theorem w_sub {a b c : Nat} (h : b ≤ a) (e : a - b = c) : nI a - nI b = nI c := by rw [pk_sub h, e]
theorem w_z0 {n : Nat} (h : n < 2 ^ 31) (c : nI n = 0) : n = 0 := (nI_eq h (by decide)).mp (c.trans nI_0.symm)
theorem w_n0 {n : Nat} (_ : n < 2 ^ 31) (c : ¬ nI n = 0) : n ≠ 0 := fun e => c (by rw [e]; exact nI_0)
theorem w_lt0 {n : Nat} (h : n < 2 ^ 31) (c : nI n < 0) : False := nI_pos h c
theorem w_nlt0 {n : Nat} (_ : n < 2 ^ 31) (_ : ¬ nI n < 0) : True := trivial
theorem w_ge0 {n : Nat} (_ : n < 2 ^ 31) (_ : 0 ≤ nI n) : True := trivial
theorem w_nge0 {n : Nat} (h : n < 2 ^ 31) (c : ¬ 0 ≤ nI n) : False := c (nI_pos' h)
theorem w_gt0 {n : Nat} (h : n < 2 ^ 31) (c : 0 < nI n) : 0 < n := (nI_ltI (by decide) h).mp (nI_0.symm ▸ c)
theorem w_ngt0 {n : Nat} (h : n < 2 ^ 31) (c : ¬ 0 < nI n) : n = 0 := by
  rcases Nat.eq_zero_or_pos n with h0 | h0
  · exact h0
  · exact absurd (nI_0 ▸ (nI_ltI (by decide) h).mpr h0) c
theorem w_le0 {n : Nat} (h : n < 2 ^ 31) (c : nI n ≤ 0) : n = 0 := by
  have := (nI_leI h (by decide : 0 < 2 ^ 31)).mp (nI_0.symm ▸ c); omega
theorem w_nle0 {n : Nat} (h : n < 2 ^ 31) (c : ¬ nI n ≤ 0) : 0 < n := by
  rcases Nat.eq_zero_or_pos n with h0 | h0
  · exact absurd (by rw [h0, nI_0]; exact Int32.le_refl 0) c
  · exact h0
/-- a boolean as the machine has it -/
def zb (b : Bool) : Int32 := if b then nI 1 else nI 0
theorem zb_t : zb true = nI 1 := rfl
theorem zb_f : zb false = nI 0 := rfl
theorem zb_01 (b : Bool) : zb b = 0 ∨ zb b = 1 := by cases b; exact Or.inl rfl; exact Or.inr rfl
theorem zb_eq0 {b : Bool} (h : zb b = 0) : b = false := by cases b; rfl; exact absurd h (by decide)
theorem zb_ne0 {b : Bool} (h : ¬ zb b = 0) : b = true := by cases b; exact absurd rfl h; rfl
/-- is it the number of a variable, 0 .. 5 -/
def isV (x : Int32) : Bool := !decide (x < 0) && !decide (nI 6 ≤ x)
/-- the bits of a mask, counted as the library counts them -/
def popc (x : Int32) : Int32 :=
  let a := x - ((x.toUInt32 >>> ((nI 1).toUInt32 &&& Int32.toUInt32 31)).toInt32 &&& 1431655765)
  let b := (a &&& 858993459) + ((a.toUInt32 >>> ((nI 2).toUInt32 &&& Int32.toUInt32 31)).toInt32 &&& 858993459)
  let d := (b + (b.toUInt32 >>> ((nI 4).toUInt32 &&& Int32.toUInt32 31)).toInt32) &&& 252645135
  let e := d + (d.toUInt32 >>> ((nI 8).toUInt32 &&& Int32.toUInt32 31)).toInt32
  let f := e + (e.toUInt32 >>> ((nI 16).toUInt32 &&& Int32.toUInt32 31)).toInt32
  f &&& nI 63
end
section
set_option maxHeartbeats 4000000 in
set_option maxRecDepth 100000 in
theorem c_G_start (l : Launch) (D : va_G) (cs : Nat → ClassId) (ad : Nat → Nat) (σ : Mem)  : MetI l (wE D cs ad) cs yG_start bG_start 1 (some .int) 0 0 [.ref (ad 1)] σ (fun r τ => r = σ 6 0 ∧ τ = σ) := by
  refine MetI.start (by decide) (Nat.le_of_ble_eq_true rfl) ?_
  intro p e s m below meth c A ls C hk hA hE hl
  obtain ⟨hx, hb, hml, hown, hts, hr, hlocks⟩ := id C
  have hl : lv_has ls 1 [(0, .ref (ad 1))] := hl
  refine lv_aload_n hx hb dG_start_0 rfl (lv_at hl 0 rfl) ?_
  refine w_get C hk hE (K := R_G) (T := F_G) (N := 6) (ci := 0) in_G 1 (Nat.le_of_ble_eq_true rfl) rfl rfl 0 (by decide) tw_31 rfl rfl dG_start_1 ?_
  refine lv_iconst (v := nI 0) hx hb dG_start_4 (by decide) ?_
  refine w_iald C hk hE 6 (by exact Nat.le_of_ble_eq_true rfl) (n := 8) rfl (by omega) (by first | decide | omega) dG_start_5 ?_
  exact w_reti C hE (⟨rfl, rfl⟩) dG_start_6
set_option maxHeartbeats 4000000 in
set_option maxRecDepth 100000 in
theorem c_G_leftSideAt (l : Launch) (D : va_G) (cs : Nat → ClassId) (ad : Nat → Nat) (σ : Mem) (t p9 : Nat) (ht : t < 24) (hp : σ 9 t = nI p9) (hp8 : p9 < 8) : MetI l (wE D cs ad) cs yG_leftSideAt bG_leftSideAt 2 (some .int) 0 0 [.ref (ad 1), .int (nI t)] σ (fun r τ => r = σ 6 p9 ∧ τ = σ) := by
  refine MetI.start (by decide) (Nat.le_of_ble_eq_true rfl) ?_
  intro p e s m below meth c A ls C hk hA hE hl
  obtain ⟨hx, hb, hml, hown, hts, hr, hlocks⟩ := id C
  have hl : lv_has ls 2 [(0, .ref (ad 1)), (1, .int (nI t))] := hl
  refine lv_aload_n hx hb dG_leftSideAt_0 rfl (lv_at hl 0 rfl) ?_
  refine w_get C hk hE (K := R_G) (T := F_G) (N := 6) (ci := 0) in_G 1 (Nat.le_of_ble_eq_true rfl) rfl rfl 0 (by decide) tw_31 rfl rfl dG_leftSideAt_1 ?_
  refine lv_aload_n hx hb dG_leftSideAt_4 rfl (lv_at hl 0 rfl) ?_
  refine w_get C hk hE (K := R_G) (T := F_G) (N := 6) (ci := 0) in_G 1 (Nat.le_of_ble_eq_true rfl) rfl rfl 3 (by decide) tw_41 rfl rfl dG_leftSideAt_5 ?_
  refine lv_iload_n hx hb dG_leftSideAt_8 rfl (lv_at hl 1 rfl) ?_
  refine w_iald C hk hE 9 (by exact Nat.le_of_ble_eq_true rfl) (n := 24) rfl (by omega) (by first | decide | omega) dG_leftSideAt_9 ?_
  refine w_top (y := nI p9) (hp) ?_
  refine w_iald C hk hE 6 (by exact Nat.le_of_ble_eq_true rfl) (n := 8) rfl (by omega) (by first | decide | omega) dG_leftSideAt_10 ?_
  exact w_reti C hE (⟨rfl, rfl⟩) dG_leftSideAt_11
set_option maxHeartbeats 4000000 in
set_option maxRecDepth 100000 in
theorem c_G_dotAt (l : Launch) (D : va_G) (cs : Nat → ClassId) (ad : Nat → Nat) (σ : Mem) (t p9 f9 : Nat) (ht : t < 24) (hp : σ 9 t = nI p9) (hp8 : p9 < 8) (hf : σ 7 p9 = nI f9) (hle : f9 ≤ t) : MetI l (wE D cs ad) cs yG_dotAt bG_dotAt 2 (some .int) 0 0 [.ref (ad 1), .int (nI t)] σ (fun r τ => r = nI (t - f9) ∧ τ = σ) := by
  refine MetI.start (by decide) (Nat.le_of_ble_eq_true rfl) ?_
  intro p e s m below meth c A ls C hk hA hE hl
  obtain ⟨hx, hb, hml, hown, hts, hr, hlocks⟩ := id C
  have hl : lv_has ls 2 [(0, .ref (ad 1)), (1, .int (nI t))] := hl
  refine lv_iload_n hx hb dG_dotAt_0 rfl (lv_at hl 1 rfl) ?_
  refine lv_aload_n hx hb dG_dotAt_1 rfl (lv_at hl 0 rfl) ?_
  refine w_get C hk hE (K := R_G) (T := F_G) (N := 6) (ci := 0) in_G 1 (Nat.le_of_ble_eq_true rfl) rfl rfl 1 (by decide) tw_34 rfl rfl dG_dotAt_2 ?_
  refine lv_aload_n hx hb dG_dotAt_5 rfl (lv_at hl 0 rfl) ?_
  refine w_get C hk hE (K := R_G) (T := F_G) (N := 6) (ci := 0) in_G 1 (Nat.le_of_ble_eq_true rfl) rfl rfl 3 (by decide) tw_41 rfl rfl dG_dotAt_6 ?_
  refine lv_iload_n hx hb dG_dotAt_9 rfl (lv_at hl 1 rfl) ?_
  refine w_iald C hk hE 9 (by exact Nat.le_of_ble_eq_true rfl) (n := 24) rfl (by omega) (by first | decide | omega) dG_dotAt_10 ?_
  refine w_top (y := nI p9) (hp) ?_
  refine w_iald C hk hE 7 (by exact Nat.le_of_ble_eq_true rfl) (n := 8) rfl (by omega) (by first | decide | omega) dG_dotAt_11 ?_
  refine w_top (y := nI f9) (hf) ?_
  refine lv_isub hx hb dG_dotAt_12 ?_
  refine w_top (y := nI (t - f9)) (w_sub (by omega) (by omega)) ?_
  exact w_reti C hE (⟨rfl, rfl⟩) dG_dotAt_13
set_option maxHeartbeats 4000000 in
set_option maxRecDepth 100000 in
theorem c_T_stretch (l : Launch) (D : va_G) (cs : Nat → ClassId) (ad : Nat → Nat) (σ : Mem) (i j : Nat)  : MetI l (wE D cs ad) cs yT_stretch bT_stretch 2 (some .int) 0 0 [.int (nI i), .int (nI j)] σ (fun r τ => r = nI (i * 9 + j) ∧ τ = σ) := by
  refine MetI.start (by decide) (Nat.le_of_ble_eq_true rfl) ?_
  intro p e s m below meth c A ls C hk hA hE hl
  obtain ⟨hx, hb, hml, hown, hts, hr, hlocks⟩ := id C
  have hl : lv_has ls 2 [(0, .int (nI i)), (1, .int (nI j))] := hl
  refine lv_iload_n hx hb dT_stretch_0 rfl (lv_at hl 0 rfl) ?_
  refine lv_bipush (v := nI 9) hx hb dT_stretch_1 (by decide) ?_
  refine lv_imul hx hb dT_stretch_3 ?_
  refine w_top (y := nI (i * 9)) (by exact pk_mul _ _) ?_
  refine lv_iload_n hx hb dT_stretch_4 rfl (lv_at hl 1 rfl) ?_
  refine lv_iadd hx hb dT_stretch_5 ?_
  refine w_top (y := nI ((i * 9) + j)) (by first | exact nI_add _ _ | simp only [nI_add, Nat.add_assoc, Nat.add_zero, Nat.zero_add]) ?_
  exact w_reti C hE (⟨rfl, rfl⟩) dT_stretch_6
set_option maxHeartbeats 4000000 in
set_option maxRecDepth 100000 in
theorem c_E_isVariable (l : Launch) (D : va_G) (cs : Nat → ClassId) (ad : Nat → Nat) (σ : Mem) (x : Int32)  : MetI l (wE D cs ad) cs yE_isVariable bE_isVariable 1 (some .boolean) 0 0 [.int x] σ (fun r τ => r = zb (isV x) ∧ τ = σ) := by
  refine MetI.start (by decide) (Nat.le_of_ble_eq_true rfl) ?_
  intro p e s m below meth c A ls C hk hA hE hl
  obtain ⟨hx, hb, hml, hown, hts, hr, hlocks⟩ := id C
  have hl : lv_has ls 1 [(0, .int x)] := hl
  refine lv_iload_n hx hb dE_isVariable_0 rfl (lv_at hl 0 rfl) ?_
  refine lv_if_lt (tgt := 14) hx hb dE_isVariable_1 (by decide) (fun c1 => ?_) (fun c1 => ?_)
  · refine lv_iconst (v := nI 0) hx hb dE_isVariable_14 (by decide) ?_
    exact w_retz C hE (Or.inl rfl) (⟨by simp [zb, isV, *], rfl⟩) dE_isVariable_15
  · refine lv_iload_n hx hb dE_isVariable_4 rfl (lv_at hl 0 rfl) ?_
    refine lv_bipush (v := nI 6) hx hb dE_isVariable_5 (by decide) ?_
    refine lv_icmp_ge (tgt := 14) hx hb dE_isVariable_7 (by decide) (fun c2 => ?_) (fun c2 => ?_)
    · refine lv_iconst (v := nI 0) hx hb dE_isVariable_14 (by decide) ?_
      exact w_retz C hE (Or.inl rfl) (⟨by simp [zb, isV, *], rfl⟩) dE_isVariable_15
    · refine lv_iconst (v := nI 1) hx hb dE_isVariable_10 (by decide) ?_
      refine lv_goto (tgt := 15) hx hb dE_isVariable_11 (by decide) ?_
      exact w_retz C hE (Or.inr rfl) (⟨by simp [zb, isV, *], rfl⟩) dE_isVariable_15
set_option maxHeartbeats 4000000 in
set_option maxRecDepth 100000 in
theorem c_T_isFewer (l : Launch) (D : va_G) (cs : Nat → ClassId) (ad : Nat → Nat) (σ : Mem) (x k : Int32)  : MetI l (wE D cs ad) cs yT_isFewer bT_isFewer 2 (some .boolean) 0 0 [.int x, .int k] σ (fun r τ => r = zb (decide (k = -1) || decide (x < k)) ∧ τ = σ) := by
  refine MetI.start (by decide) (Nat.le_of_ble_eq_true rfl) ?_
  intro p e s m below meth c A ls C hk hA hE hl
  obtain ⟨hx, hb, hml, hown, hts, hr, hlocks⟩ := id C
  have hl : lv_has ls 2 [(0, .int x), (1, .int k)] := hl
  refine lv_iload_n hx hb dT_isFewer_0 rfl (lv_at hl 1 rfl) ?_
  refine lv_iconst (v := (-1)) hx hb dT_isFewer_1 (by decide) ?_
  refine lv_icmp_eq (tgt := 10) hx hb dT_isFewer_2 (by decide) (fun c1 => ?_) (fun c1 => ?_)
  · refine lv_iconst (v := nI 1) hx hb dT_isFewer_10 (by decide) ?_
    refine lv_goto (tgt := 15) hx hb dT_isFewer_11 (by decide) ?_
    exact w_retz C hE (Or.inr rfl) (⟨by first | (simp [zb, *]; done) | (simp [zb, Int32.not_lt.mpr c2, c1]; done) | (simp [zb, Int32.not_le.mp c2, c1]; done), rfl⟩) dT_isFewer_15
  · refine lv_iload_n hx hb dT_isFewer_5 rfl (lv_at hl 0 rfl) ?_
    refine lv_iload_n hx hb dT_isFewer_6 rfl (lv_at hl 1 rfl) ?_
    refine lv_icmp_ge (tgt := 14) hx hb dT_isFewer_7 (by decide) (fun c2 => ?_) (fun c2 => ?_)
    · refine lv_iconst (v := nI 0) hx hb dT_isFewer_14 (by decide) ?_
      exact w_retz C hE (Or.inl rfl) (⟨by first | (simp [zb, *]; done) | (simp [zb, Int32.not_lt.mpr c2, c1]; done) | (simp [zb, Int32.not_le.mp c2, c1]; done), rfl⟩) dT_isFewer_15
    · refine lv_iconst (v := nI 1) hx hb dT_isFewer_10 (by decide) ?_
      refine lv_goto (tgt := 15) hx hb dT_isFewer_11 (by decide) ?_
      exact w_retz C hE (Or.inr rfl) (⟨by first | (simp [zb, *]; done) | (simp [zb, Int32.not_lt.mpr c2, c1]; done) | (simp [zb, Int32.not_le.mp c2, c1]; done), rfl⟩) dT_isFewer_15
set_option maxHeartbeats 4000000 in
set_option maxRecDepth 100000 in
theorem c_I_isJust (l : Launch) (D : va_G) (cs : Nat → ClassId) (ad : Nat → Nat) (σ : Mem) (x : Int32) (i j n9 : Nat) (hi : i < 2 ^ 30) (hj : j < 2 ^ 30) (hn9 : n9 ≤ 8) (hln : σ 2 1 = nI n9) : MetI l (wE D cs ad) cs yI_isJust bI_isJust 4 (some .boolean) 0 0 [.ref (ad 2), .int x, .int (nI i), .int (nI j)] σ (fun r τ => r = zb (decide (j = i + 1) && (decide (i < n9) && decide (σ 10 i = x))) ∧ τ = σ) := by
  refine MetI.start (by decide) (Nat.le_of_ble_eq_true rfl) ?_
  intro p e s m below meth c A ls C hk hA hE hl
  obtain ⟨hx, hb, hml, hown, hts, hr, hlocks⟩ := id C
  have hl : lv_has ls 4 [(0, .ref (ad 2)), (1, .int x), (2, .int (nI i)), (3, .int (nI j))] := hl
  refine lv_iload_n hx hb dI_isJust_0 rfl (lv_at hl 3 rfl) ?_
  refine lv_iload_n hx hb dI_isJust_1 rfl (lv_at hl 2 rfl) ?_
  refine lv_iconst (v := nI 1) hx hb dI_isJust_2 (by decide) ?_
  refine lv_iadd hx hb dI_isJust_3 ?_
  refine w_top (y := nI (i + 1)) (by first | exact nI_add _ _ | simp only [nI_add, Nat.add_assoc, Nat.add_zero, Nat.zero_add]) ?_
  refine lv_icmp_ne (tgt := 33) hx hb dI_isJust_4 (by decide) (fun c1 => ?_) (fun c1 => ?_)
  · have c1 : ¬ (j = (i + 1)) := fun h => c1 ((nI_eq (by omega) (by omega)).mpr h)
    refine lv_iconst (v := nI 0) hx hb dI_isJust_33 (by decide) ?_
    exact w_retz C hE (Or.inl rfl) (⟨by first | (simp [zb, *]; done) | (simp [zb, *] <;> omega), rfl⟩) dI_isJust_34
  · have c1 : j = (i + 1) := (nI_eq (by omega) (by omega)).mp c1
    refine lv_iload_n hx hb dI_isJust_7 rfl (lv_at hl 2 rfl) ?_
    refine lv_if_lt (tgt := 33) hx hb dI_isJust_8 (by decide) (fun c2 => ?_) (fun c2 => ?_)
    · have c2 := w_lt0 (by omega) c2
      exact c2.elim
    · have c2 := w_nlt0 (by omega) c2
      refine lv_iload_n hx hb dI_isJust_11 rfl (lv_at hl 2 rfl) ?_
      refine lv_aload_n hx hb dI_isJust_12 rfl (lv_at hl 0 rfl) ?_
      refine w_get C hk hE (K := R_I) (T := F_I) (N := 2) (ci := 1) in_I 2 (Nat.le_of_ble_eq_true rfl) rfl rfl 1 (by decide) tw_71 rfl rfl dI_isJust_13 ?_
      refine w_top (y := nI n9) (hln) ?_
      refine lv_icmp_ge (tgt := 33) hx hb dI_isJust_16 (by decide) (fun c3 => ?_) (fun c3 => ?_)
      · have c3 : n9 ≤ i := (nI_leI (by omega) (by omega)).mp c3
        refine lv_iconst (v := nI 0) hx hb dI_isJust_33 (by decide) ?_
        exact w_retz C hE (Or.inl rfl) (⟨by first | (simp [zb, *]; done) | (simp [zb, *] <;> omega), rfl⟩) dI_isJust_34
      · have c3 : ¬ (n9 ≤ i) := fun h => c3 ((nI_leI (by omega) (by omega)).mpr h)
        refine lv_aload_n hx hb dI_isJust_19 rfl (lv_at hl 0 rfl) ?_
        refine w_get C hk hE (K := R_I) (T := F_I) (N := 2) (ci := 1) in_I 2 (Nat.le_of_ble_eq_true rfl) rfl rfl 0 (by decide) tw_70 rfl rfl dI_isJust_20 ?_
        refine lv_iload_n hx hb dI_isJust_23 rfl (lv_at hl 2 rfl) ?_
        refine w_iald C hk hE 10 (by exact Nat.le_of_ble_eq_true rfl) (n := 8) rfl (by omega) (by first | decide | omega) dI_isJust_24 ?_
        refine lv_iload_n hx hb dI_isJust_25 rfl (lv_at hl 1 rfl) ?_
        refine lv_icmp_ne (tgt := 33) hx hb dI_isJust_26 (by decide) (fun c4 => ?_) (fun c4 => ?_)
        · refine lv_iconst (v := nI 0) hx hb dI_isJust_33 (by decide) ?_
          exact w_retz C hE (Or.inl rfl) (⟨by first | (simp [zb, *]; done) | (simp [zb, *] <;> omega), rfl⟩) dI_isJust_34
        · refine lv_iconst (v := nI 1) hx hb dI_isJust_29 (by decide) ?_
          refine lv_goto (tgt := 34) hx hb dI_isJust_30 (by decide) ?_
          exact w_retz C hE (Or.inr rfl) (⟨by first | (simp [zb, *]; done) | (simp [zb, *] <;> omega), rfl⟩) dI_isJust_34
set_option maxHeartbeats 4000000 in
set_option maxRecDepth 100000 in
theorem c_J_bitCount (l : Launch) (D : va_G) (cs : Nat → ClassId) (ad : Nat → Nat) (σ : Mem) (x : Int32)  : MetI l (wE D cs ad) cs yJ_bitCount bJ_bitCount 1 (some .int) 0 0 [.int x] σ (fun r τ => r = popc x ∧ τ = σ) := by
  refine MetI.start (by decide) (Nat.le_of_ble_eq_true rfl) ?_
  intro p e s m below meth c A ls C hk hA hE hl
  obtain ⟨hx, hb, hml, hown, hts, hr, hlocks⟩ := id C
  have hl : lv_has ls 1 [(0, .int x)] := hl
  refine lv_iload_n hx hb dJ_bitCount_0 rfl (lv_at hl 0 rfl) ?_
  refine lv_iload_n hx hb dJ_bitCount_1 rfl (lv_at hl 0 rfl) ?_
  refine lv_iconst (v := nI 1) hx hb dJ_bitCount_2 (by decide) ?_
  refine lv_iushr hx hb dJ_bitCount_3 rfl ?_
  refine lv_ldcw (v := 1431655765) hx hb hown (hts _ tw_183) dJ_bitCount_4 ?_
  refine lv_iand hx hb dJ_bitCount_7 ?_
  refine lv_isub hx hb dJ_bitCount_8 ?_
  refine lv_topi (fun x1 e1 => ?_)
  refine lv_istore_n (lv' := [(0, .int x1)]) hx hb dJ_bitCount_9 rfl hl (by decide) rfl (fun ls hl => ?_)
  refine lv_iload_n hx hb dJ_bitCount_10 rfl (lv_at hl 0 rfl) ?_
  refine lv_ldcw (v := 858993459) hx hb hown (hts _ tw_184) dJ_bitCount_11 ?_
  refine lv_iand hx hb dJ_bitCount_14 ?_
  refine lv_iload_n hx hb dJ_bitCount_15 rfl (lv_at hl 0 rfl) ?_
  refine lv_iconst (v := nI 2) hx hb dJ_bitCount_16 (by decide) ?_
  refine lv_iushr hx hb dJ_bitCount_17 rfl ?_
  refine lv_ldcw (v := 858993459) hx hb hown (hts _ tw_184) dJ_bitCount_18 ?_
  refine lv_iand hx hb dJ_bitCount_21 ?_
  refine lv_iadd hx hb dJ_bitCount_22 ?_
  refine lv_topi (fun x2 e2 => ?_)
  refine lv_istore_n (lv' := [(0, .int x2)]) hx hb dJ_bitCount_23 rfl hl (by decide) rfl (fun ls hl => ?_)
  refine lv_iload_n hx hb dJ_bitCount_24 rfl (lv_at hl 0 rfl) ?_
  refine lv_iload_n hx hb dJ_bitCount_25 rfl (lv_at hl 0 rfl) ?_
  refine lv_iconst (v := nI 4) hx hb dJ_bitCount_26 (by decide) ?_
  refine lv_iushr hx hb dJ_bitCount_27 rfl ?_
  refine lv_iadd hx hb dJ_bitCount_28 ?_
  refine lv_ldcw (v := 252645135) hx hb hown (hts _ tw_185) dJ_bitCount_29 ?_
  refine lv_iand hx hb dJ_bitCount_32 ?_
  refine lv_topi (fun x3 e3 => ?_)
  refine lv_istore_n (lv' := [(0, .int x3)]) hx hb dJ_bitCount_33 rfl hl (by decide) rfl (fun ls hl => ?_)
  refine lv_iload_n hx hb dJ_bitCount_34 rfl (lv_at hl 0 rfl) ?_
  refine lv_iload_n hx hb dJ_bitCount_35 rfl (lv_at hl 0 rfl) ?_
  refine lv_bipush (v := nI 8) hx hb dJ_bitCount_36 (by decide) ?_
  refine lv_iushr hx hb dJ_bitCount_38 rfl ?_
  refine lv_iadd hx hb dJ_bitCount_39 ?_
  refine lv_topi (fun x4 e4 => ?_)
  refine lv_istore_n (lv' := [(0, .int x4)]) hx hb dJ_bitCount_40 rfl hl (by decide) rfl (fun ls hl => ?_)
  refine lv_iload_n hx hb dJ_bitCount_41 rfl (lv_at hl 0 rfl) ?_
  refine lv_iload_n hx hb dJ_bitCount_42 rfl (lv_at hl 0 rfl) ?_
  refine lv_bipush (v := nI 16) hx hb dJ_bitCount_43 (by decide) ?_
  refine lv_iushr hx hb dJ_bitCount_45 rfl ?_
  refine lv_iadd hx hb dJ_bitCount_46 ?_
  refine lv_topi (fun x5 e5 => ?_)
  refine lv_istore_n (lv' := [(0, .int x5)]) hx hb dJ_bitCount_47 rfl hl (by decide) rfl (fun ls hl => ?_)
  refine lv_iload_n hx hb dJ_bitCount_48 rfl (lv_at hl 0 rfl) ?_
  refine lv_bipush (v := nI 63) hx hb dJ_bitCount_49 (by decide) ?_
  refine lv_iand hx hb dJ_bitCount_51 ?_
  exact w_reti C hE (⟨by rw [e5, e4, e3, e2, e1]; rfl, rfl⟩) dJ_bitCount_52
end
section
theorem wS_eq {ω : Wd} {A : Nat → Prop} {H0 : Heap} {σ τ : Mem} {H : Heap} {locs : List Loc} (h : σ = τ) (hE : wS ω A H0 σ H locs) : wS ω A H0 τ H locs := h ▸ hE
theorem mset_mrow {σ : Mem} {q i : Nat} {r : Nat → Int32} {x : Int32} : mset (mrow σ q r) q i x = mrow σ q (upd r i x) := by
  funext j
  unfold mset mrow
  by_cases h : j = q <;> simp [h]
theorem mrow_mrow {σ : Mem} {q : Nat} {r r' : Nat → Int32} : mrow (mrow σ q r) q r' = mrow σ q r' := by
  funext j
  unfold mrow
  by_cases h : j = q <;> simp [h]
theorem mrow_id {σ : Mem} {q : Nat} : mrow σ q (σ q) = σ := by
  funext j
  unfold mrow
  by_cases h : j = q <;> simp [h]
theorem mset_def {σ : Mem} {q i : Nat} {x : Int32} : mset σ q i x = mrow σ q (upd (σ q) i x) := rfl
theorem mrow_lo {σ : Mem} {k q : Nat} {r : Nat → Int32} (h : q < 19) : mrow σ (k + 19) r q = σ q := mrow_n (by omega)
/-! the grammar's numbers, as they stand in the cells -/
def gv (σ : Mem) (p : Nat) : Nat := (σ 6 p).toNatClampNeg
def gf (σ : Mem) (p : Nat) : Nat := (σ 7 p).toNatClampNeg
def gp (σ : Mem) (t : Nat) : Nat := (σ 9 t).toNatClampNeg
def gy (σ : Mem) (t : Nat) : Nat := (σ 8 t).toNatClampNeg
/-- the grammar's cells hold P productions with S slots -/
def gS (σ : Mem) (P S : Nat) : Prop := P ≤ 8 ∧ S ≤ 24 ∧ σ 1 4 = nI P ∧ σ 1 5 = nI S ∧ (∀ p, p < P → σ 6 p = nI (gv σ p) ∧ gv σ p < 6 ∧ σ 7 p = nI (gf σ p) ∧ gf σ p < S) ∧ (∀ t, t < S → σ 9 t = nI (gp σ t) ∧ gp σ t < P ∧ gf σ (gp σ t) ≤ t) ∧ (∀ t, t < S → σ 8 t = -1 ∨ (t + 1 < S ∧ σ 8 t = nI (gy σ t) ∧ gy σ t < 200))
theorem gS_of {σ τ : Mem} {P S : Nat} (h : gS σ P S) (h1 : τ 1 = σ 1) (h6 : τ 6 = σ 6) (h7 : τ 7 = σ 7) (h8 : τ 8 = σ 8) (h9 : τ 9 = σ 9) : gS τ P S := by
  unfold gS gv gf gp gy at *
  rw [h1, h6, h7, h8, h9]
  exact h
theorem gS_mrow {σ : Mem} {P S q : Nat} {r : Nat → Int32} (h : gS σ P S) (hq : 10 ≤ q) : gS (mrow σ q r) P S :=
  gS_of h (mrow_n (by omega)) (mrow_n (by omega)) (mrow_n (by omega)) (mrow_n (by omega)) (mrow_n (by omega))
/-! what the loops compute -/
def fillR (f : Nat → Int32) (v : Int32) (n : Nat) : Nat → Int32 := fun j => if j < n then v else f j
theorem fillR_0 {f : Nat → Int32} {v : Int32} : fillR f v 0 = f := by funext j; simp [fillR]
theorem fillR_s {f : Nat → Int32} {v : Int32} {n : Nat} : upd (fillR f v n) n v = fillR f v (n + 1) := by
  funext j
  unfold upd fillR
  by_cases h : j = n
  · simp [h]
  · by_cases h2 : j < n
    · simp [h, h2, Nat.lt_succ_of_lt h2]
    · simp [h, h2, show ¬ j < n + 1 by omega]
/-- the bit of place k -/
def bitK (k : Nat) : Int32 := nI 1 <<< (nI k &&& 31)
def predR (l6 : Nat → Int32) (f7 : Nat → Nat) (k : Nat) (v : Int32) (r : Nat → Int32) : Nat → Nat → Int32
  | 0 => r
  | p + 1 => if l6 p = v then upd (predR l6 f7 k v r p) (f7 p) (predR l6 f7 k v r p (f7 p) ||| bitK k) else predR l6 f7 k v r p
/-- bit j of a mask -/
def bitJ (x : Int32) (j : Nat) : Int32 := (x >>> (nI j &&& 31)) &&& nI 1
def orgF (σ : Mem) (mask : Int32) (t : Nat) : Nat → Int32
  | 0 => nI 0
  | j + 1 => if bitJ mask j = 0 then orgF σ mask t j else orgF σ mask t j ||| σ (j + 19) t
def sizF (r : Nat → Int32) : Nat → Int32
  | 0 => nI 0
  | i + 1 => sizF r i + popc (r i)
def gathR (σ : Mem) (r : Nat → Int32) : Nat → Nat → Int32
  | 0 => fillR (σ 12) (nI 0) 6
  | t + 1 => if σ 8 t = -1 then upd (gathR σ r t) (gv σ (gp σ t)) (gathR σ r t (gv σ (gp σ t)) ||| r t) else gathR σ r t
end
section
set_option maxHeartbeats 4000000 in
set_option maxRecDepth 100000 in
theorem c_G_openSlot (l : Launch) (D : va_G) (cs : Nat → ClassId) (ad : Nat → Nat) (σ : Mem) (P S : Nat) (h14 : σ 1 4 = nI P) (h15 : σ 1 5 = nI S) (hP : 1 ≤ P ∧ P ≤ 8) (hS : S < 24) : MetV l (wE D cs ad) cs yG_openSlot bG_openSlot 1 0 0 [.ref (ad 1)] σ (fun τ => τ = mset (mset (mset σ 8 S (-1)) 9 S (nI (P - 1))) 1 5 (nI (S + 1))) := by
  refine MetV.start (by decide) (Nat.le_of_ble_eq_true rfl) ?_
  intro p e s m below meth c A ls C hk hA hE hl
  obtain ⟨hx, hb, hml, hown, hts, hr, hlocks⟩ := id C
  have hl : lv_has ls 1 [(0, .ref (ad 1))] := hl
  refine lv_aload_n hx hb dG_openSlot_0 rfl (lv_at hl 0 rfl) ?_
  refine w_get C hk hE (K := R_G) (T := F_G) (N := 6) (ci := 0) in_G 1 (Nat.le_of_ble_eq_true rfl) rfl rfl 5 (by decide) tw_47 rfl rfl dG_openSlot_1 ?_
  refine w_top (y := nI S) (h15) ?_
  refine lv_bipush (v := nI 24) hx hb dG_openSlot_4 (by decide) ?_
  refine lv_icmp_ge (tgt := 44) hx hb dG_openSlot_6 (by decide) (fun c1 => ?_) (fun c1 => ?_)
  · have c1 : 24 ≤ S := (nI_leI (by omega) (by omega)).mp c1
    exact absurd c1 (by omega)
  · have c1 : ¬ (24 ≤ S) := fun h => c1 ((nI_leI (by omega) (by omega)).mpr h)
    refine lv_aload_n hx hb dG_openSlot_9 rfl (lv_at hl 0 rfl) ?_
    refine w_get C hk hE (K := R_G) (T := F_G) (N := 6) (ci := 0) in_G 1 (Nat.le_of_ble_eq_true rfl) rfl rfl 2 (by decide) tw_37 rfl rfl dG_openSlot_10 ?_
    refine lv_aload_n hx hb dG_openSlot_13 rfl (lv_at hl 0 rfl) ?_
    refine w_get C hk hE (K := R_G) (T := F_G) (N := 6) (ci := 0) in_G 1 (Nat.le_of_ble_eq_true rfl) rfl rfl 5 (by decide) tw_47 rfl rfl dG_openSlot_14 ?_
    refine w_top (y := nI S) (h15) ?_
    refine lv_iconst (v := (-1)) hx hb dG_openSlot_17 (by decide) ?_
    refine w_iast C hk hE 8 (by exact Nat.le_of_ble_eq_true rfl) (n := 24) (fun _ => rfl) (by omega) (by first | decide | omega) dG_openSlot_18 (fun H locs hE => ?_)
    refine lv_aload_n hx hb dG_openSlot_19 rfl (lv_at hl 0 rfl) ?_
    refine w_get C hk hE (K := R_G) (T := F_G) (N := 6) (ci := 0) in_G 1 (Nat.le_of_ble_eq_true rfl) rfl rfl 3 (by decide) tw_41 rfl rfl dG_openSlot_20 ?_
    refine lv_aload_n hx hb dG_openSlot_23 rfl (lv_at hl 0 rfl) ?_
    refine w_get C hk hE (K := R_G) (T := F_G) (N := 6) (ci := 0) in_G 1 (Nat.le_of_ble_eq_true rfl) rfl rfl 5 (by decide) tw_47 rfl rfl dG_openSlot_24 ?_
    refine w_top (y := σ 1 5) (by simp [mset, mrow, upd]) ?_
    refine w_top (y := nI S) (h15) ?_
    refine lv_aload_n hx hb dG_openSlot_27 rfl (lv_at hl 0 rfl) ?_
    refine w_get C hk hE (K := R_G) (T := F_G) (N := 6) (ci := 0) in_G 1 (Nat.le_of_ble_eq_true rfl) rfl rfl 4 (by decide) tw_43 rfl rfl dG_openSlot_28 ?_
    refine w_top (y := σ 1 4) (by simp [mset, mrow, upd]) ?_
    refine w_top (y := nI P) (h14) ?_
    refine lv_iconst (v := nI 1) hx hb dG_openSlot_31 (by decide) ?_
    refine lv_isub hx hb dG_openSlot_32 ?_
    refine w_top (y := nI (P - 1)) (w_sub (by omega) (by omega)) ?_
    refine w_iast C hk hE 9 (by exact Nat.le_of_ble_eq_true rfl) (n := 24) (fun _ => rfl) (by omega) (by first | decide | omega) dG_openSlot_33 (fun H locs hE => ?_)
    refine lv_aload_n hx hb dG_openSlot_34 rfl (lv_at hl 0 rfl) ?_
    refine lv_dup hx hb dG_openSlot_35 rfl ?_
    refine w_get C hk hE (K := R_G) (T := F_G) (N := 6) (ci := 0) in_G 1 (Nat.le_of_ble_eq_true rfl) rfl rfl 5 (by decide) tw_47 rfl rfl dG_openSlot_36 ?_
    refine w_top (y := σ 1 5) (by simp [mset, mrow, upd]) ?_
    refine w_top (y := nI S) (h15) ?_
    refine lv_iconst (v := nI 1) hx hb dG_openSlot_39 (by decide) ?_
    refine lv_iadd hx hb dG_openSlot_40 ?_
    refine w_top (y := nI (S + 1)) (by first | exact nI_add _ _ | simp only [nI_add, Nat.add_assoc, Nat.add_zero, Nat.zero_add]) ?_
    refine w_put C hk hE (K := R_G) (T := F_G) (N := 6) (ci := 0) in_G ft_G_ok fn_G 1 (Nat.le_of_ble_eq_true rfl) rfl rfl 5 (by decide) tw_47 rfl rfl (rfl) (rfl) (Nat.le_of_ble_eq_true rfl) rfl dG_openSlot_41 (fun H locs hE => ?_)
    exact w_retv C hE (rfl) dG_openSlot_44
set_option maxHeartbeats 4000000 in
set_option maxRecDepth 100000 in
theorem c_G_openProduction (l : Launch) (D : va_G) (cs : Nat → ClassId) (ad : Nat → Nat) (σ : Mem) (P S : Nat) (v : Int32) (h14 : σ 1 4 = nI P) (h15 : σ 1 5 = nI S) (hP : P < 8) (hS : S < 24) : MetV l (wE D cs ad) cs yG_openProduction bG_openProduction 2 1 20 [.ref (ad 1), .int v] σ (fun τ => τ = mset (mset (mset (mset (mset (mset σ 6 P v) 7 P (nI S)) 1 4 (nI (P + 1))) 8 S (-1)) 9 S (nI P)) 1 5 (nI (S + 1))) := by
  refine MetV.start (by decide) (Nat.le_of_ble_eq_true rfl) ?_
  intro p e s m below meth c A ls C hk hA hE hl
  obtain ⟨hx, hb, hml, hown, hts, hr, hlocks⟩ := id C
  have hl : lv_has ls 2 [(0, .ref (ad 1)), (1, .int v)] := hl
  refine lv_aload_n hx hb dG_openProduction_0 rfl (lv_at hl 0 rfl) ?_
  refine w_get C hk hE (K := R_G) (T := F_G) (N := 6) (ci := 0) in_G 1 (Nat.le_of_ble_eq_true rfl) rfl rfl 4 (by decide) tw_43 rfl rfl dG_openProduction_1 ?_
  refine w_top (y := nI P) (h14) ?_
  refine lv_bipush (v := nI 8) hx hb dG_openProduction_4 (by decide) ?_
  refine lv_icmp_ge (tgt := 46) hx hb dG_openProduction_6 (by decide) (fun c1 => ?_) (fun c1 => ?_)
  · have c1 : 8 ≤ P := (nI_leI (by omega) (by omega)).mp c1
    exact absurd c1 (by omega)
  · have c1 : ¬ (8 ≤ P) := fun h => c1 ((nI_leI (by omega) (by omega)).mpr h)
    refine lv_aload_n hx hb dG_openProduction_9 rfl (lv_at hl 0 rfl) ?_
    refine w_get C hk hE (K := R_G) (T := F_G) (N := 6) (ci := 0) in_G 1 (Nat.le_of_ble_eq_true rfl) rfl rfl 0 (by decide) tw_31 rfl rfl dG_openProduction_10 ?_
    refine lv_aload_n hx hb dG_openProduction_13 rfl (lv_at hl 0 rfl) ?_
    refine w_get C hk hE (K := R_G) (T := F_G) (N := 6) (ci := 0) in_G 1 (Nat.le_of_ble_eq_true rfl) rfl rfl 4 (by decide) tw_43 rfl rfl dG_openProduction_14 ?_
    refine w_top (y := nI P) (h14) ?_
    refine lv_iload_n hx hb dG_openProduction_17 rfl (lv_at hl 1 rfl) ?_
    refine w_iast C hk hE 6 (by exact Nat.le_of_ble_eq_true rfl) (n := 8) (fun _ => rfl) (by omega) (by first | decide | omega) dG_openProduction_18 (fun H locs hE => ?_)
    refine lv_aload_n hx hb dG_openProduction_19 rfl (lv_at hl 0 rfl) ?_
    refine w_get C hk hE (K := R_G) (T := F_G) (N := 6) (ci := 0) in_G 1 (Nat.le_of_ble_eq_true rfl) rfl rfl 1 (by decide) tw_34 rfl rfl dG_openProduction_20 ?_
    refine lv_aload_n hx hb dG_openProduction_23 rfl (lv_at hl 0 rfl) ?_
    refine w_get C hk hE (K := R_G) (T := F_G) (N := 6) (ci := 0) in_G 1 (Nat.le_of_ble_eq_true rfl) rfl rfl 4 (by decide) tw_43 rfl rfl dG_openProduction_24 ?_
    refine w_top (y := σ 1 4) (by simp [mset, mrow, upd]) ?_
    refine w_top (y := nI P) (h14) ?_
    refine lv_aload_n hx hb dG_openProduction_27 rfl (lv_at hl 0 rfl) ?_
    refine w_get C hk hE (K := R_G) (T := F_G) (N := 6) (ci := 0) in_G 1 (Nat.le_of_ble_eq_true rfl) rfl rfl 5 (by decide) tw_47 rfl rfl dG_openProduction_28 ?_
    refine w_top (y := σ 1 5) (by simp [mset, mrow, upd]) ?_
    refine w_top (y := nI S) (h15) ?_
    refine w_iast C hk hE 7 (by exact Nat.le_of_ble_eq_true rfl) (n := 8) (fun _ => rfl) (by omega) (by first | decide | omega) dG_openProduction_31 (fun H locs hE => ?_)
    refine lv_aload_n hx hb dG_openProduction_32 rfl (lv_at hl 0 rfl) ?_
    refine lv_dup hx hb dG_openProduction_33 rfl ?_
    refine w_get C hk hE (K := R_G) (T := F_G) (N := 6) (ci := 0) in_G 1 (Nat.le_of_ble_eq_true rfl) rfl rfl 4 (by decide) tw_43 rfl rfl dG_openProduction_34 ?_
    refine w_top (y := σ 1 4) (by simp [mset, mrow, upd]) ?_
    refine w_top (y := nI P) (h14) ?_
    refine lv_iconst (v := nI 1) hx hb dG_openProduction_37 (by decide) ?_
    refine lv_iadd hx hb dG_openProduction_38 ?_
    refine w_top (y := nI (P + 1)) (by first | exact nI_add _ _ | simp only [nI_add, Nat.add_assoc, Nat.add_zero, Nat.zero_add]) ?_
    refine w_put C hk hE (K := R_G) (T := F_G) (N := 6) (ci := 0) in_G ft_G_ok fn_G 1 (Nat.le_of_ble_eq_true rfl) rfl rfl 4 (by decide) tw_43 rfl rfl (rfl) (rfl) (Nat.le_of_ble_eq_true rfl) rfl dG_openProduction_39 (fun H locs hE => ?_)
    refine lv_aload_n hx hb dG_openProduction_42 rfl (lv_at hl 0 rfl) ?_
    refine w_cv hE hA (w_runV C hk hE hl.1 (As := []) (rest := []) (q := 1) (c_G_openSlot l D cs ad (mset (mset (mset σ 6 P v) 7 P (nI S)) 1 4 (nI (P + 1))) (P + 1) S (by simp [mset, mrow, upd]) (by simp [mset, mrow, upd, h15]) (by omega) hS _) (Nat.le_of_ble_eq_true rfl) (ci := 0) (N := 6) (T := F_G) rfl rfl tw_409 tw_411 ts_11 tw_2 tw_412 (n := 0) (by decide +kernel) rfl rfl (Nat.le_of_ble_eq_true rfl) dG_openProduction_43 ⟨Nat.le_of_ble_eq_true rfl, Nat.le_of_ble_eq_true rfl⟩ ⟨Nat.zero_le _, Nat.zero_le _⟩) (fun τ3 H locs hp hE _ _ => ?_)
    have hE := wS_eq hp hE
    exact w_retv C hE (rfl) dG_openProduction_46
set_option maxHeartbeats 4000000 in
set_option maxRecDepth 100000 in
theorem c_G_lastLength (l : Launch) (D : va_G) (cs : Nat → ClassId) (ad : Nat → Nat) (σ : Mem) (P S f9 : Nat) (h14 : σ 1 4 = nI P) (h15 : σ 1 5 = nI S) (hP : P ≤ 8) (hS : S ≤ 24) (hf : 0 < P → σ 7 (P - 1) = nI f9 ∧ f9 + 1 ≤ S) : MetI l (wE D cs ad) cs yG_lastLength bG_lastLength 1 (some .int) 0 0 [.ref (ad 1)] σ (fun r τ => r = nI (if P = 0 then 0 else S - 1 - f9) ∧ τ = σ) := by
  refine MetI.start (by decide) (Nat.le_of_ble_eq_true rfl) ?_
  intro p e s m below meth c A ls C hk hA hE hl
  obtain ⟨hx, hb, hml, hown, hts, hr, hlocks⟩ := id C
  have hl : lv_has ls 1 [(0, .ref (ad 1))] := hl
  refine lv_aload_n hx hb dG_lastLength_0 rfl (lv_at hl 0 rfl) ?_
  refine w_get C hk hE (K := R_G) (T := F_G) (N := 6) (ci := 0) in_G 1 (Nat.le_of_ble_eq_true rfl) rfl rfl 4 (by decide) tw_43 rfl rfl dG_lastLength_1 ?_
  refine w_top (y := nI P) (h14) ?_
  refine lv_if_ne (tgt := 11) hx hb dG_lastLength_4 (by decide) (fun c1 => ?_) (fun c1 => ?_)
  · have c1 := w_n0 (by omega) c1
    have hf9 := (hf (by omega)).2
    refine lv_aload_n hx hb dG_lastLength_11 rfl (lv_at hl 0 rfl) ?_
    refine w_get C hk hE (K := R_G) (T := F_G) (N := 6) (ci := 0) in_G 1 (Nat.le_of_ble_eq_true rfl) rfl rfl 5 (by decide) tw_47 rfl rfl dG_lastLength_12 ?_
    refine w_top (y := nI S) (h15) ?_
    refine lv_iconst (v := nI 1) hx hb dG_lastLength_15 (by decide) ?_
    refine lv_isub hx hb dG_lastLength_16 ?_
    refine w_top (y := nI (S - 1)) (w_sub (by omega) (by omega)) ?_
    refine lv_aload_n hx hb dG_lastLength_17 rfl (lv_at hl 0 rfl) ?_
    refine w_get C hk hE (K := R_G) (T := F_G) (N := 6) (ci := 0) in_G 1 (Nat.le_of_ble_eq_true rfl) rfl rfl 1 (by decide) tw_34 rfl rfl dG_lastLength_18 ?_
    refine lv_aload_n hx hb dG_lastLength_21 rfl (lv_at hl 0 rfl) ?_
    refine w_get C hk hE (K := R_G) (T := F_G) (N := 6) (ci := 0) in_G 1 (Nat.le_of_ble_eq_true rfl) rfl rfl 4 (by decide) tw_43 rfl rfl dG_lastLength_22 ?_
    refine w_top (y := nI P) (h14) ?_
    refine lv_iconst (v := nI 1) hx hb dG_lastLength_25 (by decide) ?_
    refine lv_isub hx hb dG_lastLength_26 ?_
    refine w_top (y := nI (P - 1)) (w_sub (by omega) (by omega)) ?_
    refine w_iald C hk hE 7 (by exact Nat.le_of_ble_eq_true rfl) (n := 8) rfl (by omega) (by first | decide | omega) dG_lastLength_27 ?_
    refine w_top (y := nI f9) ((hf (by omega)).1) ?_
    refine lv_isub hx hb dG_lastLength_28 ?_
    refine w_top (y := nI ((S - 1) - f9)) (w_sub (by omega) (by omega)) ?_
    exact w_reti C hE (⟨by simp [*], rfl⟩) dG_lastLength_29
  · have c1 := w_z0 (by omega) c1
    refine lv_iconst (v := nI 0) hx hb dG_lastLength_7 (by decide) ?_
    refine lv_goto (tgt := 29) hx hb dG_lastLength_8 (by decide) ?_
    exact w_reti C hE (⟨by simp [*], rfl⟩) dG_lastLength_29
set_option maxHeartbeats 4000000 in
set_option maxRecDepth 100000 in
theorem c_G_hasRoomForSymbol (l : Launch) (D : va_G) (cs : Nat → ClassId) (ad : Nat → Nat) (σ : Mem) (P S f9 : Nat) (h14 : σ 1 4 = nI P) (h15 : σ 1 5 = nI S) (hP : P ≤ 8 ∧ P ≤ S) (hS : S ≤ 24) (hf : 0 < P → σ 7 (P - 1) = nI f9 ∧ f9 + 1 ≤ S) : MetI l (wE D cs ad) cs yG_hasRoomForSymbol bG_hasRoomForSymbol 1 (some .boolean) 1 20 [.ref (ad 1)] σ (fun r τ => r = zb (decide (0 < P) && (decide (S - 1 - f9 < 4) && decide (S - P < 16))) ∧ τ = σ) := by
  refine MetI.start (by decide) (Nat.le_of_ble_eq_true rfl) ?_
  intro p e s m below meth c A ls C hk hA hE hl
  obtain ⟨hx, hb, hml, hown, hts, hr, hlocks⟩ := id C
  have hl : lv_has ls 1 [(0, .ref (ad 1))] := hl
  refine lv_aload_n hx hb dG_hasRoomForSymbol_0 rfl (lv_at hl 0 rfl) ?_
  refine w_get C hk hE (K := R_G) (T := F_G) (N := 6) (ci := 0) in_G 1 (Nat.le_of_ble_eq_true rfl) rfl rfl 4 (by decide) tw_43 rfl rfl dG_hasRoomForSymbol_1 ?_
  refine w_top (y := nI P) (h14) ?_
  refine lv_if_le (tgt := 33) hx hb dG_hasRoomForSymbol_4 (by decide) (fun c1 => ?_) (fun c1 => ?_)
  · have c1 := w_le0 (by omega) c1
    refine lv_iconst (v := nI 0) hx hb dG_hasRoomForSymbol_33 (by decide) ?_
    exact w_retz C hE (Or.inl rfl) (⟨by first | (simp [zb, *]; done) | (simp [zb] <;> omega), rfl⟩) dG_hasRoomForSymbol_34
  · have c1 := w_nle0 (by omega) c1
    refine lv_aload_n hx hb dG_hasRoomForSymbol_7 rfl (lv_at hl 0 rfl) ?_
    refine w_ci hE hA (w_runV C hk hE hl.1 (As := []) (rest := []) (q := 1) (c_G_lastLength l D cs ad σ P S f9 h14 h15 hP.1 hS hf _) (Nat.le_of_ble_eq_true rfl) (ci := 0) (N := 6) (T := F_G) rfl rfl tw_424 tw_425 tw_426 tw_2 tw_427 (n := 0) (by decide +kernel) rfl rfl (Nat.le_of_ble_eq_true rfl) dG_hasRoomForSymbol_8 ⟨Nat.le_of_ble_eq_true rfl, Nat.le_of_ble_eq_true rfl⟩ ⟨Nat.zero_le _, Nat.zero_le _⟩) (fun r2 τ3 H locs hp hE _ _ => ?_)
    refine w_top (hp.1.trans (by rw [if_neg (by omega)])) ?_
    have hE := wS_eq hp.2 hE
    refine lv_iconst (v := nI 4) hx hb dG_hasRoomForSymbol_11 (by decide) ?_
    refine lv_icmp_ge (tgt := 33) hx hb dG_hasRoomForSymbol_12 (by decide) (fun c4 => ?_) (fun c4 => ?_)
    · have c4 : 4 ≤ (S - 1 - f9) := (nI_leI (by omega) (by omega)).mp c4
      refine lv_iconst (v := nI 0) hx hb dG_hasRoomForSymbol_33 (by decide) ?_
      exact w_retz C hE (Or.inl rfl) (⟨by first | (simp [zb, *]; done) | (simp [zb] <;> omega), rfl⟩) dG_hasRoomForSymbol_34
    · have c4 : ¬ (4 ≤ (S - 1 - f9)) := fun h => c4 ((nI_leI (by omega) (by omega)).mpr h)
      refine lv_aload_n hx hb dG_hasRoomForSymbol_15 rfl (lv_at hl 0 rfl) ?_
      refine w_get C hk hE (K := R_G) (T := F_G) (N := 6) (ci := 0) in_G 1 (Nat.le_of_ble_eq_true rfl) rfl rfl 5 (by decide) tw_47 rfl rfl dG_hasRoomForSymbol_16 ?_
      refine w_top (y := nI S) (h15) ?_
      refine lv_aload_n hx hb dG_hasRoomForSymbol_19 rfl (lv_at hl 0 rfl) ?_
      refine w_get C hk hE (K := R_G) (T := F_G) (N := 6) (ci := 0) in_G 1 (Nat.le_of_ble_eq_true rfl) rfl rfl 4 (by decide) tw_43 rfl rfl dG_hasRoomForSymbol_20 ?_
      refine w_top (y := nI P) (h14) ?_
      refine lv_isub hx hb dG_hasRoomForSymbol_23 ?_
      refine w_top (y := nI (S - P)) (w_sub (by omega) (by omega)) ?_
      refine lv_bipush (v := nI 16) hx hb dG_hasRoomForSymbol_24 (by decide) ?_
      refine lv_icmp_ge (tgt := 33) hx hb dG_hasRoomForSymbol_26 (by decide) (fun c5 => ?_) (fun c5 => ?_)
      · have c5 : 16 ≤ (S - P) := (nI_leI (by omega) (by omega)).mp c5
        refine lv_iconst (v := nI 0) hx hb dG_hasRoomForSymbol_33 (by decide) ?_
        exact w_retz C hE (Or.inl rfl) (⟨by first | (simp [zb, *]; done) | (simp [zb] <;> omega), rfl⟩) dG_hasRoomForSymbol_34
      · have c5 : ¬ (16 ≤ (S - P)) := fun h => c5 ((nI_leI (by omega) (by omega)).mpr h)
        refine lv_iconst (v := nI 1) hx hb dG_hasRoomForSymbol_29 (by decide) ?_
        refine lv_goto (tgt := 34) hx hb dG_hasRoomForSymbol_30 (by decide) ?_
        exact w_retz C hE (Or.inr rfl) (⟨by first | (simp [zb, *]; done) | (simp [zb] <;> omega), rfl⟩) dG_hasRoomForSymbol_34
set_option maxHeartbeats 4000000 in
set_option maxRecDepth 100000 in
theorem c_G_appendSymbol (l : Launch) (D : va_G) (cs : Nat → ClassId) (ad : Nat → Nat) (σ : Mem) (P S f9 : Nat) (v : Int32) (h14 : σ 1 4 = nI P) (h15 : σ 1 5 = nI S) (hP : P ≤ 8 ∧ P ≤ S ∧ 0 < P) (hS : S < 24) (hf : 0 < P → σ 7 (P - 1) = nI f9 ∧ f9 + 1 ≤ S) (hroom : S - 1 - f9 < 4 ∧ S - P < 16) : MetV l (wE D cs ad) cs yG_appendSymbol bG_appendSymbol 2 2 40 [.ref (ad 1), .int v] σ (fun τ => τ = mset (mset (mset (mset σ 8 (S - 1) v) 8 S (-1)) 9 S (nI (P - 1))) 1 5 (nI (S + 1))) := by
  refine MetV.start (by decide) (Nat.le_of_ble_eq_true rfl) ?_
  intro p e s m below meth c A ls C hk hA hE hl
  obtain ⟨hx, hb, hml, hown, hts, hr, hlocks⟩ := id C
  have hl : lv_has ls 2 [(0, .ref (ad 1)), (1, .int v)] := hl
  refine lv_aload_n hx hb dG_appendSymbol_0 rfl (lv_at hl 0 rfl) ?_
  refine w_ci hE hA (w_runV C hk hE hl.1 (As := []) (rest := []) (q := 1) (c_G_hasRoomForSymbol l D cs ad σ P S f9 h14 h15 ⟨hP.1, hP.2.1⟩ (by omega) hf _) (Nat.le_of_ble_eq_true rfl) (ci := 0) (N := 6) (T := F_G) rfl rfl tw_438 tw_421 tw_422 tw_2 tw_423 (n := 0) (by decide +kernel) rfl rfl (Nat.le_of_ble_eq_true rfl) dG_appendSymbol_1 ⟨Nat.le_of_ble_eq_true rfl, Nat.le_of_ble_eq_true rfl⟩ ⟨Nat.zero_le _, Nat.zero_le _⟩) (fun r1 τ2 H locs hp hE _ _ => ?_)
  refine w_top (hp.1.trans (by rw [show (decide (0 < P) && (decide (S - 1 - f9 < 4) && decide (S - P < 16))) = true by simp [hP.2.2, hroom.1, hroom.2], zb_t])) ?_
  have hE := wS_eq hp.2 hE
  refine lv_if_eq (tgt := 23) hx hb dG_appendSymbol_4 (by decide) (fun c3 => ?_) (fun c3 => ?_)
  · have c3 := w_z0 (by omega) c3
    exact absurd c3 (by decide)
  · have c3 := w_n0 (by omega) c3
    refine lv_aload_n hx hb dG_appendSymbol_7 rfl (lv_at hl 0 rfl) ?_
    refine w_get C hk hE (K := R_G) (T := F_G) (N := 6) (ci := 0) in_G 1 (Nat.le_of_ble_eq_true rfl) rfl rfl 2 (by decide) tw_37 rfl rfl dG_appendSymbol_8 ?_
    refine lv_aload_n hx hb dG_appendSymbol_11 rfl (lv_at hl 0 rfl) ?_
    refine w_get C hk hE (K := R_G) (T := F_G) (N := 6) (ci := 0) in_G 1 (Nat.le_of_ble_eq_true rfl) rfl rfl 5 (by decide) tw_47 rfl rfl dG_appendSymbol_12 ?_
    refine w_top (y := nI S) (h15) ?_
    refine lv_iconst (v := nI 1) hx hb dG_appendSymbol_15 (by decide) ?_
    refine lv_isub hx hb dG_appendSymbol_16 ?_
    refine w_top (y := nI (S - 1)) (w_sub (by omega) (by omega)) ?_
    refine lv_iload_n hx hb dG_appendSymbol_17 rfl (lv_at hl 1 rfl) ?_
    refine w_iast C hk hE 8 (by exact Nat.le_of_ble_eq_true rfl) (n := 24) (fun _ => rfl) (by omega) (by first | decide | omega) dG_appendSymbol_18 (fun H locs hE => ?_)
    refine lv_aload_n hx hb dG_appendSymbol_19 rfl (lv_at hl 0 rfl) ?_
    refine w_cv hE hA (w_runV C hk hE hl.1 (As := []) (rest := []) (q := 1) (c_G_openSlot l D cs ad (mset σ 8 (S - 1) v) P S (by simp [mset, mrow, upd, h14]) (by simp [mset, mrow, upd, h15]) (by omega) hS _) (Nat.le_of_ble_eq_true rfl) (ci := 0) (N := 6) (T := F_G) rfl rfl tw_409 tw_411 ts_11 tw_2 tw_412 (n := 0) (by decide +kernel) rfl rfl (Nat.le_of_ble_eq_true rfl) dG_appendSymbol_20 ⟨Nat.le_of_ble_eq_true rfl, Nat.le_of_ble_eq_true rfl⟩ ⟨Nat.zero_le _, Nat.zero_le _⟩) (fun τ5 H locs hp hE _ _ => ?_)
    have hE := wS_eq hp hE
    exact w_retv C hE (rfl) dG_appendSymbol_23
set_option maxHeartbeats 4000000 in
set_option maxRecDepth 100000 in
theorem c_G_forget (l : Launch) (D : va_G) (cs : Nat → ClassId) (ad : Nat → Nat) (σ : Mem)  : MetV l (wE D cs ad) cs yG_forget bG_forget 1 0 0 [.ref (ad 1)] σ (fun τ => τ = mset (mset σ 1 4 (nI 0)) 1 5 (nI 0)) := by
  refine MetV.start (by decide) (Nat.le_of_ble_eq_true rfl) ?_
  intro p e s m below meth c A ls C hk hA hE hl
  obtain ⟨hx, hb, hml, hown, hts, hr, hlocks⟩ := id C
  have hl : lv_has ls 1 [(0, .ref (ad 1))] := hl
  refine lv_aload_n hx hb dG_forget_0 rfl (lv_at hl 0 rfl) ?_
  refine lv_iconst (v := nI 0) hx hb dG_forget_1 (by decide) ?_
  refine w_put C hk hE (K := R_G) (T := F_G) (N := 6) (ci := 0) in_G ft_G_ok fn_G 1 (Nat.le_of_ble_eq_true rfl) rfl rfl 4 (by decide) tw_43 rfl rfl (rfl) (rfl) (Nat.le_of_ble_eq_true rfl) rfl dG_forget_2 (fun H locs hE => ?_)
  refine lv_aload_n hx hb dG_forget_5 rfl (lv_at hl 0 rfl) ?_
  refine lv_iconst (v := nI 0) hx hb dG_forget_6 (by decide) ?_
  refine w_put C hk hE (K := R_G) (T := F_G) (N := 6) (ci := 0) in_G ft_G_ok fn_G 1 (Nat.le_of_ble_eq_true rfl) rfl rfl 5 (by decide) tw_47 rfl rfl (rfl) (rfl) (Nat.le_of_ble_eq_true rfl) rfl dG_forget_7 (fun H locs hE => ?_)
  exact w_retv C hE (rfl) dG_forget_10
set_option maxHeartbeats 4000000 in
set_option maxRecDepth 100000 in
theorem c_I_append (l : Launch) (D : va_G) (cs : Nat → ClassId) (ad : Nat → Nat) (σ : Mem) (n9 : Nat) (v : Int32) (hn : σ 2 1 = nI n9) (hn8 : n9 < 8) : MetV l (wE D cs ad) cs yI_append bI_append 2 0 0 [.ref (ad 2), .int v] σ (fun τ => τ = mset (mset σ 10 n9 v) 2 1 (nI (n9 + 1))) := by
  refine MetV.start (by decide) (Nat.le_of_ble_eq_true rfl) ?_
  intro p e s m below meth c A ls C hk hA hE hl
  obtain ⟨hx, hb, hml, hown, hts, hr, hlocks⟩ := id C
  have hl : lv_has ls 2 [(0, .ref (ad 2)), (1, .int v)] := hl
  refine lv_aload_n hx hb dI_append_0 rfl (lv_at hl 0 rfl) ?_
  refine w_get C hk hE (K := R_I) (T := F_I) (N := 2) (ci := 1) in_I 2 (Nat.le_of_ble_eq_true rfl) rfl rfl 1 (by decide) tw_71 rfl rfl dI_append_1 ?_
  refine w_top (y := nI n9) (hn) ?_
  refine lv_bipush (v := nI 8) hx hb dI_append_4 (by decide) ?_
  refine lv_icmp_ge (tgt := 29) hx hb dI_append_6 (by decide) (fun c1 => ?_) (fun c1 => ?_)
  · have c1 : 8 ≤ n9 := (nI_leI (by omega) (by omega)).mp c1
    exact absurd c1 (by omega)
  · have c1 : ¬ (8 ≤ n9) := fun h => c1 ((nI_leI (by omega) (by omega)).mpr h)
    refine lv_aload_n hx hb dI_append_9 rfl (lv_at hl 0 rfl) ?_
    refine w_get C hk hE (K := R_I) (T := F_I) (N := 2) (ci := 1) in_I 2 (Nat.le_of_ble_eq_true rfl) rfl rfl 0 (by decide) tw_70 rfl rfl dI_append_10 ?_
    refine lv_aload_n hx hb dI_append_13 rfl (lv_at hl 0 rfl) ?_
    refine w_get C hk hE (K := R_I) (T := F_I) (N := 2) (ci := 1) in_I 2 (Nat.le_of_ble_eq_true rfl) rfl rfl 1 (by decide) tw_71 rfl rfl dI_append_14 ?_
    refine w_top (y := nI n9) (hn) ?_
    refine lv_iload_n hx hb dI_append_17 rfl (lv_at hl 1 rfl) ?_
    refine w_iast C hk hE 10 (by exact Nat.le_of_ble_eq_true rfl) (n := 8) (fun _ => rfl) (by omega) (by first | decide | omega) dI_append_18 (fun H locs hE => ?_)
    refine lv_aload_n hx hb dI_append_19 rfl (lv_at hl 0 rfl) ?_
    refine lv_dup hx hb dI_append_20 rfl ?_
    refine w_get C hk hE (K := R_I) (T := F_I) (N := 2) (ci := 1) in_I 2 (Nat.le_of_ble_eq_true rfl) rfl rfl 1 (by decide) tw_71 rfl rfl dI_append_21 ?_
    refine w_top (y := σ 2 1) (by simp [mset, mrow, upd]) ?_
    refine w_top (y := nI n9) (hn) ?_
    refine lv_iconst (v := nI 1) hx hb dI_append_24 (by decide) ?_
    refine lv_iadd hx hb dI_append_25 ?_
    refine w_top (y := nI (n9 + 1)) (by first | exact nI_add _ _ | simp only [nI_add, Nat.add_assoc, Nat.add_zero, Nat.zero_add]) ?_
    refine w_put C hk hE (K := R_I) (T := F_I) (N := 2) (ci := 1) in_I ft_I_ok fn_I 2 (Nat.le_of_ble_eq_true rfl) rfl rfl 1 (by decide) tw_71 rfl rfl (rfl) (rfl) (Nat.le_of_ble_eq_true rfl) rfl dI_append_26 (fun H locs hE => ?_)
    exact w_retv C hE (rfl) dI_append_29
set_option maxHeartbeats 4000000 in
set_option maxRecDepth 100000 in
theorem c_W_forget (l : Launch) (D : va_G) (cs : Nat → ClassId) (ad : Nat → Nat) (σ : Mem)  : MetV l (wE D cs ad) cs yW_forget bW_forget 1 0 0 [.ref (ad 5)] σ (fun τ => τ = mset σ 5 3 (nI 0)) := by
  refine MetV.start (by decide) (Nat.le_of_ble_eq_true rfl) ?_
  intro p e s m below meth c A ls C hk hA hE hl
  obtain ⟨hx, hb, hml, hown, hts, hr, hlocks⟩ := id C
  have hl : lv_has ls 1 [(0, .ref (ad 5))] := hl
  refine lv_aload_n hx hb dW_forget_0 rfl (lv_at hl 0 rfl) ?_
  refine lv_iconst (v := nI 0) hx hb dW_forget_1 (by decide) ?_
  refine w_put C hk hE (K := R_W) (T := F_W) (N := 8) (ci := 4) in_W ft_W_ok fn_W 5 (Nat.le_of_ble_eq_true rfl) rfl rfl 3 (by decide) tw_126 rfl rfl (rfl) (rfl) (Nat.le_of_ble_eq_true rfl) rfl dW_forget_2 (fun H locs hE => ?_)
  exact w_retv C hE (rfl) dW_forget_5
set_option maxHeartbeats 4000000 in
set_option maxRecDepth 100000 in
theorem lp_J_fill {p : Program} {l : Launch} {e : Env} {s : State} {m : MethodId} {below : List Frame} {meth : Method} {c : Code} {D : va_G} {cs : Nat → ClassId} {ad : Nat → Nat} {A : Nat → Prop} {σ : Mem} {q n9 : Nat} {v : Int32} (C : bC p s m ([.ref (ad q), .int v] : List Value).toArray meth c bJ_fill 4 "java/util/Arrays" none) (hk : wk D cs s) (hA : ∀ q : Nat, s.heap.size ≤ q → A q) (hq : q < 58) (hf : ∀ r : Nat → Int32, cE cs ad q r = .inl (cs 0, n9, .inl r)) (hn9 : n9 < 2 ^ 31)   :
    ∀ (n : Nat) (i : Nat), (n9 - i) < n → (i ≤ n9) → ∀ (H : Heap) (locs : List Loc) (ls : Array Slot), wS (wE D cs ad) A s.heap (mrow σ q (fillR (σ q) v i)) H locs → lv_has ls 4 [(0, .ref (ad q)), (1, .int v), (2, .int (nI i)), (3, .int (nI n9))] → W p l e (rmF 0 0) s m ([.ref (ad q), .int v] : List Value).toArray below meth c H locs 0 0 (wQv (wE D cs ad) A (fun τ => τ = mrow σ q (fillR (σ q) v n9)) s below ([.ref (ad q), .int v] : List Value).toArray) (F0 m 5 ls []) := by
  obtain ⟨hx, hb, hml, hown, hts, hr, hlocks⟩ := id C
  intro n
  induction n with
  | zero => intro i h; exact absurd h (Nat.not_lt_zero _)
  | succ n ih =>
    intro i hn hi H locs ls hE hl
    refine lv_iload_n hx hb dJ_fill_5 rfl (lv_at hl 2 rfl) ?_
    refine lv_iload_n hx hb dJ_fill_6 rfl (lv_at hl 3 rfl) ?_
    refine lv_icmp_ge (tgt := 20) hx hb dJ_fill_7 (by decide) (fun c1 => ?_) (fun c1 => ?_)
    · have c1 : n9 ≤ i := (nI_leI (by omega) (by omega)).mp c1
      exact w_retv C hE (by rw [show n9 = i by omega]) dJ_fill_20
    · have c1 : ¬ (n9 ≤ i) := fun h => c1 ((nI_leI (by omega) (by omega)).mpr h)
      refine lv_aload_n hx hb dJ_fill_10 rfl (lv_at hl 0 rfl) ?_
      refine lv_iload_n hx hb dJ_fill_11 rfl (lv_at hl 2 rfl) ?_
      refine lv_iload_n hx hb dJ_fill_12 rfl (lv_at hl 1 rfl) ?_
      refine w_iast C hk hE q (by assumption) (n := n9) (fun _ => hf _) (by omega) (by first | decide | omega) dJ_fill_13 (fun H locs hE => ?_)
      rw [mset_mrow] at hE
      refine lv_iinc (v := nI (i + 1)) (lv' := [(2, .int (nI (i + 1))), (0, .ref (ad q)), (1, .int v), (3, .int (nI n9))]) hx hb dJ_fill_14 hl (k := 2) rfl (by exact nI_1 _) (by decide) rfl (fun ls hl => ?_)
      refine lv_goto (tgt := 5) hx hb dJ_fill_17 (by decide) ?_
      exact ih (i + 1) (by omega) (by omega) _ _ ls (wS_eq (show mrow σ q (upd (fillR (σ q) v i) i v) = mrow σ q (fillR (σ q) v (i + 1)) by rw [fillR_s]) hE) (lv_sub hl [1, 2, 0, 3] rfl)
set_option maxHeartbeats 4000000 in
set_option maxRecDepth 100000 in
theorem c_J_fill (l : Launch) (D : va_G) (cs : Nat → ClassId) (ad : Nat → Nat) (σ : Mem) (q n9 : Nat) (v : Int32) (hq : q < 58) (hf : ∀ r : Nat → Int32, cE cs ad q r = .inl (cs 0, n9, .inl r)) (hn9 : n9 < 2 ^ 31) : MetV l (wE D cs ad) cs yJ_fill bJ_fill 4 0 0 [.ref (ad q), .int v] σ (fun τ => τ = mrow σ q (fillR (σ q) v n9)) := by
  refine MetV.start (by decide) (Nat.le_of_ble_eq_true rfl) ?_
  intro p e s m below meth c A ls C hk hA hE hl
  obtain ⟨hx, hb, hml, hown, hts, hr, hlocks⟩ := id C
  have hl : lv_has ls 4 [(0, .ref (ad q)), (1, .int v)] := hl
  refine lv_iconst (v := nI 0) hx hb dJ_fill_0 (by decide) ?_
  refine lv_istore_n (lv' := [(2, .int (nI 0)), (0, .ref (ad q)), (1, .int v)]) hx hb dJ_fill_1 rfl hl (by decide) rfl (fun ls hl => ?_)
  refine lv_aload_n hx hb dJ_fill_2 rfl (lv_at hl 1 rfl) ?_
  refine w_alen C hk hE q (by assumption) (n := n9) (hf _) dJ_fill_3 ?_
  refine lv_istore_n (lv' := [(3, .int (nI n9)), (2, .int (nI 0)), (0, .ref (ad q)), (1, .int v)]) hx hb dJ_fill_4 rfl hl (by decide) rfl (fun ls hl => ?_)
  exact lp_J_fill C hk hA hq hf hn9 _ 0 (Nat.lt_succ_self _) (Nat.zero_le _) _ _ ls (wS_eq (show σ = mrow σ q (fillR (σ q) v 0) by rw [fillR_0, mrow_id]) hE) (lv_sub hl [2, 3, 1, 0] rfl)
end
section
theorem isV_nI {y : Nat} (h : y < 2 ^ 31) : isV (nI y) = decide (y < 6) := by
  unfold isV
  rw [show decide (nI y < 0) = false from decide_eq_false (nI_pos h)]
  by_cases h6 : y < 6
  · rw [show decide (nI 6 ≤ nI y) = false from decide_eq_false (fun q => by have := (nI_leI (by decide) h).mp q; omega), decide_eq_true h6]; rfl
  · rw [show decide (nI 6 ≤ nI y) = true from decide_eq_true ((nI_leI (by decide) h).mpr (by omega)), decide_eq_false h6]; rfl
theorem isV_m1 : isV (-1) = false := by decide
theorem gS_var {σ : Mem} {P S t : Nat} (h : gS σ P S) (ht : t < S) (hv : isV (σ 8 t) = true) : t + 1 < S ∧ σ 8 t = nI (gy σ t) ∧ gy σ t < 6 := by
  rcases h.2.2.2.2.2.2 t ht with h1 | ⟨h1, h2, h3⟩
  · rw [h1, isV_m1] at hv; cases hv
  · refine ⟨h1, h2, ?_⟩
    rw [h2, isV_nI (by omega)] at hv
    exact of_decide_eq_true hv
def growS (σ : Mem) (k P : Nat) (r : Nat → Int32) (t : Nat) : Nat → Int32 := if r t = 0 then r else predR (σ 6) (gf σ) k (σ 8 t) r P
def growR (σ : Mem) (k P : Nat) : Nat → Nat → Int32
  | 0 => σ (k + 19)
  | t + 1 => if isV (σ 8 t) = true then upd (growS σ k P (growR σ k P t) t) (t + 1) (growS σ k P (growR σ k P t) t (t + 1) ||| orgF (mrow σ (k + 19) (growS σ k P (growR σ k P t) t)) (σ 12 (gy σ t)) t 9) else growR σ k P t
def closeS (k P S : Nat) (σ : Mem) : Mem := mrow (mrow σ 12 (gathR σ (σ (k + 19)) S)) (k + 19) (growR (mrow σ 12 (gathR σ (σ (k + 19)) S)) k P (S - 1))
def closeM (k P S : Nat) : Nat → Mem → Mem
  | 0, σ => σ
  | n + 1, σ => if sizF (σ (k + 19)) S < sizF (closeS k P S σ (k + 19)) S then closeM k P S n (closeS k P S σ) else closeS k P S σ
theorem closeM_t {k P S i : Nat} {τ : Mem} (hi : i < 1000) (h : sizF (τ (k + 19)) S < sizF (closeS k P S τ (k + 19)) S) : closeM k P S (1000 - i) τ = closeM k P S (1000 - (i + 1)) (closeS k P S τ) := by
  rw [show 1000 - i = (1000 - (i + 1)) + 1 by omega, closeM, if_pos h]
theorem closeM_f {k P S i : Nat} {τ : Mem} (hi : i < 1000) (h : ¬ sizF (τ (k + 19)) S < sizF (closeS k P S τ (k + 19)) S) : closeM k P S (1000 - i) τ = closeS k P S τ := by
  rw [show 1000 - i = (1000 - (i + 1)) + 1 by omega, closeM, if_neg h]
theorem gS_close {k P S : Nat} {σ : Mem} (h : gS σ P S) : gS (closeS k P S σ) P S := gS_mrow (gS_mrow h (by decide)) (by omega)
def nextR (σ : Mem) (k : Nat) (x : Int32) : Nat → Nat → Int32
  | 0 => fillR (σ (k + 19)) (nI 0) 24
  | t + 1 => if σ 8 t = x then upd (nextR σ k x t) (t + 1) (σ ((k - 1) + 19) t) else nextR σ k x t
def holdB (σ : Mem) (r : Nat → Int32) (t : Nat) : Bool := decide (σ 8 t = -1) && (decide (σ 6 (gp σ t) = σ 6 0) && !decide ((r t &&& nI 1) = 0))
def holdF (σ : Mem) (r : Nat → Int32) : Nat → Bool
  | 0 => false
  | t + 1 => holdF σ r t || holdB σ r t
theorem holdF_t {σ : Mem} {r : Nat → Int32} {t : Nat} (h : holdB σ r t = true) : ∀ n, t < n → holdF σ r n = true
  | 0, h0 => absurd h0 (Nat.not_lt_zero _)
  | n + 1, h0 => by
    rw [holdF]
    by_cases e : t = n
    · rw [← e, h, Bool.or_true]
    · rw [holdF_t h n (by omega), Bool.true_or]
def orgAt (mask : Int32) : Nat → Nat → Int32 → Int32
  | 0, _, _ => nI 0
  | n + 1, o, b => if bitJ mask o = 0 then orgAt mask n (o + 1) b else if b = 0 then nI o else orgAt mask n (o + 1) (b + (-1))
def codeF (σ : Mem) (r : Nat → Int32) : Nat → Nat → Int32 → Int32
  | 0, _, _ => nI 0
  | n + 1, t, b => if b < popc (r t) then nI 1000 * σ 9 t + nI 100 * nI (t - gf σ (gp σ t)) + orgAt (r t) 9 0 b else codeF σ r n (t + 1) (b - popc (r t))
end
section
set_option maxHeartbeats 4000000 in
set_option maxRecDepth 100000 in
theorem lp_S_predict {p : Program} {l : Launch} {e : Env} {s : State} {m : MethodId} {below : List Frame} {meth : Method} {c : Code} {D : va_G} {cs : Nat → ClassId} {ad : Nat → Nat} {A : Nat → Prop} {σ : Mem} {k P S : Nat} {v : Int32} (C : bC p s m ([.ref (ad 3), .int (nI k), .int v] : List Value).toArray meth c bS_predict 4 "EarleyChart$ItemSets" none) (hk : wk D cs s) (hA : ∀ q : Nat, s.heap.size ≤ q → A q) (hk9 : k < 9) (hg : gS σ P S)   :
    ∀ (n : Nat) (i : Nat), (P - i) < n → (i ≤ P) → ∀ (H : Heap) (locs : List Loc) (ls : Array Slot), wS (wE D cs ad) A s.heap (mrow σ (k + 19) (predR (σ 6) (gf σ) k v (σ (k + 19)) i)) H locs → lv_has ls 4 [(0, .ref (ad 3)), (1, .int (nI k)), (2, .int v), (3, .int (nI i))] → W p l e (rmF 0 0) s m ([.ref (ad 3), .int (nI k), .int v] : List Value).toArray below meth c H locs 0 0 (wQv (wE D cs ad) A (fun τ => τ = mrow σ (k + 19) (predR (σ 6) (gf σ) k v (σ (k + 19)) P)) s below ([.ref (ad 3), .int (nI k), .int v] : List Value).toArray) (F0 m 2 ls []) := by
  obtain ⟨hx, hb, hml, hown, hts, hr, hlocks⟩ := id C
  have hP8 := hg.1
  have hS24 := hg.2.1
  intro n
  induction n with
  | zero => intro i h; exact absurd h (Nat.not_lt_zero _)
  | succ n ih =>
    intro i hn hi H locs ls hE hl
    refine lv_iload_n hx hb dS_predict_2 rfl (lv_at hl 3 rfl) ?_
    refine lv_aload_n hx hb dS_predict_3 rfl (lv_at hl 0 rfl) ?_
    refine w_get C hk hE (K := R_S) (T := F_S) (N := 3) (ci := 2) in_S 3 (Nat.le_of_ble_eq_true rfl) rfl rfl 0 (by decide) tw_106 rfl rfl dS_predict_4 ?_
    refine w_get C hk hE (K := R_G) (T := F_G) (N := 6) (ci := 0) in_G 1 (Nat.le_of_ble_eq_true rfl) rfl rfl 4 (by decide) tw_44 rfl rfl dS_predict_7 ?_
    refine w_top (y := σ 1 4) (by simp [mset, mrow, upd]) ?_
    refine w_top (y := nI P) (hg.2.2.1) ?_
    refine lv_icmp_ge (tgt := 54) hx hb dS_predict_10 (by decide) (fun c1 => ?_) (fun c1 => ?_)
    · have c1 : P ≤ i := (nI_leI (by omega) (by omega)).mp c1
      exact w_retv C hE (by rw [show P = i by omega]) dS_predict_54
    · have c1 : ¬ (P ≤ i) := fun h => c1 ((nI_leI (by omega) (by omega)).mpr h)
      obtain ⟨h6, h6b, h7, h7b⟩ := hg.2.2.2.2.1 i (by omega)
      refine lv_aload_n hx hb dS_predict_13 rfl (lv_at hl 0 rfl) ?_
      refine w_get C hk hE (K := R_S) (T := F_S) (N := 3) (ci := 2) in_S 3 (Nat.le_of_ble_eq_true rfl) rfl rfl 0 (by decide) tw_106 rfl rfl dS_predict_14 ?_
      refine w_get C hk hE (K := R_G) (T := F_G) (N := 6) (ci := 0) in_G 1 (Nat.le_of_ble_eq_true rfl) rfl rfl 0 (by decide) tw_33 rfl rfl dS_predict_17 ?_
      refine lv_iload_n hx hb dS_predict_20 rfl (lv_at hl 3 rfl) ?_
      refine w_iald C hk hE 6 (by exact Nat.le_of_ble_eq_true rfl) (n := 8) rfl (by omega) (by first | decide | omega) dS_predict_21 ?_
      refine w_top (y := σ 6 i) (by simp [mset, mrow, upd]) ?_
      refine lv_iload_n hx hb dS_predict_22 rfl (lv_at hl 2 rfl) ?_
      refine lv_icmp_ne (tgt := 48) hx hb dS_predict_23 (by decide) (fun c2 => ?_) (fun c2 => ?_)
      · refine lv_iinc (v := nI (i + 1)) (lv' := [(3, .int (nI (i + 1))), (0, .ref (ad 3)), (1, .int (nI k)), (2, .int v)]) hx hb dS_predict_48 hl (k := 3) rfl (by exact nI_1 _) (by decide) rfl (fun ls hl => ?_)
        refine lv_goto (tgt := 2) hx hb dS_predict_51 (by decide) ?_
        exact ih (i + 1) (by omega) (by omega) _ _ ls (wS_eq (show mrow σ (k + 19) (predR (σ 6) (gf σ) k v (σ (k + 19)) i) = mrow σ (k + 19) (predR (σ 6) (gf σ) k v (σ (k + 19)) (i + 1)) by simp only [predR, bitK, c2, if_true, if_false]) hE) (lv_sub hl [1, 2, 3, 0] rfl)
      · refine lv_aload_n hx hb dS_predict_26 rfl (lv_at hl 0 rfl) ?_
        refine w_get C hk hE (K := R_S) (T := F_S) (N := 3) (ci := 2) in_S 3 (Nat.le_of_ble_eq_true rfl) rfl rfl 1 (by decide) tw_107 rfl rfl dS_predict_27 ?_
        refine lv_iload_n hx hb dS_predict_30 rfl (lv_at hl 1 rfl) ?_
        refine w_aald C hk hE 11 (Nat.le_of_ble_eq_true rfl) (n := 9) (b := ad (k + 19)) rfl (by omega) (by decide) rfl dS_predict_31 ?_
        refine lv_aload_n hx hb dS_predict_32 rfl (lv_at hl 0 rfl) ?_
        refine w_get C hk hE (K := R_S) (T := F_S) (N := 3) (ci := 2) in_S 3 (Nat.le_of_ble_eq_true rfl) rfl rfl 0 (by decide) tw_106 rfl rfl dS_predict_33 ?_
        refine w_get C hk hE (K := R_G) (T := F_G) (N := 6) (ci := 0) in_G 1 (Nat.le_of_ble_eq_true rfl) rfl rfl 1 (by decide) tw_36 rfl rfl dS_predict_36 ?_
        refine lv_iload_n hx hb dS_predict_39 rfl (lv_at hl 3 rfl) ?_
        refine w_iald C hk hE 7 (by exact Nat.le_of_ble_eq_true rfl) (n := 8) rfl (by omega) (by first | decide | omega) dS_predict_40 ?_
        refine w_top (y := σ 7 i) (by simp [mset, mrow, upd]) ?_
        refine w_top (y := nI (gf σ i)) (h7) ?_
        refine lv_dup2_11 hx hb dS_predict_41 rfl rfl ?_
        refine w_iald C hk hE (k + 19) (by show _ < 58; omega) (n := 24) (cE_o (ad := ad) (by omega)) (by omega) (by first | decide | omega) dS_predict_42 ?_
        refine w_top (y := (predR (σ 6) (gf σ) k v (σ (k + 19)) i) (gf σ i)) (by simp [mset, mrow, upd]) ?_
        refine lv_iconst (v := nI 1) hx hb dS_predict_43 (by decide) ?_
        refine lv_iload_n hx hb dS_predict_44 rfl (lv_at hl 1 rfl) ?_
        refine lv_ishl hx hb dS_predict_45 ?_
        refine lv_ior hx hb dS_predict_46 ?_
        refine w_iast C hk hE (k + 19) (by show _ < 58; omega) (n := 24) (fun _ => cE_o (ad := ad) (by omega)) (by omega) (by first | decide | omega) dS_predict_47 (fun H locs hE => ?_)
        rw [mset_mrow] at hE
        refine lv_iinc (v := nI (i + 1)) (lv' := [(3, .int (nI (i + 1))), (0, .ref (ad 3)), (1, .int (nI k)), (2, .int v)]) hx hb dS_predict_48 hl (k := 3) rfl (by exact nI_1 _) (by decide) rfl (fun ls hl => ?_)
        refine lv_goto (tgt := 2) hx hb dS_predict_51 (by decide) ?_
        exact ih (i + 1) (by omega) (by omega) _ _ ls (wS_eq (show mrow σ (k + 19) (upd (predR (σ 6) (gf σ) k v (σ (k + 19)) i) (gf σ i) (((predR (σ 6) (gf σ) k v (σ (k + 19)) i) (gf σ i)) ||| ((nI 1) <<< ((nI k) &&& 31)))) = mrow σ (k + 19) (predR (σ 6) (gf σ) k v (σ (k + 19)) (i + 1)) by simp only [predR, bitK, c2, if_true, if_false]) hE) (lv_sub hl [1, 2, 3, 0] rfl)
set_option maxHeartbeats 4000000 in
set_option maxRecDepth 100000 in
theorem c_S_predict (l : Launch) (D : va_G) (cs : Nat → ClassId) (ad : Nat → Nat) (σ : Mem) (k P S : Nat) (v : Int32) (hk9 : k < 9) (hg : gS σ P S) : MetV l (wE D cs ad) cs yS_predict bS_predict 4 0 0 [.ref (ad 3), .int (nI k), .int v] σ (fun τ => τ = mrow σ (k + 19) (predR (σ 6) (gf σ) k v (σ (k + 19)) P)) := by
  refine MetV.start (by decide) (Nat.le_of_ble_eq_true rfl) ?_
  intro p e s m below meth c A ls C hk hA hE hl
  obtain ⟨hx, hb, hml, hown, hts, hr, hlocks⟩ := id C
  have hl : lv_has ls 4 [(0, .ref (ad 3)), (1, .int (nI k)), (2, .int v)] := hl
  have hP8 := hg.1
  have hS24 := hg.2.1
  refine lv_iconst (v := nI 0) hx hb dS_predict_0 (by decide) ?_
  refine lv_istore_n (lv' := [(3, .int (nI 0)), (0, .ref (ad 3)), (1, .int (nI k)), (2, .int v)]) hx hb dS_predict_1 rfl hl (by decide) rfl (fun ls hl => ?_)
  exact lp_S_predict C hk hA hk9 hg _ 0 (Nat.lt_succ_self _) (Nat.zero_le _) _ _ ls (wS_eq (show σ = mrow σ (k + 19) (predR (σ 6) (gf σ) k v (σ (k + 19)) 0) by rw [predR, mrow_id]) hE) (lv_sub hl [1, 2, 3, 0] rfl)
set_option maxHeartbeats 4000000 in
set_option maxRecDepth 100000 in
theorem lp_S_originsIn {p : Program} {l : Launch} {e : Env} {s : State} {m : MethodId} {below : List Frame} {meth : Method} {c : Code} {D : va_G} {cs : Nat → ClassId} {ad : Nat → Nat} {A : Nat → Prop} {σ : Mem} {t : Nat} {x : Int32} (C : bC p s m ([.ref (ad 3), .int x, .int (nI t)] : List Value).toArray meth c bS_originsIn 5 "EarleyChart$ItemSets" (some .int)) (hk : wk D cs s) (hA : ∀ q : Nat, s.heap.size ≤ q → A q) (ht : t < 24)   :
    ∀ (n : Nat) (j : Nat), (9 - j) < n → (j ≤ 9) → ∀ (H : Heap) (locs : List Loc) (ls : Array Slot), wS (wE D cs ad) A s.heap σ H locs → lv_has ls 5 [(0, .ref (ad 3)), (1, .int x), (2, .int (nI t)), (3, .int (orgF σ x t j)), (4, .int (nI j))] → W p l e (rmF 0 0) s m ([.ref (ad 3), .int x, .int (nI t)] : List Value).toArray below meth c H locs 0 0 (wQi (wE D cs ad) A (fun r τ => r = orgF σ x t 9 ∧ τ = σ) s below ([.ref (ad 3), .int x, .int (nI t)] : List Value).toArray) (F0 m 5 ls []) := by
  obtain ⟨hx, hb, hml, hown, hts, hr, hlocks⟩ := id C
  intro n
  induction n with
  | zero => intro j h; exact absurd h (Nat.not_lt_zero _)
  | succ n ih =>
    intro j hn hj H locs ls hE hl
    refine lv_iload hx hb dS_originsIn_5 (lv_at hl 4 rfl) ?_
    refine lv_bipush (v := nI 9) hx hb dS_originsIn_7 (by decide) ?_
    refine lv_icmp_ge (tgt := 39) hx hb dS_originsIn_9 (by decide) (fun c1 => ?_) (fun c1 => ?_)
    · have c1 : 9 ≤ j := (nI_leI (by omega) (by omega)).mp c1
      refine lv_iload_n hx hb dS_originsIn_39 rfl (lv_at hl 3 rfl) ?_
      exact w_reti C hE (⟨by rw [show 9 = j by omega], rfl⟩) dS_originsIn_40
    · have c1 : ¬ (9 ≤ j) := fun h => c1 ((nI_leI (by omega) (by omega)).mpr h)
      refine lv_iload_n hx hb dS_originsIn_12 rfl (lv_at hl 1 rfl) ?_
      refine lv_iload hx hb dS_originsIn_13 (lv_at hl 4 rfl) ?_
      refine lv_ishr hx hb dS_originsIn_15 ?_
      refine lv_iconst (v := nI 1) hx hb dS_originsIn_16 (by decide) ?_
      refine lv_iand hx hb dS_originsIn_17 ?_
      refine lv_if_eq (tgt := 33) hx hb dS_originsIn_18 (by decide) (fun c2 => ?_) (fun c2 => ?_)
      · refine lv_iinc (v := nI (j + 1)) (lv' := [(4, .int (nI (j + 1))), (0, .ref (ad 3)), (1, .int x), (2, .int (nI t)), (3, .int (orgF σ x t j))]) hx hb dS_originsIn_33 hl (k := 4) rfl (by exact nI_1 _) (by decide) rfl (fun ls hl => ?_)
        refine lv_goto (tgt := 5) hx hb dS_originsIn_36 (by decide) ?_
        have ev3 : (orgF σ x t j : Int32) = orgF σ x t (j + 1) := by simp only [orgF, bitJ, c2, if_true, if_false]
        rw [ev3] at hl
        exact ih (j + 1) (by omega) (by omega) _ _ ls hE (lv_sub hl [1, 2, 3, 4, 0] rfl)
      · refine lv_iload_n hx hb dS_originsIn_21 rfl (lv_at hl 3 rfl) ?_
        refine lv_aload_n hx hb dS_originsIn_22 rfl (lv_at hl 0 rfl) ?_
        refine w_get C hk hE (K := R_S) (T := F_S) (N := 3) (ci := 2) in_S 3 (Nat.le_of_ble_eq_true rfl) rfl rfl 1 (by decide) tw_107 rfl rfl dS_originsIn_23 ?_
        refine lv_iload hx hb dS_originsIn_26 (lv_at hl 4 rfl) ?_
        refine w_aald C hk hE 11 (Nat.le_of_ble_eq_true rfl) (n := 9) (b := ad (j + 19)) rfl (by omega) (by decide) rfl dS_originsIn_28 ?_
        refine lv_iload_n hx hb dS_originsIn_29 rfl (lv_at hl 2 rfl) ?_
        refine w_iald C hk hE (j + 19) (by show _ < 58; omega) (n := 24) (cE_o (ad := ad) (by omega)) (by omega) (by first | decide | omega) dS_originsIn_30 ?_
        refine lv_ior hx hb dS_originsIn_31 ?_
        refine lv_istore_n (lv' := [(3, .int ((orgF σ x t j) ||| (σ (j + 19) t))), (0, .ref (ad 3)), (1, .int x), (2, .int (nI t)), (4, .int (nI j))]) hx hb dS_originsIn_32 rfl hl (by decide) rfl (fun ls hl => ?_)
        refine lv_iinc (v := nI (j + 1)) (lv' := [(4, .int (nI (j + 1))), (3, .int ((orgF σ x t j) ||| (σ (j + 19) t))), (0, .ref (ad 3)), (1, .int x), (2, .int (nI t))]) hx hb dS_originsIn_33 hl (k := 4) rfl (by exact nI_1 _) (by decide) rfl (fun ls hl => ?_)
        refine lv_goto (tgt := 5) hx hb dS_originsIn_36 (by decide) ?_
        have ev4 : ((orgF σ x t j) ||| (σ (j + 19) t) : Int32) = orgF σ x t (j + 1) := by simp only [orgF, bitJ, c2, if_true, if_false]
        rw [ev4] at hl
        exact ih (j + 1) (by omega) (by omega) _ _ ls hE (lv_sub hl [2, 3, 4, 1, 0] rfl)
set_option maxHeartbeats 4000000 in
set_option maxRecDepth 100000 in
theorem c_S_originsIn (l : Launch) (D : va_G) (cs : Nat → ClassId) (ad : Nat → Nat) (σ : Mem) (t : Nat) (x : Int32) (ht : t < 24) : MetI l (wE D cs ad) cs yS_originsIn bS_originsIn 5 (some .int) 0 0 [.ref (ad 3), .int x, .int (nI t)] σ (fun r τ => r = orgF σ x t 9 ∧ τ = σ) := by
  refine MetI.start (by decide) (Nat.le_of_ble_eq_true rfl) ?_
  intro p e s m below meth c A ls C hk hA hE hl
  obtain ⟨hx, hb, hml, hown, hts, hr, hlocks⟩ := id C
  have hl : lv_has ls 5 [(0, .ref (ad 3)), (1, .int x), (2, .int (nI t))] := hl
  refine lv_iconst (v := nI 0) hx hb dS_originsIn_0 (by decide) ?_
  refine lv_istore_n (lv' := [(3, .int (nI 0)), (0, .ref (ad 3)), (1, .int x), (2, .int (nI t))]) hx hb dS_originsIn_1 rfl hl (by decide) rfl (fun ls hl => ?_)
  refine lv_iconst (v := nI 0) hx hb dS_originsIn_2 (by decide) ?_
  refine lv_istore (lv' := [(4, .int (nI 0)), (3, .int (nI 0)), (0, .ref (ad 3)), (1, .int x), (2, .int (nI t))]) hx hb dS_originsIn_3 hl (by decide) rfl (fun ls hl => ?_)
  have ev1 : (nI 0 : Int32) = orgF σ x t 0 := by rfl
  rw [ev1] at hl
  exact lp_S_originsIn C hk hA ht _ 0 (Nat.lt_succ_self _) (by decide) _ _ ls hE (lv_sub hl [2, 3, 4, 1, 0] rfl)
set_option maxHeartbeats 4000000 in
set_option maxRecDepth 100000 in
theorem lp_S_size {p : Program} {l : Launch} {e : Env} {s : State} {m : MethodId} {below : List Frame} {meth : Method} {c : Code} {D : va_G} {cs : Nat → ClassId} {ad : Nat → Nat} {A : Nat → Prop} {σ : Mem} {k S : Nat} (C : bC p s m ([.ref (ad 3), .int (nI k)] : List Value).toArray meth c bS_size 4 "EarleyChart$ItemSets" (some .int)) (hk : wk D cs s) (hA : ∀ q : Nat, s.heap.size ≤ q → A q) (hk9 : k < 9) (h15 : σ 1 5 = nI S) (hS24 : S ≤ 24)   :
    ∀ (n : Nat) (i : Nat), (S - i) < n → (i ≤ S) → ∀ (H : Heap) (locs : List Loc) (ls : Array Slot), wS (wE D cs ad) A s.heap σ H locs → lv_has ls 4 [(0, .ref (ad 3)), (1, .int (nI k)), (2, .int (sizF (σ (k + 19)) i)), (3, .int (nI i))] → W p l e (rmF 1 20) s m ([.ref (ad 3), .int (nI k)] : List Value).toArray below meth c H locs 0 0 (wQi (wE D cs ad) A (fun r τ => r = sizF (σ (k + 19)) S ∧ τ = σ) s below ([.ref (ad 3), .int (nI k)] : List Value).toArray) (F0 m 4 ls []) := by
  obtain ⟨hx, hb, hml, hown, hts, hr, hlocks⟩ := id C
  intro n
  induction n with
  | zero => intro i h; exact absurd h (Nat.not_lt_zero _)
  | succ n ih =>
    intro i hn hi H locs ls hE hl
    refine lv_iload_n hx hb dS_size_4 rfl (lv_at hl 3 rfl) ?_
    refine lv_aload_n hx hb dS_size_5 rfl (lv_at hl 0 rfl) ?_
    refine w_get C hk hE (K := R_S) (T := F_S) (N := 3) (ci := 2) in_S 3 (Nat.le_of_ble_eq_true rfl) rfl rfl 0 (by decide) tw_106 rfl rfl dS_size_6 ?_
    refine w_get C hk hE (K := R_G) (T := F_G) (N := 6) (ci := 0) in_G 1 (Nat.le_of_ble_eq_true rfl) rfl rfl 5 (by decide) tw_48 rfl rfl dS_size_9 ?_
    refine w_top (y := nI S) (h15) ?_
    refine lv_icmp_ge (tgt := 35) hx hb dS_size_12 (by decide) (fun c1 => ?_) (fun c1 => ?_)
    · have c1 : S ≤ i := (nI_leI (by omega) (by omega)).mp c1
      refine lv_iload_n hx hb dS_size_35 rfl (lv_at hl 2 rfl) ?_
      exact w_reti C hE (⟨by rw [show S = i by omega], rfl⟩) dS_size_36
    · have c1 : ¬ (S ≤ i) := fun h => c1 ((nI_leI (by omega) (by omega)).mpr h)
      refine lv_iload_n hx hb dS_size_15 rfl (lv_at hl 2 rfl) ?_
      refine lv_aload_n hx hb dS_size_16 rfl (lv_at hl 0 rfl) ?_
      refine w_get C hk hE (K := R_S) (T := F_S) (N := 3) (ci := 2) in_S 3 (Nat.le_of_ble_eq_true rfl) rfl rfl 1 (by decide) tw_107 rfl rfl dS_size_17 ?_
      refine lv_iload_n hx hb dS_size_20 rfl (lv_at hl 1 rfl) ?_
      refine w_aald C hk hE 11 (Nat.le_of_ble_eq_true rfl) (n := 9) (b := ad (k + 19)) rfl (by omega) (by decide) rfl dS_size_21 ?_
      refine lv_iload_n hx hb dS_size_22 rfl (lv_at hl 3 rfl) ?_
      refine w_iald C hk hE (k + 19) (by show _ < 58; omega) (n := 24) (cE_o (ad := ad) (by omega)) (by omega) (by first | decide | omega) dS_size_23 ?_
      refine w_ci hE hA (w_runS C hk hE hl.1 (As := [.int (σ (k + 19) i)]) (rest := [.int (sizF (σ (k + 19)) i)]) (c_J_bitCount l D cs ad σ (σ (k + 19) i) _) tw_180 tw_181 tw_8 tw_182 (n := 1) (by decide +kernel) rfl rfl (Nat.le_of_ble_eq_true rfl) dS_size_24 ⟨Nat.le_of_ble_eq_true rfl, Nat.le_of_ble_eq_true rfl⟩ ⟨Nat.zero_le _, Nat.zero_le _⟩) (fun r2 τ3 H locs hp hE _ _ => ?_)
      refine w_top hp.1 ?_
      have hE := wS_eq hp.2 hE
      refine lv_iadd hx hb dS_size_27 ?_
      refine lv_istore_n (lv' := [(2, .int ((sizF (σ (k + 19)) i) + (popc (σ (k + 19) i)))), (0, .ref (ad 3)), (1, .int (nI k)), (3, .int (nI i))]) hx hb dS_size_28 rfl hl (by decide) rfl (fun ls hl => ?_)
      refine lv_iinc (v := nI (i + 1)) (lv' := [(3, .int (nI (i + 1))), (2, .int ((sizF (σ (k + 19)) i) + (popc (σ (k + 19) i)))), (0, .ref (ad 3)), (1, .int (nI k))]) hx hb dS_size_29 hl (k := 3) rfl (by exact nI_1 _) (by decide) rfl (fun ls hl => ?_)
      refine lv_goto (tgt := 4) hx hb dS_size_32 (by decide) ?_
      have ev4 : ((sizF (σ (k + 19)) i) + (popc (σ (k + 19) i)) : Int32) = sizF (σ (k + 19)) (i + 1) := by rfl
      rw [ev4] at hl
      exact ih (i + 1) (by omega) (by omega) _ _ ls hE (lv_sub hl [2, 3, 1, 0] rfl)
set_option maxHeartbeats 4000000 in
set_option maxRecDepth 100000 in
theorem c_S_size (l : Launch) (D : va_G) (cs : Nat → ClassId) (ad : Nat → Nat) (σ : Mem) (k S : Nat) (hk9 : k < 9) (h15 : σ 1 5 = nI S) (hS24 : S ≤ 24) : MetI l (wE D cs ad) cs yS_size bS_size 4 (some .int) 1 20 [.ref (ad 3), .int (nI k)] σ (fun r τ => r = sizF (σ (k + 19)) S ∧ τ = σ) := by
  refine MetI.start (by decide) (Nat.le_of_ble_eq_true rfl) ?_
  intro p e s m below meth c A ls C hk hA hE hl
  obtain ⟨hx, hb, hml, hown, hts, hr, hlocks⟩ := id C
  have hl : lv_has ls 4 [(0, .ref (ad 3)), (1, .int (nI k))] := hl
  refine lv_iconst (v := nI 0) hx hb dS_size_0 (by decide) ?_
  refine lv_istore_n (lv' := [(2, .int (nI 0)), (0, .ref (ad 3)), (1, .int (nI k))]) hx hb dS_size_1 rfl hl (by decide) rfl (fun ls hl => ?_)
  refine lv_iconst (v := nI 0) hx hb dS_size_2 (by decide) ?_
  refine lv_istore_n (lv' := [(3, .int (nI 0)), (2, .int (nI 0)), (0, .ref (ad 3)), (1, .int (nI k))]) hx hb dS_size_3 rfl hl (by decide) rfl (fun ls hl => ?_)
  have ev1 : (nI 0 : Int32) = sizF (σ (k + 19)) 0 := by rfl
  rw [ev1] at hl
  exact lp_S_size C hk hA hk9 h15 hS24 _ 0 (Nat.lt_succ_self _) (Nat.zero_le _) _ _ ls hE (lv_sub hl [2, 3, 1, 0] rfl)
set_option maxHeartbeats 4000000 in
set_option maxRecDepth 100000 in
theorem lp_S_gather {p : Program} {l : Launch} {e : Env} {s : State} {m : MethodId} {below : List Frame} {meth : Method} {c : Code} {D : va_G} {cs : Nat → ClassId} {ad : Nat → Nat} {A : Nat → Prop} {σ : Mem} {k P S : Nat} (C : bC p s m ([.ref (ad 3), .int (nI k)] : List Value).toArray meth c bS_gatherWholeOrigins 3 "EarleyChart$ItemSets" none) (hk : wk D cs s) (hA : ∀ q : Nat, s.heap.size ≤ q → A q) (hk9 : k < 9) (hg : gS σ P S)   :
    ∀ (n : Nat) (t : Nat), (S - t) < n → (t ≤ S) → ∀ (H : Heap) (locs : List Loc) (ls : Array Slot), wS (wE D cs ad) A s.heap (mrow σ 12 (gathR σ (σ (k + 19)) t)) H locs → lv_has ls 3 [(0, .ref (ad 3)), (1, .int (nI k)), (2, .int (nI t))] → W p l e (rmF 1 23) s m ([.ref (ad 3), .int (nI k)] : List Value).toArray below meth c H locs 0 0 (wQv (wE D cs ad) A (fun τ => τ = mrow σ 12 (gathR σ (σ (k + 19)) S)) s below ([.ref (ad 3), .int (nI k)] : List Value).toArray) (F0 m 10 ls []) := by
  obtain ⟨hx, hb, hml, hown, hts, hr, hlocks⟩ := id C
  have hP8 := hg.1
  have hS24 := hg.2.1
  intro n
  induction n with
  | zero => intro t h; exact absurd h (Nat.not_lt_zero _)
  | succ n ih =>
    intro t hn hi H locs ls hE hl
    refine lv_iload_n hx hb dS_gatherWholeOrigins_10 rfl (lv_at hl 2 rfl) ?_
    refine lv_aload_n hx hb dS_gatherWholeOrigins_11 rfl (lv_at hl 0 rfl) ?_
    refine w_get C hk hE (K := R_S) (T := F_S) (N := 3) (ci := 2) in_S 3 (Nat.le_of_ble_eq_true rfl) rfl rfl 0 (by decide) tw_106 rfl rfl dS_gatherWholeOrigins_12 ?_
    refine w_get C hk hE (K := R_G) (T := F_G) (N := 6) (ci := 0) in_G 1 (Nat.le_of_ble_eq_true rfl) rfl rfl 5 (by decide) tw_48 rfl rfl dS_gatherWholeOrigins_15 ?_
    refine w_top (y := σ 1 5) (by simp [mset, mrow, upd]) ?_
    refine w_top (y := nI S) (hg.2.2.2.1) ?_
    refine lv_icmp_ge (tgt := 64) hx hb dS_gatherWholeOrigins_18 (by decide) (fun c1 => ?_) (fun c1 => ?_)
    · have c1 : S ≤ t := (nI_leI (by omega) (by omega)).mp c1
      exact w_retv C hE (by rw [show S = t by omega]) dS_gatherWholeOrigins_64
    · have c1 : ¬ (S ≤ t) := fun h => c1 ((nI_leI (by omega) (by omega)).mpr h)
      obtain ⟨h9, h9b, h9c⟩ := hg.2.2.2.2.2.1 t (by omega)
      obtain ⟨h6, h6b, h7, h7b⟩ := hg.2.2.2.2.1 (gp σ t) h9b
      refine lv_aload_n hx hb dS_gatherWholeOrigins_21 rfl (lv_at hl 0 rfl) ?_
      refine w_get C hk hE (K := R_S) (T := F_S) (N := 3) (ci := 2) in_S 3 (Nat.le_of_ble_eq_true rfl) rfl rfl 0 (by decide) tw_106 rfl rfl dS_gatherWholeOrigins_22 ?_
      refine w_get C hk hE (K := R_G) (T := F_G) (N := 6) (ci := 0) in_G 1 (Nat.le_of_ble_eq_true rfl) rfl rfl 2 (by decide) tw_38 rfl rfl dS_gatherWholeOrigins_25 ?_
      refine lv_iload_n hx hb dS_gatherWholeOrigins_28 rfl (lv_at hl 2 rfl) ?_
      refine w_iald C hk hE 8 (by exact Nat.le_of_ble_eq_true rfl) (n := 24) rfl (by omega) (by first | decide | omega) dS_gatherWholeOrigins_29 ?_
      refine w_top (y := σ 8 t) (by simp [mset, mrow, upd]) ?_
      refine lv_iconst (v := (-1)) hx hb dS_gatherWholeOrigins_30 (by decide) ?_
      refine lv_icmp_ne (tgt := 58) hx hb dS_gatherWholeOrigins_31 (by decide) (fun c2 => ?_) (fun c2 => ?_)
      · refine lv_iinc (v := nI (t + 1)) (lv' := [(2, .int (nI (t + 1))), (0, .ref (ad 3)), (1, .int (nI k))]) hx hb dS_gatherWholeOrigins_58 hl (k := 2) rfl (by exact nI_1 _) (by decide) rfl (fun ls hl => ?_)
        refine lv_goto (tgt := 10) hx hb dS_gatherWholeOrigins_61 (by decide) ?_
        exact ih (t + 1) (by omega) (by omega) _ _ ls (wS_eq (show mrow σ 12 (gathR σ (σ (k + 19)) t) = mrow σ 12 (gathR σ (σ (k + 19)) (t + 1)) by simp only [gathR, c2, if_true, if_false]) hE) (lv_sub hl [1, 2, 0] rfl)
      · refine lv_aload_n hx hb dS_gatherWholeOrigins_34 rfl (lv_at hl 0 rfl) ?_
        refine w_get C hk hE (K := R_S) (T := F_S) (N := 3) (ci := 2) in_S 3 (Nat.le_of_ble_eq_true rfl) rfl rfl 2 (by decide) tw_108 rfl rfl dS_gatherWholeOrigins_35 ?_
        refine lv_aload_n hx hb dS_gatherWholeOrigins_38 rfl (lv_at hl 0 rfl) ?_
        refine w_get C hk hE (K := R_S) (T := F_S) (N := 3) (ci := 2) in_S 3 (Nat.le_of_ble_eq_true rfl) rfl rfl 0 (by decide) tw_106 rfl rfl dS_gatherWholeOrigins_39 ?_
        refine lv_iload_n hx hb dS_gatherWholeOrigins_42 rfl (lv_at hl 2 rfl) ?_
        refine w_ci hE hA (w_runV C hk hE hl.1 (As := [.int (nI t)]) (rest := [.ref (ad 12)]) (q := 1) (c_G_leftSideAt l D cs ad (mrow σ 12 (gathR σ (σ (k + 19)) t)) t (gp σ t) (by omega) ((congrFun (mrow_n (by decide)) t).trans h9) (by omega) _) (Nat.le_of_ble_eq_true rfl) (ci := 0) (N := 6) (T := F_G) rfl rfl tw_190 tw_191 tw_192 tw_2 tw_193 (n := 1) (by decide +kernel) rfl rfl (Nat.le_of_ble_eq_true rfl) dS_gatherWholeOrigins_43 ⟨Nat.le_of_ble_eq_true rfl, Nat.le_of_ble_eq_true rfl⟩ ⟨Nat.zero_le _, Nat.zero_le _⟩) (fun r3 τ4 H locs hp hE _ _ => ?_)
        refine w_top (y := nI (gv σ (gp σ t))) (hp.1.trans ((congrFun (mrow_n (by decide)) _).trans h6)) ?_
        have hE := wS_eq hp.2 hE
        refine lv_dup2_11 hx hb dS_gatherWholeOrigins_46 rfl rfl ?_
        refine w_iald C hk hE 12 (by exact Nat.le_of_ble_eq_true rfl) (n := 6) rfl (by omega) (by first | decide | omega) dS_gatherWholeOrigins_47 ?_
        refine w_top (y := (gathR σ (σ (k + 19)) t) (gv σ (gp σ t))) (by simp [mset, mrow, upd]) ?_
        refine lv_aload_n hx hb dS_gatherWholeOrigins_48 rfl (lv_at hl 0 rfl) ?_
        refine w_get C hk hE (K := R_S) (T := F_S) (N := 3) (ci := 2) in_S 3 (Nat.le_of_ble_eq_true rfl) rfl rfl 1 (by decide) tw_107 rfl rfl dS_gatherWholeOrigins_49 ?_
        refine lv_iload_n hx hb dS_gatherWholeOrigins_52 rfl (lv_at hl 1 rfl) ?_
        refine w_aald C hk hE 11 (Nat.le_of_ble_eq_true rfl) (n := 9) (b := ad (k + 19)) rfl (by omega) (by decide) rfl dS_gatherWholeOrigins_53 ?_
        refine lv_iload_n hx hb dS_gatherWholeOrigins_54 rfl (lv_at hl 2 rfl) ?_
        refine w_iald C hk hE (k + 19) (by show _ < 58; omega) (n := 24) (cE_o (ad := ad) (by omega)) (by omega) (by first | decide | omega) dS_gatherWholeOrigins_55 ?_
        refine w_top (y := σ (k + 19) t) (by simp [mset, mrow, upd]) ?_
        refine lv_ior hx hb dS_gatherWholeOrigins_56 ?_
        refine w_iast C hk hE 12 (by exact Nat.le_of_ble_eq_true rfl) (n := 6) (fun _ => rfl) (by omega) (by first | decide | omega) dS_gatherWholeOrigins_57 (fun H locs hE => ?_)
        rw [mset_mrow] at hE
        refine lv_iinc (v := nI (t + 1)) (lv' := [(2, .int (nI (t + 1))), (0, .ref (ad 3)), (1, .int (nI k))]) hx hb dS_gatherWholeOrigins_58 hl (k := 2) rfl (by exact nI_1 _) (by decide) rfl (fun ls hl => ?_)
        refine lv_goto (tgt := 10) hx hb dS_gatherWholeOrigins_61 (by decide) ?_
        exact ih (t + 1) (by omega) (by omega) _ _ ls (wS_eq (show mrow σ 12 (upd (gathR σ (σ (k + 19)) t) (gv σ (gp σ t)) (((gathR σ (σ (k + 19)) t) (gv σ (gp σ t))) ||| (σ (k + 19) t))) = mrow σ 12 (gathR σ (σ (k + 19)) (t + 1)) by simp only [gathR, c2, if_true, if_false]) hE) (lv_sub hl [1, 2, 0] rfl)
set_option maxHeartbeats 4000000 in
set_option maxRecDepth 100000 in
theorem c_S_gatherWholeOrigins (l : Launch) (D : va_G) (cs : Nat → ClassId) (ad : Nat → Nat) (σ : Mem) (k P S : Nat) (hk9 : k < 9) (hg : gS σ P S) : MetV l (wE D cs ad) cs yS_gatherWholeOrigins bS_gatherWholeOrigins 3 1 23 [.ref (ad 3), .int (nI k)] σ (fun τ => τ = mrow σ 12 (gathR σ (σ (k + 19)) S)) := by
  refine MetV.start (by decide) (Nat.le_of_ble_eq_true rfl) ?_
  intro p e s m below meth c A ls C hk hA hE hl
  obtain ⟨hx, hb, hml, hown, hts, hr, hlocks⟩ := id C
  have hl : lv_has ls 3 [(0, .ref (ad 3)), (1, .int (nI k))] := hl
  have hP8 := hg.1
  have hS24 := hg.2.1
  refine lv_aload_n hx hb dS_gatherWholeOrigins_0 rfl (lv_at hl 0 rfl) ?_
  refine w_get C hk hE (K := R_S) (T := F_S) (N := 3) (ci := 2) in_S 3 (Nat.le_of_ble_eq_true rfl) rfl rfl 2 (by decide) tw_108 rfl rfl dS_gatherWholeOrigins_1 ?_
  refine lv_iconst (v := nI 0) hx hb dS_gatherWholeOrigins_4 (by decide) ?_
  refine w_cv hE hA (w_runS C hk hE hl.1 (As := [.ref (ad 12), .int (nI 0)]) (rest := []) (c_J_fill l D cs ad σ 12 6 (nI 0) (by decide) (fun _ => rfl) (by decide) _) tw_161 tw_162 tw_7 tw_163 (n := 2) (by decide +kernel) rfl rfl (Nat.le_of_ble_eq_true rfl) dS_gatherWholeOrigins_5 ⟨Nat.le_of_ble_eq_true rfl, Nat.le_of_ble_eq_true rfl⟩ ⟨Nat.zero_le _, Nat.zero_le _⟩) (fun τ2 H locs hp hE _ _ => ?_)
  have hE := wS_eq hp hE
  refine lv_iconst (v := nI 0) hx hb dS_gatherWholeOrigins_8 (by decide) ?_
  refine lv_istore_n (lv' := [(2, .int (nI 0)), (0, .ref (ad 3)), (1, .int (nI k))]) hx hb dS_gatherWholeOrigins_9 rfl hl (by decide) rfl (fun ls hl => ?_)
  exact lp_S_gather C hk hA hk9 hg _ 0 (Nat.lt_succ_self _) (Nat.zero_le _) _ _ ls (wS_eq (show mrow σ 12 (fillR (σ 12) (nI 0) 6) = mrow σ 12 (gathR σ (σ (k + 19)) 0) by rfl) hE) (lv_sub hl [1, 2, 0] rfl)
set_option maxHeartbeats 4000000 in
set_option maxRecDepth 100000 in
theorem lp_S_grow {p : Program} {l : Launch} {e : Env} {s : State} {m : MethodId} {below : List Frame} {meth : Method} {c : Code} {D : va_G} {cs : Nat → ClassId} {ad : Nat → Nat} {A : Nat → Prop} {σ : Mem} {k P S : Nat} (C : bC p s m ([.ref (ad 3), .int (nI k)] : List Value).toArray meth c bS_grow 4 "EarleyChart$ItemSets" none) (hk : wk D cs s) (hA : ∀ q : Nat, s.heap.size ≤ q → A q) (hk9 : k < 9) (hg : gS σ P S)   :
    ∀ (n : Nat) (t : Nat), (S - 1 - t) < n → (t ≤ S - 1) → ∀ (H : Heap) (locs : List Loc) (ls : Array Slot), wS (wE D cs ad) A s.heap (mrow σ (k + 19) (growR σ k P t)) H locs → lv_has ls 4 [(0, .ref (ad 3)), (1, .int (nI k)), (2, .int (nI t))] → W p l e (rmF 1 24) s m ([.ref (ad 3), .int (nI k)] : List Value).toArray below meth c H locs 0 0 (wQv (wE D cs ad) A (fun τ => τ = mrow σ (k + 19) (growR σ k P (S - 1))) s below ([.ref (ad 3), .int (nI k)] : List Value).toArray) (F0 m 2 ls []) := by
  obtain ⟨hx, hb, hml, hown, hts, hr, hlocks⟩ := id C
  have hP8 := hg.1
  have hS24 := hg.2.1
  intro n
  induction n with
  | zero => intro t h; exact absurd h (Nat.not_lt_zero _)
  | succ n ih =>
    intro t hn hi H locs ls hE hl
    refine lv_iload_n hx hb dS_grow_2 rfl (lv_at hl 2 rfl) ?_
    refine lv_iconst (v := nI 1) hx hb dS_grow_3 (by decide) ?_
    refine lv_iadd hx hb dS_grow_4 ?_
    refine w_top (y := nI (t + 1)) (by first | exact nI_add _ _ | simp only [nI_add, Nat.add_assoc, Nat.add_zero, Nat.zero_add]) ?_
    refine lv_aload_n hx hb dS_grow_5 rfl (lv_at hl 0 rfl) ?_
    refine w_get C hk hE (K := R_S) (T := F_S) (N := 3) (ci := 2) in_S 3 (Nat.le_of_ble_eq_true rfl) rfl rfl 0 (by decide) tw_106 rfl rfl dS_grow_6 ?_
    refine w_get C hk hE (K := R_G) (T := F_G) (N := 6) (ci := 0) in_G 1 (Nat.le_of_ble_eq_true rfl) rfl rfl 5 (by decide) tw_48 rfl rfl dS_grow_9 ?_
    refine w_top (y := σ 1 5) (by simp [mset, mrow, upd]) ?_
    refine w_top (y := nI S) (hg.2.2.2.1) ?_
    refine lv_icmp_ge (tgt := 79) hx hb dS_grow_12 (by decide) (fun c1 => ?_) (fun c1 => ?_)
    · have c1 : S ≤ (t + 1) := (nI_leI (by omega) (by omega)).mp c1
      exact w_retv C hE (by rw [show S - 1 = t by omega]) dS_grow_79
    · have c1 : ¬ (S ≤ (t + 1)) := fun h => c1 ((nI_leI (by omega) (by omega)).mpr h)
      refine lv_aload_n hx hb dS_grow_15 rfl (lv_at hl 0 rfl) ?_
      refine w_get C hk hE (K := R_S) (T := F_S) (N := 3) (ci := 2) in_S 3 (Nat.le_of_ble_eq_true rfl) rfl rfl 0 (by decide) tw_106 rfl rfl dS_grow_16 ?_
      refine w_get C hk hE (K := R_G) (T := F_G) (N := 6) (ci := 0) in_G 1 (Nat.le_of_ble_eq_true rfl) rfl rfl 2 (by decide) tw_38 rfl rfl dS_grow_19 ?_
      refine lv_iload_n hx hb dS_grow_22 rfl (lv_at hl 2 rfl) ?_
      refine w_iald C hk hE 8 (by exact Nat.le_of_ble_eq_true rfl) (n := 24) rfl (by omega) (by first | decide | omega) dS_grow_23 ?_
      refine w_top (y := σ 8 t) (by simp [mset, mrow, upd]) ?_
      refine lv_istore_n (lv' := [(3, .int (σ 8 t)), (0, .ref (ad 3)), (1, .int (nI k)), (2, .int (nI t))]) hx hb dS_grow_24 rfl hl (by decide) rfl (fun ls hl => ?_)
      refine lv_iload_n hx hb dS_grow_25 rfl (lv_at hl 0 rfl) ?_
      refine w_ci hE hA (w_runSN C hk hE hl.1 (As := [.int (σ 8 t)]) (rest := []) (c_E_isVariable l D cs ad (mrow σ (k + 19) (growR σ k P t)) (σ 8 t) _) hk.2.1 tw_199 tw_1 tw_200 (n := 1) (by decide +kernel) rfl rfl (Nat.le_of_ble_eq_true rfl) dS_grow_26 ⟨Nat.le_of_ble_eq_true rfl, Nat.le_of_ble_eq_true rfl⟩ ⟨Nat.zero_le _, Nat.zero_le _⟩) (fun r2 τ3 H locs hp hE _ _ => ?_)
      refine w_top hp.1 ?_
      have hE := wS_eq hp.2 hE
      refine lv_if_eq (tgt := 73) hx hb dS_grow_29 (by decide) (fun c4 => ?_) (fun c4 => ?_)
      · have c4 := zb_eq0 c4
        refine lv_iinc (v := nI (t + 1)) (lv' := [(2, .int (nI (t + 1))), (3, .int (σ 8 t)), (0, .ref (ad 3)), (1, .int (nI k))]) hx hb dS_grow_73 hl (k := 3) rfl (by exact nI_1 _) (by decide) rfl (fun ls hl => ?_)
        refine lv_goto (tgt := 2) hx hb dS_grow_76 (by decide) ?_
        exact ih (t + 1) (by omega) (by omega) _ _ ls (wS_eq (show mrow σ (k + 19) (growR σ k P t) = mrow σ (k + 19) (growR σ k P (t + 1)) by simp only [growR, growS, c4, if_true, if_false, Bool.false_eq_true]) hE) (lv_sub hl [2, 3, 0] rfl)
      · have c4 := zb_ne0 c4
        obtain ⟨h8a, h8, h8b⟩ := gS_var hg (by omega) c4
        refine lv_aload_n hx hb dS_grow_32 rfl (lv_at hl 1 rfl) ?_
        refine w_get C hk hE (K := R_S) (T := F_S) (N := 3) (ci := 2) in_S 3 (Nat.le_of_ble_eq_true rfl) rfl rfl 1 (by decide) tw_107 rfl rfl dS_grow_33 ?_
        refine lv_iload_n hx hb dS_grow_36 rfl (lv_at hl 2 rfl) ?_
        refine w_aald C hk hE 11 (Nat.le_of_ble_eq_true rfl) (n := 9) (b := ad (k + 19)) rfl (by omega) (by decide) rfl dS_grow_37 ?_
        refine lv_iload_n hx hb dS_grow_38 rfl (lv_at hl 3 rfl) ?_
        refine w_iald C hk hE (k + 19) (by show _ < 58; omega) (n := 24) (cE_o (ad := ad) (by omega)) (by omega) (by first | decide | omega) dS_grow_39 ?_
        refine w_top (y := (growR σ k P t) t) (by simp [mset, mrow, upd]) ?_
        refine lv_if_eq (tgt := 49) hx hb dS_grow_40 (by decide) (fun c5 => ?_) (fun c5 => ?_)
        · refine lv_aload_n hx hb dS_grow_49 rfl (lv_at hl 1 rfl) ?_
          refine w_get C hk hE (K := R_S) (T := F_S) (N := 3) (ci := 2) in_S 3 (Nat.le_of_ble_eq_true rfl) rfl rfl 1 (by decide) tw_107 rfl rfl dS_grow_50 ?_
          refine lv_iload_n hx hb dS_grow_53 rfl (lv_at hl 2 rfl) ?_
          refine w_aald C hk hE 11 (Nat.le_of_ble_eq_true rfl) (n := 9) (b := ad (k + 19)) rfl (by omega) (by decide) rfl dS_grow_54 ?_
          refine lv_iload_n hx hb dS_grow_55 rfl (lv_at hl 3 rfl) ?_
          refine lv_iconst (v := nI 1) hx hb dS_grow_56 (by decide) ?_
          refine lv_iadd hx hb dS_grow_57 ?_
          refine w_top (y := nI (t + 1)) (by first | exact nI_add _ _ | simp only [nI_add, Nat.add_assoc, Nat.add_zero, Nat.zero_add]) ?_
          refine lv_dup2_11 hx hb dS_grow_58 rfl rfl ?_
          refine w_iald C hk hE (k + 19) (by show _ < 58; omega) (n := 24) (cE_o (ad := ad) (by omega)) (by omega) (by first | decide | omega) dS_grow_59 ?_
          refine w_top (y := (growR σ k P t) (t + 1)) (by simp [mset, mrow, upd]) ?_
          refine lv_aload_n hx hb dS_grow_60 rfl (lv_at hl 1 rfl) ?_
          refine lv_aload_n hx hb dS_grow_61 rfl (lv_at hl 1 rfl) ?_
          refine w_get C hk hE (K := R_S) (T := F_S) (N := 3) (ci := 2) in_S 3 (Nat.le_of_ble_eq_true rfl) rfl rfl 2 (by decide) tw_108 rfl rfl dS_grow_62 ?_
          refine lv_iload_n hx hb dS_grow_65 rfl (lv_at hl 0 rfl) ?_
          refine w_top (y := nI (gy σ t)) (h8) ?_
          refine w_iald C hk hE 12 (by exact Nat.le_of_ble_eq_true rfl) (n := 6) rfl (by omega) (by first | decide | omega) dS_grow_66 ?_
          refine w_top (y := σ 12 (gy σ t)) (by simp [mset, mrow, upd]) ?_
          refine lv_iload_n hx hb dS_grow_67 rfl (lv_at hl 3 rfl) ?_
          refine w_ci hE hA (w_runV C hk hE hl.1 (As := [.int (σ 12 (gy σ t)), .int (nI t)]) (rest := [.int ((growR σ k P t) (t + 1)), .int (nI (t + 1)), .ref (ad (k + 19))]) (q := 3) (c_S_originsIn l D cs ad (mrow σ (k + 19) (growR σ k P t)) t (σ 12 (gy σ t)) (by omega) _) (Nat.le_of_ble_eq_true rfl) (ci := 2) (N := 3) (T := F_S) rfl rfl tw_201 tw_203 ts_5 tw_5 tw_204 (n := 2) (by decide +kernel) rfl rfl (Nat.le_of_ble_eq_true rfl) dS_grow_68 ⟨Nat.le_of_ble_eq_true rfl, Nat.le_of_ble_eq_true rfl⟩ ⟨Nat.zero_le _, Nat.zero_le _⟩) (fun r6 τ7 H locs hp hE _ _ => ?_)
          refine w_top hp.1 ?_
          have hE := wS_eq hp.2 hE
          refine lv_ior hx hb dS_grow_71 ?_
          refine w_iast C hk hE (k + 19) (by show _ < 58; omega) (n := 24) (fun _ => cE_o (ad := ad) (by omega)) (by omega) (by first | decide | omega) dS_grow_72 (fun H locs hE => ?_)
          rw [mset_mrow] at hE
          refine lv_iinc (v := nI (t + 1)) (lv' := [(2, .int (nI (t + 1))), (3, .int (σ 8 t)), (0, .ref (ad 3)), (1, .int (nI k))]) hx hb dS_grow_73 hl (k := 3) rfl (by exact nI_1 _) (by decide) rfl (fun ls hl => ?_)
          refine lv_goto (tgt := 2) hx hb dS_grow_76 (by decide) ?_
          exact ih (t + 1) (by omega) (by omega) _ _ ls (wS_eq (show mrow σ (k + 19) (upd (growR σ k P t) (t + 1) (((growR σ k P t) (t + 1)) ||| (orgF (mrow σ (k + 19) (growR σ k P t)) (σ 12 (gy σ t)) t 9))) = mrow σ (k + 19) (growR σ k P (t + 1)) by simp only [growR, growS, c4, c5, if_true, if_false, Bool.false_eq_true]) hE) (lv_sub hl [2, 3, 0] rfl)
        · refine lv_aload_n hx hb dS_grow_43 rfl (lv_at hl 1 rfl) ?_
          refine lv_iload_n hx hb dS_grow_44 rfl (lv_at hl 2 rfl) ?_
          refine lv_iload_n hx hb dS_grow_45 rfl (lv_at hl 0 rfl) ?_
          refine w_cv hE hA (w_runV C hk hE hl.1 (As := [.int (nI k), .int (σ 8 t)]) (rest := []) (q := 3) (c_S_predict l D cs ad (mrow σ (k + 19) (growR σ k P t)) k P S (σ 8 t) hk9 (gS_mrow hg (by omega)) _) (Nat.le_of_ble_eq_true rfl) (ci := 2) (N := 3) (T := F_S) rfl rfl tw_168 tw_170 ts_1 tw_5 tw_171 (n := 2) (by decide +kernel) rfl rfl (Nat.le_of_ble_eq_true rfl) dS_grow_46 ⟨Nat.le_of_ble_eq_true rfl, Nat.le_of_ble_eq_true rfl⟩ ⟨Nat.zero_le _, Nat.zero_le _⟩) (fun τ9 H locs hp hE _ _ => ?_)
          have hE := wS_eq (hp.trans (by rw [mrow_mrow, mrow_s, mrow_lo (by decide), show gf (mrow σ (k + 19) (growR σ k P t)) = gf σ by funext z; unfold gf; rw [mrow_lo (by decide)]])) hE
          refine lv_aload_n hx hb dS_grow_49 rfl (lv_at hl 1 rfl) ?_
          refine w_get C hk hE (K := R_S) (T := F_S) (N := 3) (ci := 2) in_S 3 (Nat.le_of_ble_eq_true rfl) rfl rfl 1 (by decide) tw_107 rfl rfl dS_grow_50 ?_
          refine lv_iload_n hx hb dS_grow_53 rfl (lv_at hl 2 rfl) ?_
          refine w_aald C hk hE 11 (Nat.le_of_ble_eq_true rfl) (n := 9) (b := ad (k + 19)) rfl (by omega) (by decide) rfl dS_grow_54 ?_
          refine lv_iload_n hx hb dS_grow_55 rfl (lv_at hl 3 rfl) ?_
          refine lv_iconst (v := nI 1) hx hb dS_grow_56 (by decide) ?_
          refine lv_iadd hx hb dS_grow_57 ?_
          refine w_top (y := nI (t + 1)) (by first | exact nI_add _ _ | simp only [nI_add, Nat.add_assoc, Nat.add_zero, Nat.zero_add]) ?_
          refine lv_dup2_11 hx hb dS_grow_58 rfl rfl ?_
          refine w_iald C hk hE (k + 19) (by show _ < 58; omega) (n := 24) (cE_o (ad := ad) (by omega)) (by omega) (by first | decide | omega) dS_grow_59 ?_
          refine w_top (y := (predR (σ 6) (gf σ) k (σ 8 t) (growR σ k P t) P) (t + 1)) (by simp [mset, mrow, upd]) ?_
          refine lv_aload_n hx hb dS_grow_60 rfl (lv_at hl 1 rfl) ?_
          refine lv_aload_n hx hb dS_grow_61 rfl (lv_at hl 1 rfl) ?_
          refine w_get C hk hE (K := R_S) (T := F_S) (N := 3) (ci := 2) in_S 3 (Nat.le_of_ble_eq_true rfl) rfl rfl 2 (by decide) tw_108 rfl rfl dS_grow_62 ?_
          refine lv_iload_n hx hb dS_grow_65 rfl (lv_at hl 0 rfl) ?_
          refine w_top (y := nI (gy σ t)) (h8) ?_
          refine w_iald C hk hE 12 (by exact Nat.le_of_ble_eq_true rfl) (n := 6) rfl (by omega) (by first | decide | omega) dS_grow_66 ?_
          refine w_top (y := σ 12 (gy σ t)) (by simp [mset, mrow, upd]) ?_
          refine lv_iload_n hx hb dS_grow_67 rfl (lv_at hl 3 rfl) ?_
          refine w_ci hE hA (w_runV C hk hE hl.1 (As := [.int (σ 12 (gy σ t)), .int (nI t)]) (rest := [.int ((predR (σ 6) (gf σ) k (σ 8 t) (growR σ k P t) P) (t + 1)), .int (nI (t + 1)), .ref (ad (k + 19))]) (q := 3) (c_S_originsIn l D cs ad (mrow σ (k + 19) (predR (σ 6) (gf σ) k (σ 8 t) (growR σ k P t) P)) t (σ 12 (gy σ t)) (by omega) _) (Nat.le_of_ble_eq_true rfl) (ci := 2) (N := 3) (T := F_S) rfl rfl tw_201 tw_203 ts_5 tw_5 tw_204 (n := 2) (by decide +kernel) rfl rfl (Nat.le_of_ble_eq_true rfl) dS_grow_68 ⟨Nat.le_of_ble_eq_true rfl, Nat.le_of_ble_eq_true rfl⟩ ⟨Nat.zero_le _, Nat.zero_le _⟩) (fun r10 τ11 H locs hp hE _ _ => ?_)
          refine w_top hp.1 ?_
          have hE := wS_eq hp.2 hE
          refine lv_ior hx hb dS_grow_71 ?_
          refine w_iast C hk hE (k + 19) (by show _ < 58; omega) (n := 24) (fun _ => cE_o (ad := ad) (by omega)) (by omega) (by first | decide | omega) dS_grow_72 (fun H locs hE => ?_)
          rw [mset_mrow] at hE
          refine lv_iinc (v := nI (t + 1)) (lv' := [(2, .int (nI (t + 1))), (3, .int (σ 8 t)), (0, .ref (ad 3)), (1, .int (nI k))]) hx hb dS_grow_73 hl (k := 3) rfl (by exact nI_1 _) (by decide) rfl (fun ls hl => ?_)
          refine lv_goto (tgt := 2) hx hb dS_grow_76 (by decide) ?_
          exact ih (t + 1) (by omega) (by omega) _ _ ls (wS_eq (show mrow σ (k + 19) (upd (predR (σ 6) (gf σ) k (σ 8 t) (growR σ k P t) P) (t + 1) (((predR (σ 6) (gf σ) k (σ 8 t) (growR σ k P t) P) (t + 1)) ||| (orgF (mrow σ (k + 19) (predR (σ 6) (gf σ) k (σ 8 t) (growR σ k P t) P)) (σ 12 (gy σ t)) t 9))) = mrow σ (k + 19) (growR σ k P (t + 1)) by simp only [growR, growS, c4, c5, if_true, if_false, Bool.false_eq_true]) hE) (lv_sub hl [2, 3, 0] rfl)
set_option maxHeartbeats 4000000 in
set_option maxRecDepth 100000 in
theorem c_S_grow (l : Launch) (D : va_G) (cs : Nat → ClassId) (ad : Nat → Nat) (σ : Mem) (k P S : Nat) (hk9 : k < 9) (hg : gS σ P S) : MetV l (wE D cs ad) cs yS_grow bS_grow 4 1 24 [.ref (ad 3), .int (nI k)] σ (fun τ => τ = mrow σ (k + 19) (growR σ k P (S - 1))) := by
  refine MetV.start (by decide) (Nat.le_of_ble_eq_true rfl) ?_
  intro p e s m below meth c A ls C hk hA hE hl
  obtain ⟨hx, hb, hml, hown, hts, hr, hlocks⟩ := id C
  have hl : lv_has ls 4 [(0, .ref (ad 3)), (1, .int (nI k))] := hl
  have hP8 := hg.1
  have hS24 := hg.2.1
  refine lv_iconst (v := nI 0) hx hb dS_grow_0 (by decide) ?_
  refine lv_istore_n (lv' := [(2, .int (nI 0)), (0, .ref (ad 3)), (1, .int (nI k))]) hx hb dS_grow_1 rfl hl (by decide) rfl (fun ls hl => ?_)
  exact lp_S_grow C hk hA hk9 hg _ 0 (Nat.lt_succ_self _) (Nat.zero_le _) _ _ ls (wS_eq (show σ = mrow σ (k + 19) (growR σ k P 0) by rw [growR, mrow_id]) hE) (lv_sub hl [1, 2, 0] rfl)
set_option maxHeartbeats 4000000 in
set_option maxRecDepth 100000 in
theorem lp_S_close {p : Program} {l : Launch} {e : Env} {s : State} {m : MethodId} {below : List Frame} {meth : Method} {c : Code} {D : va_G} {cs : Nat → ClassId} {ad : Nat → Nat} {A : Nat → Prop} {σ : Mem} {k P S : Nat} (C : bC p s m ([.ref (ad 3), .int (nI k)] : List Value).toArray meth c bS_close 5 "EarleyChart$ItemSets" none) (hk : wk D cs s) (hA : ∀ q : Nat, s.heap.size ≤ q → A q) (hk9 : k < 9) (hg : gS σ P S)   :
    ∀ (n : Nat) (i : Nat) (g : Bool) (τ : Mem), (1000 - i) < n → (i ≤ 1000) → (gS τ P S) → ((if g = true then closeM k P S (1000 - i) τ else τ) = closeM k P S 1000 σ) → ∀ (H : Heap) (locs : List Loc) (ls : Array Slot), wS (wE D cs ad) A s.heap τ H locs → lv_has ls 5 [(0, .ref (ad 3)), (1, .int (nI k)), (2, .int (zb g)), (3, .int (nI i))] → W p l e (rmF 2 47) s m ([.ref (ad 3), .int (nI k)] : List Value).toArray below meth c H locs 0 0 (wQv (wE D cs ad) A (fun τ => τ = closeM k P S 1000 σ) s below ([.ref (ad 3), .int (nI k)] : List Value).toArray) (F0 m 4 ls []) := by
  obtain ⟨hx, hb, hml, hown, hts, hr, hlocks⟩ := id C
  have hP8 := hg.1
  have hS24 := hg.2.1
  intro n
  induction n with
  | zero => intro i g τ h; exact absurd h (Nat.not_lt_zero _)
  | succ n ih =>
    intro i g τ hn hi hgτ hres H locs ls hE hl
    refine lv_iload_n hx hb dS_close_4 rfl (lv_at hl 2 rfl) ?_
    refine lv_if_eq (tgt := 54) hx hb dS_close_5 (by decide) (fun c1 => ?_) (fun c1 => ?_)
    · have c1 := zb_eq0 c1
      exact w_retv C hE (by first | (rw [← hres, c1]; rfl) | (rw [← hres, c1, show 1000 - i = 0 by omega]; rfl)) dS_close_54
    · have c1 := zb_ne0 c1
      refine lv_iload_n hx hb dS_close_8 rfl (lv_at hl 3 rfl) ?_
      refine lv_sipush (v := nI 1000) hx hb dS_close_9 (by decide) ?_
      refine lv_icmp_ge (tgt := 54) hx hb dS_close_12 (by decide) (fun c2 => ?_) (fun c2 => ?_)
      · have c2 : 1000 ≤ i := (nI_leI (by omega) (by omega)).mp c2
        exact w_retv C hE (by first | (rw [← hres, c1]; rfl) | (rw [← hres, c1, show 1000 - i = 0 by omega]; rfl)) dS_close_54
      · have c2 : ¬ (1000 ≤ i) := fun h => c2 ((nI_leI (by omega) (by omega)).mpr h)
        refine lv_aload_n hx hb dS_close_15 rfl (lv_at hl 0 rfl) ?_
        refine lv_iload_n hx hb dS_close_16 rfl (lv_at hl 1 rfl) ?_
        refine w_ci hE hA (w_runV C hk hE hl.1 (As := [.int (nI k)]) (rest := []) (q := 3) (c_S_size l D cs ad τ k S hk9 hgτ.2.2.2.1 hS24 _) (Nat.le_of_ble_eq_true rfl) (ci := 2) (N := 3) (T := F_S) rfl rfl tw_176 tw_177 tw_178 tw_5 tw_179 (n := 1) (by decide +kernel) rfl rfl (Nat.le_of_ble_eq_true rfl) dS_close_17 ⟨Nat.le_of_ble_eq_true rfl, Nat.le_of_ble_eq_true rfl⟩ ⟨Nat.zero_le _, Nat.zero_le _⟩) (fun r3 τ4 H locs hp hE _ _ => ?_)
        refine w_top hp.1 ?_
        have hE := wS_eq hp.2 hE
        refine lv_istore (lv' := [(4, .int (sizF (τ (k + 19)) S)), (0, .ref (ad 3)), (1, .int (nI k)), (2, .int (zb g)), (3, .int (nI i))]) hx hb dS_close_20 hl (by decide) rfl (fun ls hl => ?_)
        refine lv_aload_n hx hb dS_close_22 rfl (lv_at hl 1 rfl) ?_
        refine lv_iload_n hx hb dS_close_23 rfl (lv_at hl 2 rfl) ?_
        refine w_cv hE hA (w_runV C hk hE hl.1 (As := [.int (nI k)]) (rest := []) (q := 3) (c_S_gatherWholeOrigins l D cs ad τ k P S hk9 hgτ _) (Nat.le_of_ble_eq_true rfl) (ci := 2) (N := 3) (T := F_S) rfl rfl tw_186 tw_188 ts_3 tw_5 tw_189 (n := 1) (by decide +kernel) rfl rfl (Nat.le_of_ble_eq_true rfl) dS_close_24 ⟨Nat.le_of_ble_eq_true rfl, Nat.le_of_ble_eq_true rfl⟩ ⟨Nat.zero_le _, Nat.zero_le _⟩) (fun τ6 H locs hp hE _ _ => ?_)
        have hE := wS_eq hp hE
        refine lv_aload_n hx hb dS_close_27 rfl (lv_at hl 1 rfl) ?_
        refine lv_iload_n hx hb dS_close_28 rfl (lv_at hl 2 rfl) ?_
        refine w_cv hE hA (w_runV C hk hE hl.1 (As := [.int (nI k)]) (rest := []) (q := 3) (c_S_grow l D cs ad (mrow τ 12 (gathR τ (τ (k + 19)) S)) k P S hk9 (gS_mrow hgτ (by decide)) _) (Nat.le_of_ble_eq_true rfl) (ci := 2) (N := 3) (T := F_S) rfl rfl tw_194 tw_196 ts_4 tw_5 tw_197 (n := 1) (by decide +kernel) rfl rfl (Nat.le_of_ble_eq_true rfl) dS_close_29 ⟨Nat.le_of_ble_eq_true rfl, Nat.le_of_ble_eq_true rfl⟩ ⟨Nat.zero_le _, Nat.zero_le _⟩) (fun τ8 H locs hp hE _ _ => ?_)
        have hE : wS (wE D cs ad) A s.heap (closeS k P S τ) H locs := wS_eq hp hE
        refine lv_aload_n hx hb dS_close_32 rfl (lv_at hl 1 rfl) ?_
        refine lv_iload_n hx hb dS_close_33 rfl (lv_at hl 2 rfl) ?_
        refine w_ci hE hA (w_runV C hk hE hl.1 (As := [.int (nI k)]) (rest := []) (q := 3) (c_S_size l D cs ad (closeS k P S τ) k S hk9 (gS_close hgτ).2.2.2.1 hS24 _) (Nat.le_of_ble_eq_true rfl) (ci := 2) (N := 3) (T := F_S) rfl rfl tw_176 tw_177 tw_178 tw_5 tw_179 (n := 1) (by decide +kernel) rfl rfl (Nat.le_of_ble_eq_true rfl) dS_close_34 ⟨Nat.le_of_ble_eq_true rfl, Nat.le_of_ble_eq_true rfl⟩ ⟨Nat.zero_le _, Nat.zero_le _⟩) (fun r9 τ10 H locs hp hE _ _ => ?_)
        refine w_top hp.1 ?_
        have hE := wS_eq hp.2 hE
        refine lv_iload hx hb dS_close_37 (lv_at hl 0 rfl) ?_
        refine lv_icmp_le (tgt := 46) hx hb dS_close_39 (by decide) (fun c11 => ?_) (fun c11 => ?_)
        · refine lv_iconst (v := nI 0) hx hb dS_close_46 (by decide) ?_
          refine lv_istore_n (lv' := [(2, .int (nI 0)), (4, .int (sizF (τ (k + 19)) S)), (0, .ref (ad 3)), (1, .int (nI k)), (3, .int (nI i))]) hx hb dS_close_47 rfl hl (by decide) rfl (fun ls hl => ?_)
          refine lv_iinc (v := nI (i + 1)) (lv' := [(3, .int (nI (i + 1))), (2, .int (nI 0)), (4, .int (sizF (τ (k + 19)) S)), (0, .ref (ad 3)), (1, .int (nI k))]) hx hb dS_close_48 hl (k := 4) rfl (by exact nI_1 _) (by decide) rfl (fun ls hl => ?_)
          refine lv_goto (tgt := 4) hx hb dS_close_51 (by decide) ?_
          have ev12 : (nI 0 : Int32) = zb false := by rfl
          rw [ev12] at hl
          exact ih (i + 1) false (closeS k P S τ) (by omega) (by omega) (gS_close hgτ) (by rw [← hres, c1]; exact (closeM_f (by omega) (Int32.not_lt.mpr c11)).symm) _ _ ls hE (lv_sub hl [3, 4, 1, 0] rfl)
        · refine lv_iconst (v := nI 1) hx hb dS_close_42 (by decide) ?_
          refine lv_goto (tgt := 47) hx hb dS_close_43 (by decide) ?_
          refine lv_istore_n (lv' := [(2, .int (nI 1)), (4, .int (sizF (τ (k + 19)) S)), (0, .ref (ad 3)), (1, .int (nI k)), (3, .int (nI i))]) hx hb dS_close_47 rfl hl (by decide) rfl (fun ls hl => ?_)
          refine lv_iinc (v := nI (i + 1)) (lv' := [(3, .int (nI (i + 1))), (2, .int (nI 1)), (4, .int (sizF (τ (k + 19)) S)), (0, .ref (ad 3)), (1, .int (nI k))]) hx hb dS_close_48 hl (k := 4) rfl (by exact nI_1 _) (by decide) rfl (fun ls hl => ?_)
          refine lv_goto (tgt := 4) hx hb dS_close_51 (by decide) ?_
          have ev13 : (nI 1 : Int32) = zb true := by rfl
          rw [ev13] at hl
          exact ih (i + 1) true (closeS k P S τ) (by omega) (by omega) (gS_close hgτ) (by rw [← hres, c1]; exact (closeM_t (by omega) (Int32.not_le.mp c11)).symm) _ _ ls hE (lv_sub hl [3, 4, 1, 0] rfl)
set_option maxHeartbeats 4000000 in
set_option maxRecDepth 100000 in
theorem c_S_close (l : Launch) (D : va_G) (cs : Nat → ClassId) (ad : Nat → Nat) (σ : Mem) (k P S : Nat) (hk9 : k < 9) (hg : gS σ P S) : MetV l (wE D cs ad) cs yS_close bS_close 5 2 47 [.ref (ad 3), .int (nI k)] σ (fun τ => τ = closeM k P S 1000 σ) := by
  refine MetV.start (by decide) (Nat.le_of_ble_eq_true rfl) ?_
  intro p e s m below meth c A ls C hk hA hE hl
  obtain ⟨hx, hb, hml, hown, hts, hr, hlocks⟩ := id C
  have hl : lv_has ls 5 [(0, .ref (ad 3)), (1, .int (nI k))] := hl
  have hP8 := hg.1
  have hS24 := hg.2.1
  refine lv_iconst (v := nI 1) hx hb dS_close_0 (by decide) ?_
  refine lv_istore_n (lv' := [(2, .int (nI 1)), (0, .ref (ad 3)), (1, .int (nI k))]) hx hb dS_close_1 rfl hl (by decide) rfl (fun ls hl => ?_)
  refine lv_iconst (v := nI 0) hx hb dS_close_2 (by decide) ?_
  refine lv_istore_n (lv' := [(3, .int (nI 0)), (2, .int (nI 1)), (0, .ref (ad 3)), (1, .int (nI k))]) hx hb dS_close_3 rfl hl (by decide) rfl (fun ls hl => ?_)
  have ev1 : (nI 1 : Int32) = zb true := by rfl
  rw [ev1] at hl
  exact lp_S_close C hk hA hk9 hg _ 0 true σ (Nat.lt_succ_self _) (by decide) (hg) (rfl) _ _ ls hE (lv_sub hl [2, 3, 1, 0] rfl)
set_option maxHeartbeats 4000000 in
set_option maxRecDepth 100000 in
theorem lp_S_makeNext {p : Program} {l : Launch} {e : Env} {s : State} {m : MethodId} {below : List Frame} {meth : Method} {c : Code} {D : va_G} {cs : Nat → ClassId} {ad : Nat → Nat} {A : Nat → Prop} {σ : Mem} {k P S : Nat} {x : Int32} (C : bC p s m ([.ref (ad 3), .int (nI k), .int x] : List Value).toArray meth c bS_makeNext 4 "EarleyChart$ItemSets" none) (hk : wk D cs s) (hA : ∀ q : Nat, s.heap.size ≤ q → A q) (hk9 : k < 9) (hk1 : 1 ≤ k) (hg : gS σ P S)   :
    ∀ (n : Nat) (t : Nat), (S - 1 - t) < n → (t ≤ S - 1) → ∀ (H : Heap) (locs : List Loc) (ls : Array Slot), wS (wE D cs ad) A s.heap (mrow σ (k + 19) (nextR σ k x t)) H locs → lv_has ls 4 [(0, .ref (ad 3)), (1, .int (nI k)), (2, .int x), (3, .int (nI t))] → W p l e (rmF 3 71) s m ([.ref (ad 3), .int (nI k), .int x] : List Value).toArray below meth c H locs 0 0 (wQv (wE D cs ad) A (fun τ => τ = closeM k P S 1000 (mrow σ (k + 19) (nextR σ k x (S - 1)))) s below ([.ref (ad 3), .int (nI k), .int x] : List Value).toArray) (F0 m 12 ls []) := by
  obtain ⟨hx, hb, hml, hown, hts, hr, hlocks⟩ := id C
  have hP8 := hg.1
  have hS24 := hg.2.1
  intro n
  induction n with
  | zero => intro t h; exact absurd h (Nat.not_lt_zero _)
  | succ n ih =>
    intro t hn hi H locs ls hE hl
    refine lv_iload_n hx hb dS_makeNext_12 rfl (lv_at hl 3 rfl) ?_
    refine lv_iconst (v := nI 1) hx hb dS_makeNext_13 (by decide) ?_
    refine lv_iadd hx hb dS_makeNext_14 ?_
    refine w_top (y := nI (t + 1)) (by first | exact nI_add _ _ | simp only [nI_add, Nat.add_assoc, Nat.add_zero, Nat.zero_add]) ?_
    refine lv_aload_n hx hb dS_makeNext_15 rfl (lv_at hl 0 rfl) ?_
    refine w_get C hk hE (K := R_S) (T := F_S) (N := 3) (ci := 2) in_S 3 (Nat.le_of_ble_eq_true rfl) rfl rfl 0 (by decide) tw_106 rfl rfl dS_makeNext_16 ?_
    refine w_get C hk hE (K := R_G) (T := F_G) (N := 6) (ci := 0) in_G 1 (Nat.le_of_ble_eq_true rfl) rfl rfl 5 (by decide) tw_48 rfl rfl dS_makeNext_19 ?_
    refine w_top (y := σ 1 5) (by simp [mset, mrow, upd]) ?_
    refine w_top (y := nI S) (hg.2.2.2.1) ?_
    refine lv_icmp_ge (tgt := 64) hx hb dS_makeNext_22 (by decide) (fun c1 => ?_) (fun c1 => ?_)
    · have c1 : S ≤ (t + 1) := (nI_leI (by omega) (by omega)).mp c1
      refine lv_aload_n hx hb dS_makeNext_64 rfl (lv_at hl 0 rfl) ?_
      refine lv_iload_n hx hb dS_makeNext_65 rfl (lv_at hl 1 rfl) ?_
      refine w_cv hE hA (w_runV C hk hE hl.1 (As := [.int (nI k)]) (rest := []) (q := 3) (c_S_close l D cs ad (mrow σ (k + 19) (nextR σ k x t)) k P S hk9 (gS_mrow hg (by omega)) _) (Nat.le_of_ble_eq_true rfl) (ci := 2) (N := 3) (T := F_S) rfl rfl tw_172 tw_174 ts_2 tw_5 tw_175 (n := 1) (by decide +kernel) rfl rfl (Nat.le_of_ble_eq_true rfl) dS_makeNext_66 ⟨Nat.le_of_ble_eq_true rfl, Nat.le_of_ble_eq_true rfl⟩ ⟨Nat.zero_le _, Nat.zero_le _⟩) (fun τ3 H locs hp hE _ _ => ?_)
      have hE := wS_eq hp hE
      exact w_retv C hE (by rw [show S - 1 = t by omega]) dS_makeNext_69
    · have c1 : ¬ (S ≤ (t + 1)) := fun h => c1 ((nI_leI (by omega) (by omega)).mpr h)
      refine lv_aload_n hx hb dS_makeNext_25 rfl (lv_at hl 0 rfl) ?_
      refine w_get C hk hE (K := R_S) (T := F_S) (N := 3) (ci := 2) in_S 3 (Nat.le_of_ble_eq_true rfl) rfl rfl 0 (by decide) tw_106 rfl rfl dS_makeNext_26 ?_
      refine w_get C hk hE (K := R_G) (T := F_G) (N := 6) (ci := 0) in_G 1 (Nat.le_of_ble_eq_true rfl) rfl rfl 2 (by decide) tw_38 rfl rfl dS_makeNext_29 ?_
      refine lv_iload_n hx hb dS_makeNext_32 rfl (lv_at hl 3 rfl) ?_
      refine w_iald C hk hE 8 (by exact Nat.le_of_ble_eq_true rfl) (n := 24) rfl (by omega) (by first | decide | omega) dS_makeNext_33 ?_
      refine w_top (y := σ 8 t) (by simp [mset, mrow, upd]) ?_
      refine lv_iload_n hx hb dS_makeNext_34 rfl (lv_at hl 2 rfl) ?_
      refine lv_icmp_ne (tgt := 58) hx hb dS_makeNext_35 (by decide) (fun c4 => ?_) (fun c4 => ?_)
      · refine lv_iinc (v := nI (t + 1)) (lv' := [(3, .int (nI (t + 1))), (0, .ref (ad 3)), (1, .int (nI k)), (2, .int x)]) hx hb dS_makeNext_58 hl (k := 3) rfl (by exact nI_1 _) (by decide) rfl (fun ls hl => ?_)
        refine lv_goto (tgt := 12) hx hb dS_makeNext_61 (by decide) ?_
        exact ih (t + 1) (by omega) (by omega) _ _ ls (wS_eq (show mrow σ (k + 19) (nextR σ k x t) = mrow σ (k + 19) (nextR σ k x (t + 1)) by simp only [nextR, c4, if_true, if_false]) hE) (lv_sub hl [1, 2, 3, 0] rfl)
      · refine lv_aload_n hx hb dS_makeNext_38 rfl (lv_at hl 0 rfl) ?_
        refine w_get C hk hE (K := R_S) (T := F_S) (N := 3) (ci := 2) in_S 3 (Nat.le_of_ble_eq_true rfl) rfl rfl 1 (by decide) tw_107 rfl rfl dS_makeNext_39 ?_
        refine lv_iload_n hx hb dS_makeNext_42 rfl (lv_at hl 1 rfl) ?_
        refine w_aald C hk hE 11 (Nat.le_of_ble_eq_true rfl) (n := 9) (b := ad (k + 19)) rfl (by omega) (by decide) rfl dS_makeNext_43 ?_
        refine lv_iload_n hx hb dS_makeNext_44 rfl (lv_at hl 3 rfl) ?_
        refine lv_iconst (v := nI 1) hx hb dS_makeNext_45 (by decide) ?_
        refine lv_iadd hx hb dS_makeNext_46 ?_
        refine w_top (y := nI (t + 1)) (by first | exact nI_add _ _ | simp only [nI_add, Nat.add_assoc, Nat.add_zero, Nat.zero_add]) ?_
        refine lv_aload_n hx hb dS_makeNext_47 rfl (lv_at hl 0 rfl) ?_
        refine w_get C hk hE (K := R_S) (T := F_S) (N := 3) (ci := 2) in_S 3 (Nat.le_of_ble_eq_true rfl) rfl rfl 1 (by decide) tw_107 rfl rfl dS_makeNext_48 ?_
        refine lv_iload_n hx hb dS_makeNext_51 rfl (lv_at hl 1 rfl) ?_
        refine lv_iconst (v := nI 1) hx hb dS_makeNext_52 (by decide) ?_
        refine lv_isub hx hb dS_makeNext_53 ?_
        refine w_top (y := nI (k - 1)) (w_sub (by omega) (by omega)) ?_
        refine w_aald C hk hE 11 (Nat.le_of_ble_eq_true rfl) (n := 9) (b := ad ((k - 1) + 19)) rfl (by omega) (by decide) rfl dS_makeNext_54 ?_
        refine lv_iload_n hx hb dS_makeNext_55 rfl (lv_at hl 3 rfl) ?_
        refine w_iald C hk hE ((k - 1) + 19) (by show _ < 58; omega) (n := 24) (cE_o (ad := ad) (by omega)) (by omega) (by first | decide | omega) dS_makeNext_56 ?_
        refine w_top (y := σ ((k - 1) + 19) t) (by rw [mrow_n (by omega)]) ?_
        refine w_iast C hk hE (k + 19) (by show _ < 58; omega) (n := 24) (fun _ => cE_o (ad := ad) (by omega)) (by omega) (by first | decide | omega) dS_makeNext_57 (fun H locs hE => ?_)
        rw [mset_mrow] at hE
        refine lv_iinc (v := nI (t + 1)) (lv' := [(3, .int (nI (t + 1))), (0, .ref (ad 3)), (1, .int (nI k)), (2, .int x)]) hx hb dS_makeNext_58 hl (k := 3) rfl (by exact nI_1 _) (by decide) rfl (fun ls hl => ?_)
        refine lv_goto (tgt := 12) hx hb dS_makeNext_61 (by decide) ?_
        exact ih (t + 1) (by omega) (by omega) _ _ ls (wS_eq (show mrow σ (k + 19) (upd (nextR σ k x t) (t + 1) (σ ((k - 1) + 19) t)) = mrow σ (k + 19) (nextR σ k x (t + 1)) by simp only [nextR, c4, if_true, if_false]) hE) (lv_sub hl [1, 2, 3, 0] rfl)
set_option maxHeartbeats 4000000 in
set_option maxRecDepth 100000 in
theorem c_S_makeNext (l : Launch) (D : va_G) (cs : Nat → ClassId) (ad : Nat → Nat) (σ : Mem) (k P S : Nat) (x : Int32) (hk9 : k < 9) (hk1 : 1 ≤ k) (hg : gS σ P S) : MetV l (wE D cs ad) cs yS_makeNext bS_makeNext 4 3 71 [.ref (ad 3), .int (nI k), .int x] σ (fun τ => τ = closeM k P S 1000 (mrow σ (k + 19) (nextR σ k x (S - 1)))) := by
  refine MetV.start (by decide) (Nat.le_of_ble_eq_true rfl) ?_
  intro p e s m below meth c A ls C hk hA hE hl
  obtain ⟨hx, hb, hml, hown, hts, hr, hlocks⟩ := id C
  have hl : lv_has ls 4 [(0, .ref (ad 3)), (1, .int (nI k)), (2, .int x)] := hl
  have hP8 := hg.1
  have hS24 := hg.2.1
  refine lv_aload_n hx hb dS_makeNext_0 rfl (lv_at hl 0 rfl) ?_
  refine w_get C hk hE (K := R_S) (T := F_S) (N := 3) (ci := 2) in_S 3 (Nat.le_of_ble_eq_true rfl) rfl rfl 1 (by decide) tw_107 rfl rfl dS_makeNext_1 ?_
  refine lv_iload_n hx hb dS_makeNext_4 rfl (lv_at hl 1 rfl) ?_
  refine w_aald C hk hE 11 (Nat.le_of_ble_eq_true rfl) (n := 9) (b := ad (k + 19)) rfl (by omega) (by decide) rfl dS_makeNext_5 ?_
  refine lv_iconst (v := nI 0) hx hb dS_makeNext_6 (by decide) ?_
  refine w_cv hE hA (w_runS C hk hE hl.1 (As := [.ref (ad (k + 19)), .int (nI 0)]) (rest := []) (c_J_fill l D cs ad σ (k + 19) 24 (nI 0) (by omega) (fun _ => cE_o hk9) (by decide) _) tw_161 tw_162 tw_7 tw_163 (n := 2) (by decide +kernel) rfl rfl (Nat.le_of_ble_eq_true rfl) dS_makeNext_7 ⟨Nat.le_of_ble_eq_true rfl, Nat.le_of_ble_eq_true rfl⟩ ⟨Nat.zero_le _, Nat.zero_le _⟩) (fun τ2 H locs hp hE _ _ => ?_)
  have hE := wS_eq hp hE
  refine lv_iconst (v := nI 0) hx hb dS_makeNext_10 (by decide) ?_
  refine lv_istore_n (lv' := [(3, .int (nI 0)), (0, .ref (ad 3)), (1, .int (nI k)), (2, .int x)]) hx hb dS_makeNext_11 rfl hl (by decide) rfl (fun ls hl => ?_)
  exact lp_S_makeNext C hk hA hk9 hk1 hg _ 0 (Nat.lt_succ_self _) (Nat.zero_le _) _ _ ls (wS_eq (show mrow σ (k + 19) (fillR (σ (k + 19)) (nI 0) 24) = mrow σ (k + 19) (nextR σ k x 0) by rfl) hE) (lv_sub hl [1, 2, 3, 0] rfl)
set_option maxHeartbeats 4000000 in
set_option maxRecDepth 100000 in
theorem c_S_makeFirst (l : Launch) (D : va_G) (cs : Nat → ClassId) (ad : Nat → Nat) (σ : Mem) (P S : Nat) (hg : gS σ P S) : MetV l (wE D cs ad) cs yS_makeFirst bS_makeFirst 1 3 71 [.ref (ad 3)] σ (fun τ => τ = if P = 0 then mrow σ (0 + 19) (fillR (σ (0 + 19)) (nI 0) 24) else closeM 0 P S 1000 (mrow σ (0 + 19) (predR (σ 6) (gf σ) 0 (σ 6 0) (fillR (σ (0 + 19)) (nI 0) 24) P))) := by
  refine MetV.start (by decide) (Nat.le_of_ble_eq_true rfl) ?_
  intro p e s m below meth c A ls C hk hA hE hl
  obtain ⟨hx, hb, hml, hown, hts, hr, hlocks⟩ := id C
  have hl : lv_has ls 1 [(0, .ref (ad 3))] := hl
  have hP8 := hg.1
  have hS24 := hg.2.1
  refine lv_aload_n hx hb dS_makeFirst_0 rfl (lv_at hl 0 rfl) ?_
  refine w_get C hk hE (K := R_S) (T := F_S) (N := 3) (ci := 2) in_S 3 (Nat.le_of_ble_eq_true rfl) rfl rfl 1 (by decide) tw_107 rfl rfl dS_makeFirst_1 ?_
  refine lv_iconst (v := nI 0) hx hb dS_makeFirst_4 (by decide) ?_
  refine w_aald C hk hE 11 (Nat.le_of_ble_eq_true rfl) (n := 9) (b := ad (0 + 19)) rfl (by omega) (by decide) rfl dS_makeFirst_5 ?_
  refine lv_iconst (v := nI 0) hx hb dS_makeFirst_6 (by decide) ?_
  refine w_cv hE hA (w_runS C hk hE hl.1 (As := [.ref (ad (0 + 19)), .int (nI 0)]) (rest := []) (c_J_fill l D cs ad σ (0 + 19) 24 (nI 0) (by decide) (fun _ => rfl) (by decide) _) tw_161 tw_162 tw_7 tw_163 (n := 2) (by decide +kernel) rfl rfl (Nat.le_of_ble_eq_true rfl) dS_makeFirst_7 ⟨Nat.le_of_ble_eq_true rfl, Nat.le_of_ble_eq_true rfl⟩ ⟨Nat.zero_le _, Nat.zero_le _⟩) (fun τ2 H locs hp hE _ _ => ?_)
  have hE := wS_eq hp hE
  refine lv_aload_n hx hb dS_makeFirst_10 rfl (lv_at hl 0 rfl) ?_
  refine w_get C hk hE (K := R_S) (T := F_S) (N := 3) (ci := 2) in_S 3 (Nat.le_of_ble_eq_true rfl) rfl rfl 0 (by decide) tw_106 rfl rfl dS_makeFirst_11 ?_
  refine w_get C hk hE (K := R_G) (T := F_G) (N := 6) (ci := 0) in_G 1 (Nat.le_of_ble_eq_true rfl) rfl rfl 4 (by decide) tw_44 rfl rfl dS_makeFirst_14 ?_
  refine w_top (y := σ 1 4) (by simp [mset, mrow, upd]) ?_
  refine w_top (y := nI P) (hg.2.2.1) ?_
  refine lv_if_le (tgt := 37) hx hb dS_makeFirst_17 (by decide) (fun c3 => ?_) (fun c3 => ?_)
  · have c3 := w_le0 (by omega) c3
    exact w_retv C hE (by first | rw [if_pos (by omega)] | rw [if_neg (by omega)]) dS_makeFirst_37
  · have c3 := w_nle0 (by omega) c3
    refine lv_aload_n hx hb dS_makeFirst_20 rfl (lv_at hl 0 rfl) ?_
    refine lv_iconst (v := nI 0) hx hb dS_makeFirst_21 (by decide) ?_
    refine lv_aload_n hx hb dS_makeFirst_22 rfl (lv_at hl 0 rfl) ?_
    refine w_get C hk hE (K := R_S) (T := F_S) (N := 3) (ci := 2) in_S 3 (Nat.le_of_ble_eq_true rfl) rfl rfl 0 (by decide) tw_106 rfl rfl dS_makeFirst_23 ?_
    refine w_ci hE hA (w_runV C hk hE hl.1 (As := []) (rest := [.int (nI 0), .ref (ad 3)]) (q := 1) (c_G_start l D cs ad (mrow σ (0 + 19) (fillR (σ (0 + 19)) (nI 0) 24)) _) (Nat.le_of_ble_eq_true rfl) (ci := 0) (N := 6) (T := F_G) rfl rfl tw_164 tw_165 tw_166 tw_2 tw_167 (n := 0) (by decide +kernel) rfl rfl (Nat.le_of_ble_eq_true rfl) dS_makeFirst_26 ⟨Nat.le_of_ble_eq_true rfl, Nat.le_of_ble_eq_true rfl⟩ ⟨Nat.zero_le _, Nat.zero_le _⟩) (fun r4 τ5 H locs hp hE _ _ => ?_)
    refine w_top (y := σ 6 0) (hp.1.trans (congrFun (mrow_n (by decide)) _)) ?_
    have hE := wS_eq hp.2 hE
    refine w_cv hE hA (w_runV C hk hE hl.1 (As := [.int (nI 0), .int (σ 6 0)]) (rest := []) (q := 3) (c_S_predict l D cs ad (mrow σ (0 + 19) (fillR (σ (0 + 19)) (nI 0) 24)) 0 P S (σ 6 0) (by decide) (gS_mrow hg (by decide)) _) (Nat.le_of_ble_eq_true rfl) (ci := 2) (N := 3) (T := F_S) rfl rfl tw_168 tw_170 ts_1 tw_5 tw_171 (n := 2) (by decide +kernel) rfl rfl (Nat.le_of_ble_eq_true rfl) dS_makeFirst_29 ⟨Nat.le_of_ble_eq_true rfl, Nat.le_of_ble_eq_true rfl⟩ ⟨Nat.zero_le _, Nat.zero_le _⟩) (fun τ7 H locs hp hE _ _ => ?_)
    have hE := wS_eq (hp.trans (by rw [mrow_mrow, mrow_s, mrow_n (by decide), show gf (mrow σ (0 + 19) (fillR (σ (0 + 19)) (nI 0) 24)) = gf σ by funext z; unfold gf; rw [mrow_n (by decide)]])) hE
    refine lv_aload_n hx hb dS_makeFirst_32 rfl (lv_at hl 0 rfl) ?_
    refine lv_iconst (v := nI 0) hx hb dS_makeFirst_33 (by decide) ?_
    refine w_cv hE hA (w_runV C hk hE hl.1 (As := [.int (nI 0)]) (rest := []) (q := 3) (c_S_close l D cs ad (mrow σ (0 + 19) (predR (σ 6) (gf σ) 0 (σ 6 0) (fillR (σ (0 + 19)) (nI 0) 24) P)) 0 P S (by decide) (gS_mrow hg (by decide)) _) (Nat.le_of_ble_eq_true rfl) (ci := 2) (N := 3) (T := F_S) rfl rfl tw_172 tw_174 ts_2 tw_5 tw_175 (n := 1) (by decide +kernel) rfl rfl (Nat.le_of_ble_eq_true rfl) dS_makeFirst_34 ⟨Nat.le_of_ble_eq_true rfl, Nat.le_of_ble_eq_true rfl⟩ ⟨Nat.zero_le _, Nat.zero_le _⟩) (fun τ9 H locs hp hE _ _ => ?_)
    have hE := wS_eq hp hE
    exact w_retv C hE (by first | rw [if_pos (by omega)] | rw [if_neg (by omega)]) dS_makeFirst_37
set_option maxHeartbeats 4000000 in
set_option maxRecDepth 100000 in
theorem lp_S_hold {p : Program} {l : Launch} {e : Env} {s : State} {m : MethodId} {below : List Frame} {meth : Method} {c : Code} {D : va_G} {cs : Nat → ClassId} {ad : Nat → Nat} {A : Nat → Prop} {σ : Mem} {k P S : Nat} (C : bC p s m ([.ref (ad 3), .int (nI k)] : List Value).toArray meth c bS_holdWholeStart 3 "EarleyChart$ItemSets" (some .boolean)) (hk : wk D cs s) (hA : ∀ q : Nat, s.heap.size ≤ q → A q) (hk9 : k < 9) (hg : gS σ P S)   :
    ∀ (n : Nat) (t : Nat), (S - t) < n → (t ≤ S) → (holdF σ (σ (k + 19)) t = false) → ∀ (H : Heap) (locs : List Loc) (ls : Array Slot), wS (wE D cs ad) A s.heap σ H locs → lv_has ls 3 [(0, .ref (ad 3)), (1, .int (nI k)), (2, .int (nI t))] → W p l e (rmF 1 21) s m ([.ref (ad 3), .int (nI k)] : List Value).toArray below meth c H locs 0 0 (wQi (wE D cs ad) A (fun r τ => r = zb (holdF σ (σ (k + 19)) S) ∧ τ = σ) s below ([.ref (ad 3), .int (nI k)] : List Value).toArray) (F0 m 2 ls []) := by
  obtain ⟨hx, hb, hml, hown, hts, hr, hlocks⟩ := id C
  have hP8 := hg.1
  have hS24 := hg.2.1
  intro n
  induction n with
  | zero => intro t h; exact absurd h (Nat.not_lt_zero _)
  | succ n ih =>
    intro t hn hi hF H locs ls hE hl
    refine lv_iload_n hx hb dS_holdWholeStart_2 rfl (lv_at hl 2 rfl) ?_
    refine lv_aload_n hx hb dS_holdWholeStart_3 rfl (lv_at hl 0 rfl) ?_
    refine w_get C hk hE (K := R_S) (T := F_S) (N := 3) (ci := 2) in_S 3 (Nat.le_of_ble_eq_true rfl) rfl rfl 0 (by decide) tw_106 rfl rfl dS_holdWholeStart_4 ?_
    refine w_get C hk hE (K := R_G) (T := F_G) (N := 6) (ci := 0) in_G 1 (Nat.le_of_ble_eq_true rfl) rfl rfl 5 (by decide) tw_48 rfl rfl dS_holdWholeStart_7 ?_
    refine w_top (y := nI S) (hg.2.2.2.1) ?_
    refine lv_icmp_ge (tgt := 65) hx hb dS_holdWholeStart_10 (by decide) (fun c1 => ?_) (fun c1 => ?_)
    · have c1 : S ≤ t := (nI_leI (by omega) (by omega)).mp c1
      refine lv_iconst (v := nI 0) hx hb dS_holdWholeStart_65 (by decide) ?_
      exact w_retz C hE (Or.inl rfl) (⟨by rw [show S = t by omega, hF]; rfl, rfl⟩) dS_holdWholeStart_66
    · have c1 : ¬ (S ≤ t) := fun h => c1 ((nI_leI (by omega) (by omega)).mpr h)
      obtain ⟨h9, h9b, h9c⟩ := hg.2.2.2.2.2.1 t (by omega)
      refine lv_aload_n hx hb dS_holdWholeStart_13 rfl (lv_at hl 0 rfl) ?_
      refine w_get C hk hE (K := R_S) (T := F_S) (N := 3) (ci := 2) in_S 3 (Nat.le_of_ble_eq_true rfl) rfl rfl 0 (by decide) tw_106 rfl rfl dS_holdWholeStart_14 ?_
      refine w_get C hk hE (K := R_G) (T := F_G) (N := 6) (ci := 0) in_G 1 (Nat.le_of_ble_eq_true rfl) rfl rfl 2 (by decide) tw_38 rfl rfl dS_holdWholeStart_17 ?_
      refine lv_iload_n hx hb dS_holdWholeStart_20 rfl (lv_at hl 2 rfl) ?_
      refine w_iald C hk hE 8 (by exact Nat.le_of_ble_eq_true rfl) (n := 24) rfl (by omega) (by first | decide | omega) dS_holdWholeStart_21 ?_
      refine lv_iconst (v := (-1)) hx hb dS_holdWholeStart_22 (by decide) ?_
      refine lv_icmp_ne (tgt := 59) hx hb dS_holdWholeStart_23 (by decide) (fun c2 => ?_) (fun c2 => ?_)
      · refine lv_iinc (v := nI (t + 1)) (lv' := [(2, .int (nI (t + 1))), (0, .ref (ad 3)), (1, .int (nI k))]) hx hb dS_holdWholeStart_59 hl (k := 2) rfl (by exact nI_1 _) (by decide) rfl (fun ls hl => ?_)
        refine lv_goto (tgt := 2) hx hb dS_holdWholeStart_62 (by decide) ?_
        exact ih (t + 1) (by omega) (by omega) (by rw [holdF, hF]; simp [holdB, *]) _ _ ls hE (lv_sub hl [1, 2, 0] rfl)
      · refine lv_aload_n hx hb dS_holdWholeStart_26 rfl (lv_at hl 0 rfl) ?_
        refine w_get C hk hE (K := R_S) (T := F_S) (N := 3) (ci := 2) in_S 3 (Nat.le_of_ble_eq_true rfl) rfl rfl 0 (by decide) tw_106 rfl rfl dS_holdWholeStart_27 ?_
        refine lv_iload_n hx hb dS_holdWholeStart_30 rfl (lv_at hl 2 rfl) ?_
        refine w_ci hE hA (w_runV C hk hE hl.1 (As := [.int (nI t)]) (rest := []) (q := 1) (c_G_leftSideAt l D cs ad σ t (gp σ t) (by omega) h9 (by omega) _) (Nat.le_of_ble_eq_true rfl) (ci := 0) (N := 6) (T := F_G) rfl rfl tw_190 tw_191 tw_192 tw_2 tw_193 (n := 1) (by decide +kernel) rfl rfl (Nat.le_of_ble_eq_true rfl) dS_holdWholeStart_31 ⟨Nat.le_of_ble_eq_true rfl, Nat.le_of_ble_eq_true rfl⟩ ⟨Nat.zero_le _, Nat.zero_le _⟩) (fun r3 τ4 H locs hp hE _ _ => ?_)
        refine w_top hp.1 ?_
        have hE := wS_eq hp.2 hE
        refine lv_aload_n hx hb dS_holdWholeStart_34 rfl (lv_at hl 0 rfl) ?_
        refine w_get C hk hE (K := R_S) (T := F_S) (N := 3) (ci := 2) in_S 3 (Nat.le_of_ble_eq_true rfl) rfl rfl 0 (by decide) tw_106 rfl rfl dS_holdWholeStart_35 ?_
        refine w_ci hE hA (w_runV C hk hE hl.1 (As := []) (rest := [.int (σ 6 (gp σ t))]) (q := 1) (c_G_start l D cs ad σ _) (Nat.le_of_ble_eq_true rfl) (ci := 0) (N := 6) (T := F_G) rfl rfl tw_164 tw_165 tw_166 tw_2 tw_167 (n := 0) (by decide +kernel) rfl rfl (Nat.le_of_ble_eq_true rfl) dS_holdWholeStart_38 ⟨Nat.le_of_ble_eq_true rfl, Nat.le_of_ble_eq_true rfl⟩ ⟨Nat.zero_le _, Nat.zero_le _⟩) (fun r5 τ6 H locs hp hE _ _ => ?_)
        refine w_top hp.1 ?_
        have hE := wS_eq hp.2 hE
        refine lv_icmp_ne (tgt := 59) hx hb dS_holdWholeStart_41 (by decide) (fun c7 => ?_) (fun c7 => ?_)
        · refine lv_iinc (v := nI (t + 1)) (lv' := [(2, .int (nI (t + 1))), (0, .ref (ad 3)), (1, .int (nI k))]) hx hb dS_holdWholeStart_59 hl (k := 2) rfl (by exact nI_1 _) (by decide) rfl (fun ls hl => ?_)
          refine lv_goto (tgt := 2) hx hb dS_holdWholeStart_62 (by decide) ?_
          exact ih (t + 1) (by omega) (by omega) (by rw [holdF, hF]; simp [holdB, *]) _ _ ls hE (lv_sub hl [1, 2, 0] rfl)
        · refine lv_aload_n hx hb dS_holdWholeStart_44 rfl (lv_at hl 0 rfl) ?_
          refine w_get C hk hE (K := R_S) (T := F_S) (N := 3) (ci := 2) in_S 3 (Nat.le_of_ble_eq_true rfl) rfl rfl 1 (by decide) tw_107 rfl rfl dS_holdWholeStart_45 ?_
          refine lv_iload_n hx hb dS_holdWholeStart_48 rfl (lv_at hl 1 rfl) ?_
          refine w_aald C hk hE 11 (Nat.le_of_ble_eq_true rfl) (n := 9) (b := ad (k + 19)) rfl (by omega) (by decide) rfl dS_holdWholeStart_49 ?_
          refine lv_iload_n hx hb dS_holdWholeStart_50 rfl (lv_at hl 2 rfl) ?_
          refine w_iald C hk hE (k + 19) (by show _ < 58; omega) (n := 24) (cE_o (ad := ad) (by omega)) (by omega) (by first | decide | omega) dS_holdWholeStart_51 ?_
          refine lv_iconst (v := nI 1) hx hb dS_holdWholeStart_52 (by decide) ?_
          refine lv_iand hx hb dS_holdWholeStart_53 ?_
          refine lv_if_eq (tgt := 59) hx hb dS_holdWholeStart_54 (by decide) (fun c8 => ?_) (fun c8 => ?_)
          · refine lv_iinc (v := nI (t + 1)) (lv' := [(2, .int (nI (t + 1))), (0, .ref (ad 3)), (1, .int (nI k))]) hx hb dS_holdWholeStart_59 hl (k := 2) rfl (by exact nI_1 _) (by decide) rfl (fun ls hl => ?_)
            refine lv_goto (tgt := 2) hx hb dS_holdWholeStart_62 (by decide) ?_
            exact ih (t + 1) (by omega) (by omega) (by rw [holdF, hF]; simp [holdB, *]) _ _ ls hE (lv_sub hl [1, 2, 0] rfl)
          · refine lv_iconst (v := nI 1) hx hb dS_holdWholeStart_57 (by decide) ?_
            exact w_retz C hE (Or.inr rfl) (⟨by rw [holdF_t (t := t) (by simp [holdB, *]) S (by omega)]; rfl, rfl⟩) dS_holdWholeStart_58
set_option maxHeartbeats 4000000 in
set_option maxRecDepth 100000 in
theorem c_S_holdWholeStart (l : Launch) (D : va_G) (cs : Nat → ClassId) (ad : Nat → Nat) (σ : Mem) (k P S : Nat) (hk9 : k < 9) (hg : gS σ P S) : MetI l (wE D cs ad) cs yS_holdWholeStart bS_holdWholeStart 3 (some .boolean) 1 21 [.ref (ad 3), .int (nI k)] σ (fun r τ => r = zb (holdF σ (σ (k + 19)) S) ∧ τ = σ) := by
  refine MetI.start (by decide) (Nat.le_of_ble_eq_true rfl) ?_
  intro p e s m below meth c A ls C hk hA hE hl
  obtain ⟨hx, hb, hml, hown, hts, hr, hlocks⟩ := id C
  have hl : lv_has ls 3 [(0, .ref (ad 3)), (1, .int (nI k))] := hl
  have hP8 := hg.1
  have hS24 := hg.2.1
  refine lv_iconst (v := nI 0) hx hb dS_holdWholeStart_0 (by decide) ?_
  refine lv_istore_n (lv' := [(2, .int (nI 0)), (0, .ref (ad 3)), (1, .int (nI k))]) hx hb dS_holdWholeStart_1 rfl hl (by decide) rfl (fun ls hl => ?_)
  exact lp_S_hold C hk hA hk9 hg _ 0 (Nat.lt_succ_self _) (Nat.zero_le _) (rfl) _ _ ls hE (lv_sub hl [1, 2, 0] rfl)
set_option maxHeartbeats 4000000 in
set_option maxRecDepth 100000 in
theorem lp_S_originAt {p : Program} {l : Launch} {e : Env} {s : State} {m : MethodId} {below : List Frame} {meth : Method} {c : Code} {D : va_G} {cs : Nat → ClassId} {ad : Nat → Nat} {A : Nat → Prop} {σ : Mem} {x b : Int32} (C : bC p s m ([.int x, .int b] : List Value).toArray meth c bS_originAt 4 "EarleyChart$ItemSets" (some .int)) (hk : wk D cs s) (hA : ∀ q : Nat, s.heap.size ≤ q → A q)    :
    ∀ (n : Nat) (o : Nat) (a : Int32), (9 - o) < n → (o ≤ 9) → (orgAt x (9 - o) o a = orgAt x 9 0 b) → ∀ (H : Heap) (locs : List Loc) (ls : Array Slot), wS (wE D cs ad) A s.heap σ H locs → lv_has ls 4 [(0, .int x), (1, .int b), (2, .int a), (3, .int (nI o))] → W p l e (rmF 0 0) s m ([.int x, .int b] : List Value).toArray below meth c H locs 0 0 (wQi (wE D cs ad) A (fun r τ => r = orgAt x 9 0 b ∧ τ = σ) s below ([.int x, .int b] : List Value).toArray) (F0 m 4 ls []) := by
  obtain ⟨hx, hb, hml, hown, hts, hr, hlocks⟩ := id C
  intro n
  induction n with
  | zero => intro o a h; exact absurd h (Nat.not_lt_zero _)
  | succ n ih =>
    intro o a hn ho hB H locs ls hE hl
    refine lv_iload_n hx hb dS_originAt_4 rfl (lv_at hl 3 rfl) ?_
    refine lv_bipush (v := nI 9) hx hb dS_originAt_5 (by decide) ?_
    refine lv_icmp_ge (tgt := 33) hx hb dS_originAt_7 (by decide) (fun c1 => ?_) (fun c1 => ?_)
    · have c1 : 9 ≤ o := (nI_leI (by omega) (by omega)).mp c1
      refine lv_iconst (v := nI 0) hx hb dS_originAt_33 (by decide) ?_
      exact w_reti C hE (⟨by rw [← hB, show 9 - o = 0 by omega]; rfl, rfl⟩) dS_originAt_34
    · have c1 : ¬ (9 ≤ o) := fun h => c1 ((nI_leI (by omega) (by omega)).mpr h)
      refine lv_iload_n hx hb dS_originAt_10 rfl (lv_at hl 0 rfl) ?_
      refine lv_iload_n hx hb dS_originAt_11 rfl (lv_at hl 3 rfl) ?_
      refine lv_ishr hx hb dS_originAt_12 ?_
      refine lv_iconst (v := nI 1) hx hb dS_originAt_13 (by decide) ?_
      refine lv_iand hx hb dS_originAt_14 ?_
      refine lv_if_eq (tgt := 27) hx hb dS_originAt_15 (by decide) (fun c2 => ?_) (fun c2 => ?_)
      · refine lv_iinc (v := nI (o + 1)) (lv' := [(3, .int (nI (o + 1))), (0, .int x), (1, .int b), (2, .int a)]) hx hb dS_originAt_27 hl (k := 3) rfl (by exact nI_1 _) (by decide) rfl (fun ls hl => ?_)
        refine lv_goto (tgt := 4) hx hb dS_originAt_30 (by decide) ?_
        exact ih (o + 1) a (by omega) (by omega) (by rw [← hB, show 9 - o = (9 - (o + 1)) + 1 by omega, orgAt]; simp only [bitJ, *, if_true, if_false]) _ _ ls hE (lv_sub hl [1, 2, 3, 0] rfl)
      · refine lv_iload_n hx hb dS_originAt_18 rfl (lv_at hl 2 rfl) ?_
        refine lv_if_ne (tgt := 24) hx hb dS_originAt_19 (by decide) (fun c3 => ?_) (fun c3 => ?_)
        · refine lv_iinc (v := a + (-1)) (lv' := [(2, .int (a + (-1))), (0, .int x), (1, .int b), (3, .int (nI o))]) hx hb dS_originAt_24 hl (k := 2) rfl (rfl) (by decide) rfl (fun ls hl => ?_)
          refine lv_iinc (v := nI (o + 1)) (lv' := [(3, .int (nI (o + 1))), (2, .int (a + (-1))), (0, .int x), (1, .int b)]) hx hb dS_originAt_27 hl (k := 3) rfl (by exact nI_1 _) (by decide) rfl (fun ls hl => ?_)
          refine lv_goto (tgt := 4) hx hb dS_originAt_30 (by decide) ?_
          exact ih (o + 1) (a + (-1)) (by omega) (by omega) (by rw [← hB, show 9 - o = (9 - (o + 1)) + 1 by omega, orgAt]; simp only [bitJ, *, if_true, if_false]) _ _ ls hE (lv_sub hl [2, 3, 1, 0] rfl)
        · refine lv_iload_n hx hb dS_originAt_22 rfl (lv_at hl 3 rfl) ?_
          exact w_reti C hE (⟨by rw [← hB, show 9 - o = (9 - (o + 1)) + 1 by omega, orgAt, if_neg (by simpa [bitJ] using c2), if_pos c3], rfl⟩) dS_originAt_23
set_option maxHeartbeats 4000000 in
set_option maxRecDepth 100000 in
theorem c_S_originAt (l : Launch) (D : va_G) (cs : Nat → ClassId) (ad : Nat → Nat) (σ : Mem) (x b : Int32)  : MetI l (wE D cs ad) cs yS_originAt bS_originAt 4 (some .int) 0 0 [.int x, .int b] σ (fun r τ => r = orgAt x 9 0 b ∧ τ = σ) := by
  refine MetI.start (by decide) (Nat.le_of_ble_eq_true rfl) ?_
  intro p e s m below meth c A ls C hk hA hE hl
  obtain ⟨hx, hb, hml, hown, hts, hr, hlocks⟩ := id C
  have hl : lv_has ls 4 [(0, .int x), (1, .int b)] := hl
  refine lv_iload_n hx hb dS_originAt_0 rfl (lv_at hl 1 rfl) ?_
  refine lv_istore_n (lv' := [(2, .int b), (0, .int x), (1, .int b)]) hx hb dS_originAt_1 rfl hl (by decide) rfl (fun ls hl => ?_)
  refine lv_iconst (v := nI 0) hx hb dS_originAt_2 (by decide) ?_
  refine lv_istore_n (lv' := [(3, .int (nI 0)), (2, .int b), (0, .int x), (1, .int b)]) hx hb dS_originAt_3 rfl hl (by decide) rfl (fun ls hl => ?_)
  exact lp_S_originAt C hk hA  _ 0 b (Nat.lt_succ_self _) (by decide) (rfl) _ _ ls hE (lv_sub hl [2, 3, 1, 0] rfl)
set_option maxHeartbeats 4000000 in
set_option maxRecDepth 100000 in
theorem lp_S_codeOf {p : Program} {l : Launch} {e : Env} {s : State} {m : MethodId} {below : List Frame} {meth : Method} {c : Code} {D : va_G} {cs : Nat → ClassId} {ad : Nat → Nat} {A : Nat → Prop} {σ : Mem} {k P S : Nat} {b : Int32} (C : bC p s m ([.ref (ad 3), .int (nI k), .int b] : List Value).toArray meth c bS_codeOf 6 "EarleyChart$ItemSets" (some .int)) (hk : wk D cs s) (hA : ∀ q : Nat, s.heap.size ≤ q → A q) (hk9 : k < 9) (hg : gS σ P S)   :
    ∀ (n : Nat) (t : Nat) (a : Int32), (S - t) < n → (t ≤ S) → (codeF σ (σ (k + 19)) (S - t) t a = codeF σ (σ (k + 19)) S 0 b) → ∀ (H : Heap) (locs : List Loc) (ls : Array Slot), wS (wE D cs ad) A s.heap σ H locs → lv_has ls 6 [(0, .ref (ad 3)), (1, .int (nI k)), (2, .int b), (3, .int a), (4, .int (nI t))] → W p l e (rmF 1 23) s m ([.ref (ad 3), .int (nI k), .int b] : List Value).toArray below meth c H locs 0 0 (wQi (wE D cs ad) A (fun r τ => r = codeF σ (σ (k + 19)) S 0 b ∧ τ = σ) s below ([.ref (ad 3), .int (nI k), .int b] : List Value).toArray) (F0 m 5 ls []) := by
  obtain ⟨hx, hb, hml, hown, hts, hr, hlocks⟩ := id C
  have hP8 := hg.1
  have hS24 := hg.2.1
  intro n
  induction n with
  | zero => intro t a h; exact absurd h (Nat.not_lt_zero _)
  | succ n ih =>
    intro t a hn hi hB H locs ls hE hl
    refine lv_iload hx hb dS_codeOf_5 (lv_at hl 4 rfl) ?_
    refine lv_aload_n hx hb dS_codeOf_7 rfl (lv_at hl 0 rfl) ?_
    refine w_get C hk hE (K := R_S) (T := F_S) (N := 3) (ci := 2) in_S 3 (Nat.le_of_ble_eq_true rfl) rfl rfl 0 (by decide) tw_106 rfl rfl dS_codeOf_8 ?_
    refine w_get C hk hE (K := R_G) (T := F_G) (N := 6) (ci := 0) in_G 1 (Nat.le_of_ble_eq_true rfl) rfl rfl 5 (by decide) tw_48 rfl rfl dS_codeOf_11 ?_
    refine w_top (y := nI S) (hg.2.2.2.1) ?_
    refine lv_icmp_ge (tgt := 90) hx hb dS_codeOf_14 (by decide) (fun c1 => ?_) (fun c1 => ?_)
    · have c1 : S ≤ t := (nI_leI (by omega) (by omega)).mp c1
      refine lv_iconst (v := nI 0) hx hb dS_codeOf_90 (by decide) ?_
      exact w_reti C hE (⟨by rw [← hB, show S - t = 0 by omega]; rfl, rfl⟩) dS_codeOf_91
    · have c1 : ¬ (S ≤ t) := fun h => c1 ((nI_leI (by omega) (by omega)).mpr h)
      obtain ⟨h9, h9b, h9c⟩ := hg.2.2.2.2.2.1 t (by omega)
      obtain ⟨h6, h6b, h7, h7b⟩ := hg.2.2.2.2.1 (gp σ t) h9b
      refine lv_aload_n hx hb dS_codeOf_17 rfl (lv_at hl 0 rfl) ?_
      refine w_get C hk hE (K := R_S) (T := F_S) (N := 3) (ci := 2) in_S 3 (Nat.le_of_ble_eq_true rfl) rfl rfl 1 (by decide) tw_107 rfl rfl dS_codeOf_18 ?_
      refine lv_iload_n hx hb dS_codeOf_21 rfl (lv_at hl 1 rfl) ?_
      refine w_aald C hk hE 11 (Nat.le_of_ble_eq_true rfl) (n := 9) (b := ad (k + 19)) rfl (by omega) (by decide) rfl dS_codeOf_22 ?_
      refine lv_iload hx hb dS_codeOf_23 (lv_at hl 4 rfl) ?_
      refine w_iald C hk hE (k + 19) (by show _ < 58; omega) (n := 24) (cE_o (ad := ad) (by omega)) (by omega) (by first | decide | omega) dS_codeOf_25 ?_
      refine w_ci hE hA (w_runS C hk hE hl.1 (As := [.int (σ (k + 19) t)]) (rest := []) (c_J_bitCount l D cs ad σ (σ (k + 19) t) _) tw_180 tw_181 tw_8 tw_182 (n := 1) (by decide +kernel) rfl rfl (Nat.le_of_ble_eq_true rfl) dS_codeOf_26 ⟨Nat.le_of_ble_eq_true rfl, Nat.le_of_ble_eq_true rfl⟩ ⟨Nat.zero_le _, Nat.zero_le _⟩) (fun r2 τ3 H locs hp hE _ _ => ?_)
      refine w_top hp.1 ?_
      have hE := wS_eq hp.2 hE
      refine lv_istore (lv' := [(5, .int (popc (σ (k + 19) t))), (0, .ref (ad 3)), (1, .int (nI k)), (2, .int b), (3, .int a), (4, .int (nI t))]) hx hb dS_codeOf_29 hl (by decide) rfl (fun ls hl => ?_)
      refine lv_iload_n hx hb dS_codeOf_31 rfl (lv_at hl 4 rfl) ?_
      refine lv_iload hx hb dS_codeOf_32 (lv_at hl 0 rfl) ?_
      refine lv_icmp_ge (tgt := 79) hx hb dS_codeOf_34 (by decide) (fun c4 => ?_) (fun c4 => ?_)
      · refine lv_iload_n hx hb dS_codeOf_79 rfl (lv_at hl 4 rfl) ?_
        refine lv_iload hx hb dS_codeOf_80 (lv_at hl 0 rfl) ?_
        refine lv_isub hx hb dS_codeOf_82 ?_
        refine lv_istore_n (lv' := [(3, .int (a - (popc (σ (k + 19) t)))), (5, .int (popc (σ (k + 19) t))), (0, .ref (ad 3)), (1, .int (nI k)), (2, .int b), (4, .int (nI t))]) hx hb dS_codeOf_83 rfl hl (by decide) rfl (fun ls hl => ?_)
        refine lv_iinc (v := nI (t + 1)) (lv' := [(4, .int (nI (t + 1))), (3, .int (a - (popc (σ (k + 19) t)))), (5, .int (popc (σ (k + 19) t))), (0, .ref (ad 3)), (1, .int (nI k)), (2, .int b)]) hx hb dS_codeOf_84 hl (k := 5) rfl (by exact nI_1 _) (by decide) rfl (fun ls hl => ?_)
        refine lv_goto (tgt := 5) hx hb dS_codeOf_87 (by decide) ?_
        exact ih (t + 1) (a - (popc (σ (k + 19) t))) (by omega) (by omega) (by rw [← hB, show S - t = (S - (t + 1)) + 1 by omega, codeF, if_neg (Int32.not_lt.mpr c4)]) _ _ ls hE (lv_sub hl [3, 4, 5, 1, 0] rfl)
      · refine lv_sipush (v := nI 1000) hx hb dS_codeOf_37 (by decide) ?_
        refine lv_aload_n hx hb dS_codeOf_40 rfl (lv_at hl 1 rfl) ?_
        refine w_get C hk hE (K := R_S) (T := F_S) (N := 3) (ci := 2) in_S 3 (Nat.le_of_ble_eq_true rfl) rfl rfl 0 (by decide) tw_106 rfl rfl dS_codeOf_41 ?_
        refine w_get C hk hE (K := R_G) (T := F_G) (N := 6) (ci := 0) in_G 1 (Nat.le_of_ble_eq_true rfl) rfl rfl 3 (by decide) tw_42 rfl rfl dS_codeOf_44 ?_
        refine lv_iload hx hb dS_codeOf_47 (lv_at hl 5 rfl) ?_
        refine w_iald C hk hE 9 (by exact Nat.le_of_ble_eq_true rfl) (n := 24) rfl (by omega) (by first | decide | omega) dS_codeOf_49 ?_
        refine lv_imul hx hb dS_codeOf_50 ?_
        refine lv_bipush (v := nI 100) hx hb dS_codeOf_51 (by decide) ?_
        refine lv_aload_n hx hb dS_codeOf_53 rfl (lv_at hl 1 rfl) ?_
        refine w_get C hk hE (K := R_S) (T := F_S) (N := 3) (ci := 2) in_S 3 (Nat.le_of_ble_eq_true rfl) rfl rfl 0 (by decide) tw_106 rfl rfl dS_codeOf_54 ?_
        refine lv_iload hx hb dS_codeOf_57 (lv_at hl 5 rfl) ?_
        refine w_ci hE hA (w_runV C hk hE hl.1 (As := [.int (nI t)]) (rest := [.int (nI 100), .int ((nI 1000) * (σ 9 t))]) (q := 1) (c_G_dotAt l D cs ad σ t (gp σ t) (gf σ (gp σ t)) (by omega) h9 (by omega) h7 h9c _) (Nat.le_of_ble_eq_true rfl) (ci := 0) (N := 6) (T := F_G) rfl rfl tw_555 tw_245 tw_246 tw_2 tw_247 (n := 1) (by decide +kernel) rfl rfl (Nat.le_of_ble_eq_true rfl) dS_codeOf_59 ⟨Nat.le_of_ble_eq_true rfl, Nat.le_of_ble_eq_true rfl⟩ ⟨Nat.zero_le _, Nat.zero_le _⟩) (fun r5 τ6 H locs hp hE _ _ => ?_)
        refine w_top hp.1 ?_
        have hE := wS_eq hp.2 hE
        refine lv_imul hx hb dS_codeOf_62 ?_
        refine lv_iadd hx hb dS_codeOf_63 ?_
        refine lv_aload_n hx hb dS_codeOf_64 rfl (lv_at hl 1 rfl) ?_
        refine w_get C hk hE (K := R_S) (T := F_S) (N := 3) (ci := 2) in_S 3 (Nat.le_of_ble_eq_true rfl) rfl rfl 1 (by decide) tw_107 rfl rfl dS_codeOf_65 ?_
        refine lv_iload_n hx hb dS_codeOf_68 rfl (lv_at hl 2 rfl) ?_
        refine w_aald C hk hE 11 (Nat.le_of_ble_eq_true rfl) (n := 9) (b := ad (k + 19)) rfl (by omega) (by decide) rfl dS_codeOf_69 ?_
        refine lv_iload hx hb dS_codeOf_70 (lv_at hl 5 rfl) ?_
        refine w_iald C hk hE (k + 19) (by show _ < 58; omega) (n := 24) (cE_o (ad := ad) (by omega)) (by omega) (by first | decide | omega) dS_codeOf_72 ?_
        refine lv_iload_n hx hb dS_codeOf_73 rfl (lv_at hl 4 rfl) ?_
        refine w_ci hE hA (w_runS C hk hE hl.1 (As := [.int (σ (k + 19) t), .int a]) (rest := [.int (((nI 1000) * (σ 9 t)) + ((nI 100) * (nI (t - gf σ (gp σ t)))))]) (c_S_originAt l D cs ad σ (σ (k + 19) t) a _) tw_556 tw_557 tw_5 tw_558 (n := 2) (by decide +kernel) rfl rfl (Nat.le_of_ble_eq_true rfl) dS_codeOf_74 ⟨Nat.le_of_ble_eq_true rfl, Nat.le_of_ble_eq_true rfl⟩ ⟨Nat.zero_le _, Nat.zero_le _⟩) (fun r7 τ8 H locs hp hE _ _ => ?_)
        refine w_top hp.1 ?_
        have hE := wS_eq hp.2 hE
        refine lv_iadd hx hb dS_codeOf_77 ?_
        exact w_reti C hE (⟨by rw [← hB, show S - t = (S - (t + 1)) + 1 by omega, codeF, if_pos (Int32.not_le.mp c4)], rfl⟩) dS_codeOf_78
set_option maxHeartbeats 4000000 in
set_option maxRecDepth 100000 in
theorem c_S_codeOf (l : Launch) (D : va_G) (cs : Nat → ClassId) (ad : Nat → Nat) (σ : Mem) (k P S : Nat) (b : Int32) (hk9 : k < 9) (hg : gS σ P S) : MetI l (wE D cs ad) cs yS_codeOf bS_codeOf 6 (some .int) 1 23 [.ref (ad 3), .int (nI k), .int b] σ (fun r τ => r = codeF σ (σ (k + 19)) S 0 b ∧ τ = σ) := by
  refine MetI.start (by decide) (Nat.le_of_ble_eq_true rfl) ?_
  intro p e s m below meth c A ls C hk hA hE hl
  obtain ⟨hx, hb, hml, hown, hts, hr, hlocks⟩ := id C
  have hl : lv_has ls 6 [(0, .ref (ad 3)), (1, .int (nI k)), (2, .int b)] := hl
  have hP8 := hg.1
  have hS24 := hg.2.1
  refine lv_iload_n hx hb dS_codeOf_0 rfl (lv_at hl 2 rfl) ?_
  refine lv_istore_n (lv' := [(3, .int b), (0, .ref (ad 3)), (1, .int (nI k)), (2, .int b)]) hx hb dS_codeOf_1 rfl hl (by decide) rfl (fun ls hl => ?_)
  refine lv_iconst (v := nI 0) hx hb dS_codeOf_2 (by decide) ?_
  refine lv_istore (lv' := [(4, .int (nI 0)), (3, .int b), (0, .ref (ad 3)), (1, .int (nI k)), (2, .int b)]) hx hb dS_codeOf_3 hl (by decide) rfl (fun ls hl => ?_)
  exact lp_S_codeOf C hk hA hk9 hg _ 0 b (Nat.lt_succ_self _) (Nat.zero_le _) (rfl) _ _ ls hE (lv_sub hl [2, 3, 4, 1, 0] rfl)
end
section
theorem isV_of {x : Int32} (h : isV x = true) : x = nI x.toNatClampNeg ∧ x.toNatClampNeg < 6 := by
  have h1 : ¬ x < 0 := fun q => by simp [isV, q] at h
  have h2 : ¬ nI 6 ≤ x := fun q => by simp [isV, q] at h
  obtain ⟨j, hj, rfl⟩ := nI_of h1
  rw [nI_clamp hj]
  exact ⟨rfl, by
    rcases Nat.lt_or_ge j 6 with q | q
    · exact q
    · exact absurd ((nI_leI (by decide) hj).mpr q) h2⟩
theorem mset_34 {σ : Mem} {u i q : Nat} {x : Int32} (h : q < 28) : mset σ (u + 34) i x q = σ q := mrow_n (by omega)
theorem mset_28 {σ : Mem} {u i q : Nat} {x : Int32} (h : q < 28) : mset σ (u + 28) i x q = σ q := mrow_n (by omega)
theorem gS_mset {σ : Mem} {P S q i : Nat} {x : Int32} (h : gS σ P S) (hq : 10 ≤ q) : gS (mset σ q i x) P S := gS_mrow h hq
/-- the steps of a symbol over a stretch, as the table has them; n tokens are fed -/
def symS (σ : Mem) (n : Nat) (x : Int32) (i j : Nat) : Int32 := if isV x = true then σ (x.toNatClampNeg + 28) (i * 9 + j) else if (decide (j = i + 1) && (decide (i < n) && decide (σ 10 i = x))) = true then nI 0 else (-1)
def splitS (σ : Mem) (n S t i m j : Nat) : Int32 := if symS σ n (σ 8 t) i m = (-1) then (-1) else if t + 1 < S then (if σ (t + 1 + 34) (m * 9 + j) = (-1) then (-1) else symS σ n (σ 8 t) i m + σ (t + 1 + 34) (m * 9 + j)) else (-1)
def fewer (x k : Int32) : Bool := decide (k = -1) || decide (x < k)
def leastF (σ : Mem) (n S t i j : Nat) : Nat → Int32
  | 0 => (-1)
  | c + 1 => if splitS σ n S t i (i + c) j = (-1) then leastF σ n S t i j c else if fewer (splitS σ n S t i (i + c) j) (leastF σ n S t i j c) = true then splitS σ n S t i (i + c) j else leastF σ n S t i j c
def leastS (σ : Mem) (n S t i j : Nat) : Int32 := if σ 8 t = (-1) then (if i = j then nI 0 else (-1)) else leastF σ n S t i j (j + 1 - i)
/-- one less than t, as the machine counts down -/
def dn : Nat → Int32
  | 0 => (-1)
  | t + 1 => nI t
theorem dn_lt {t : Nat} (ht : t < 2 ^ 31) (h : dn t < 0) : t = 0 := by
  cases t with
  | zero => rfl
  | succ t => exact absurd h (nI_pos (by omega))
theorem dn_ge {t : Nat} (h : ¬ dn t < 0) : ∃ u, t = u + 1 := by
  cases t with
  | zero => exact absurd (by decide) h
  | succ t => exact ⟨t, rfl⟩
theorem dn_pred (u : Nat) : nI u + (-1) = dn u := by
  cases u with
  | zero => decide
  | succ t => exact pk_m1 t
theorem dn_sub {S : Nat} : nI S - nI 1 = dn S := by
  cases S with
  | zero => decide
  | succ t => exact w_sub (by omega) (by omega)
def low1 (n S i j t : Nat) (μ : Mem) : Mem := mset μ (t + 34) (i * 9 + j) (leastS μ n S t i j)
def lowC (n S i j t : Nat) (μ : Mem) : Bool := decide (t - gf μ (gp μ t) = 0) && (!decide (leastS μ n S t i j = (-1)) && fewer (leastS μ n S t i j + nI 1) (low1 n S i j t μ (gv μ (gp μ t) + 28) (i * 9 + j)))
def lowS (n S i j t : Nat) (μ : Mem) : Mem := if lowC n S i j t μ = true then mset (low1 n S i j t μ) (gv μ (gp μ t) + 28) (i * 9 + j) (leastS μ n S t i j + nI 1) else low1 n S i j t μ
def lowF (n S i j : Nat) : Nat → Bool → Mem → Bool × Mem
  | 0, b, μ => (b, μ)
  | t + 1, b, μ => lowF n S i j t (b || lowC n S i j t μ) (lowS n S i j t μ)
/-- what the table's methods ask of the cells -/
def tS (σ : Mem) (P S n : Nat) : Prop := gS σ P S ∧ n ≤ 8 ∧ σ 2 1 = nI n
theorem tS_of {σ τ : Mem} {P S n : Nat} (h : tS σ P S n) (he : ∀ q, q < 19 → τ q = σ q) : tS τ P S n :=
  ⟨gS_of h.1 (he 1 (by decide)) (he 6 (by decide)) (he 7 (by decide)) (he 8 (by decide)) (he 9 (by decide)), h.2.1, by rw [he 2 (by decide)]; exact h.2.2⟩
theorem low1_lo {n S i j t : Nat} {μ : Mem} {q : Nat} (h : q < 28) : low1 n S i j t μ q = μ q := mset_34 h
theorem lowS_lo {n S i j t : Nat} {μ : Mem} {q : Nat} (h : q < 28) : lowS n S i j t μ q = μ q := by
  unfold lowS
  split
  · rw [mset_28 h, low1_lo h]
  · exact low1_lo h
theorem lowF_lo {n S i j : Nat} : ∀ (t : Nat) (b : Bool) (μ : Mem) {q : Nat}, q < 28 → (lowF n S i j t b μ).2 q = μ q
  | 0, _, _, _, _ => rfl
  | t + 1, b, μ, q, h => by rw [lowF, lowF_lo t _ _ h, lowS_lo h]
def initC (c : Nat) (σ : Mem) : Nat → Mem
  | 0 => σ
  | v + 1 => mset (initC c σ v) (v + 28) c (-1)
theorem initC_lo {c : Nat} {σ : Mem} : ∀ (v : Nat) {q : Nat}, q < 28 → initC c σ v q = σ q
  | 0, _, _ => rfl
  | v + 1, q, h => by rw [initC, mset_28 h, initC_lo v h]
def strF (n S i j : Nat) : Nat → Mem → Mem
  | 0, μ => μ
  | k + 1, μ => if (lowF n S i j S false μ).1 = true then strF n S i j k (lowF n S i j S false μ).2 else (lowF n S i j S false μ).2
theorem strF_lo {n S i j : Nat} : ∀ (k : Nat) (μ : Mem) {q : Nat}, q < 28 → strF n S i j k μ q = μ q
  | 0, _, _, _ => rfl
  | k + 1, μ, q, h => by
    rw [strF]
    split
    · rw [strF_lo k _ h, lowF_lo _ _ _ h]
    · rw [lowF_lo _ _ _ h]
theorem strF_t {n S i j k : Nat} {μ : Mem} (hk : k < 1000) (h : (lowF n S i j S false μ).1 = true) : strF n S i j (1000 - k) μ = strF n S i j (1000 - (k + 1)) (lowF n S i j S false μ).2 := by
  rw [show 1000 - k = (1000 - (k + 1)) + 1 by omega, strF, if_pos h]
theorem strF_f {n S i j k : Nat} {μ : Mem} (hk : k < 1000) (h : (lowF n S i j S false μ).1 = false) : strF n S i j (1000 - k) μ = (lowF n S i j S false μ).2 := by
  rw [show 1000 - k = (1000 - (k + 1)) + 1 by omega, strF, if_neg (by rw [h]; decide)]
def fstr (n S i j : Nat) (σ : Mem) : Mem := strF n S i j 1000 (initC (i * 9 + j) σ 6)
theorem fstr_lo {n S i j : Nat} {σ : Mem} {q : Nat} (h : q < 28) : fstr n S i j σ q = σ q := by rw [fstr, strF_lo _ _ h, initC_lo _ h]
def upF (n S j : Nat) : Nat → Mem → Mem
  | 0, μ => μ
  | i + 1, μ => upF n S j i (fstr n S i j μ)
theorem upF_lo {n S j : Nat} : ∀ (i : Nat) (μ : Mem) {q : Nat}, q < 28 → upF n S j i μ q = μ q
  | 0, _, _, _ => rfl
  | i + 1, μ, q, h => by rw [upF, upF_lo i _ h, fstr_lo h]
end
section
set_option maxHeartbeats 4000000 in
set_option maxRecDepth 100000 in
theorem c_T_ofSymbol (l : Launch) (D : va_G) (cs : Nat → ClassId) (ad : Nat → Nat) (σ : Mem) (P S n9 : Nat) (x : Int32) (i j : Nat) (ht : tS σ P S n9) (hi : i < 9) (hj : j < 9) : MetI l (wE D cs ad) cs yT_ofSymbol bT_ofSymbol 4 (some .int) 1 23 [.ref (ad 4), .int x, .int (nI i), .int (nI j)] σ (fun r τ => r = symS σ n9 x i j ∧ τ = σ) := by
  refine MetI.start (by decide) (Nat.le_of_ble_eq_true rfl) ?_
  intro p e s m below meth c A ls C hk hA hE hl
  obtain ⟨hx, hb, hml, hown, hts, hr, hlocks⟩ := id C
  have hl : lv_has ls 4 [(0, .ref (ad 4)), (1, .int x), (2, .int (nI i)), (3, .int (nI j))] := hl
  have hg := ht.1
  have hn9 := ht.2.1
  have hln := ht.2.2
  have hP8 := hg.1
  have hS24 := hg.2.1
  refine lv_iload_n hx hb dT_ofSymbol_0 rfl (lv_at hl 1 rfl) ?_
  refine w_ci hE hA (w_runSN C hk hE hl.1 (As := [.int x]) (rest := []) (c_E_isVariable l D cs ad σ x _) hk.2.2.1 tw_199 tw_1 tw_200 (n := 1) (by decide +kernel) rfl rfl (Nat.le_of_ble_eq_true rfl) dT_ofSymbol_1 ⟨Nat.le_of_ble_eq_true rfl, Nat.le_of_ble_eq_true rfl⟩ ⟨Nat.zero_le _, Nat.zero_le _⟩) (fun r1 τ2 H locs hp hE _ _ => ?_)
  refine w_top hp.1 ?_
  have hE := wS_eq hp.2 hE
  refine lv_if_eq (tgt := 20) hx hb dT_ofSymbol_4 (by decide) (fun c3 => ?_) (fun c3 => ?_)
  · have c3 := zb_eq0 c3
    refine lv_aload_n hx hb dT_ofSymbol_20 rfl (lv_at hl 0 rfl) ?_
    refine w_get C hk hE (K := R_T) (T := F_T) (N := 4) (ci := 3) in_T 4 (Nat.le_of_ble_eq_true rfl) rfl rfl 1 (by decide) tw_87 rfl rfl dT_ofSymbol_21 ?_
    refine lv_iload_n hx hb dT_ofSymbol_24 rfl (lv_at hl 1 rfl) ?_
    refine lv_iload_n hx hb dT_ofSymbol_25 rfl (lv_at hl 2 rfl) ?_
    refine lv_iload_n hx hb dT_ofSymbol_26 rfl (lv_at hl 3 rfl) ?_
    refine w_ci hE hA (w_runV C hk hE hl.1 (As := [.int x, .int (nI i), .int (nI j)]) (rest := []) (q := 2) (c_I_isJust l D cs ad σ x i j n9 (by omega) (by omega) hn9 hln _) (Nat.le_of_ble_eq_true rfl) (ci := 1) (N := 2) (T := F_I) rfl rfl tw_233 tw_234 tw_235 tw_3 tw_236 (n := 3) (by decide +kernel) rfl rfl (Nat.le_of_ble_eq_true rfl) dT_ofSymbol_27 ⟨Nat.le_of_ble_eq_true rfl, Nat.le_of_ble_eq_true rfl⟩ ⟨Nat.zero_le _, Nat.zero_le _⟩) (fun r4 τ5 H locs hp hE _ _ => ?_)
    refine w_top hp.1 ?_
    have hE := wS_eq hp.2 hE
    refine lv_if_eq (tgt := 37) hx hb dT_ofSymbol_30 (by decide) (fun c6 => ?_) (fun c6 => ?_)
    · have c6 := zb_eq0 c6
      refine lv_iconst (v := (-1)) hx hb dT_ofSymbol_37 (by decide) ?_
      exact w_reti C hE (⟨by rw [symS]; simp only [c3, c6, if_true, if_false, Bool.false_eq_true], rfl⟩) dT_ofSymbol_38
    · have c6 := zb_ne0 c6
      refine lv_iconst (v := nI 0) hx hb dT_ofSymbol_33 (by decide) ?_
      refine lv_goto (tgt := 38) hx hb dT_ofSymbol_34 (by decide) ?_
      exact w_reti C hE (⟨by rw [symS]; simp only [c3, c6, if_true, if_false, Bool.false_eq_true], rfl⟩) dT_ofSymbol_38
  · have c3 := zb_ne0 c3
    obtain ⟨hv1, hv2⟩ := isV_of c3
    refine lv_aload_n hx hb dT_ofSymbol_7 rfl (lv_at hl 0 rfl) ?_
    refine w_get C hk hE (K := R_T) (T := F_T) (N := 4) (ci := 3) in_T 4 (Nat.le_of_ble_eq_true rfl) rfl rfl 2 (by decide) tw_88 rfl rfl dT_ofSymbol_8 ?_
    refine lv_iload_n hx hb dT_ofSymbol_11 rfl (lv_at hl 1 rfl) ?_
    refine w_top (y := nI x.toNatClampNeg) (hv1) ?_
    refine w_aald C hk hE 13 (Nat.le_of_ble_eq_true rfl) (n := 6) (b := ad (x.toNatClampNeg + 28)) rfl (by omega) (by decide) rfl dT_ofSymbol_12 ?_
    refine lv_iload_n hx hb dT_ofSymbol_13 rfl (lv_at hl 2 rfl) ?_
    refine lv_iload_n hx hb dT_ofSymbol_14 rfl (lv_at hl 3 rfl) ?_
    refine w_ci hE hA (w_runS C hk hE hl.1 (As := [.int (nI i), .int (nI j)]) (rest := [.ref (ad (x.toNatClampNeg + 28))]) (c_T_stretch l D cs ad σ i j _) tw_213 tw_214 tw_4 tw_215 (n := 2) (by decide +kernel) rfl rfl (Nat.le_of_ble_eq_true rfl) dT_ofSymbol_15 ⟨Nat.le_of_ble_eq_true rfl, Nat.le_of_ble_eq_true rfl⟩ ⟨Nat.zero_le _, Nat.zero_le _⟩) (fun r7 τ8 H locs hp hE _ _ => ?_)
    refine w_top hp.1 ?_
    have hE := wS_eq hp.2 hE
    refine w_iald C hk hE (x.toNatClampNeg + 28) (by show _ < 58; omega) (n := 81) (cE_v (ad := ad) (k := x.toNatClampNeg)) (by omega) (by first | decide | omega) dT_ofSymbol_18 ?_
    exact w_reti C hE (⟨by rw [symS]; simp only [c3, if_true, if_false, Bool.false_eq_true], rfl⟩) dT_ofSymbol_19
set_option maxHeartbeats 4000000 in
set_option maxRecDepth 100000 in
theorem c_T_ofRow (l : Launch) (D : va_G) (cs : Nat → ClassId) (ad : Nat → Nat) (σ : Mem) (t i j : Nat) (ht : t < 24) (hi : i < 9) (hj : j < 9) : MetI l (wE D cs ad) cs yT_ofRow bT_ofRow 4 (some .int) 1 21 [.ref (ad 4), .int (nI t), .int (nI i), .int (nI j)] σ (fun r τ => r = σ (t + 34) (i * 9 + j) ∧ τ = σ) := by
  refine MetI.start (by decide) (Nat.le_of_ble_eq_true rfl) ?_
  intro p e s m below meth c A ls C hk hA hE hl
  obtain ⟨hx, hb, hml, hown, hts, hr, hlocks⟩ := id C
  have hl : lv_has ls 4 [(0, .ref (ad 4)), (1, .int (nI t)), (2, .int (nI i)), (3, .int (nI j))] := hl
  refine lv_aload_n hx hb dT_ofRow_0 rfl (lv_at hl 0 rfl) ?_
  refine w_get C hk hE (K := R_T) (T := F_T) (N := 4) (ci := 3) in_T 4 (Nat.le_of_ble_eq_true rfl) rfl rfl 3 (by decide) tw_89 rfl rfl dT_ofRow_1 ?_
  refine lv_iload_n hx hb dT_ofRow_4 rfl (lv_at hl 1 rfl) ?_
  refine w_aald C hk hE 14 (Nat.le_of_ble_eq_true rfl) (n := 24) (b := ad (t + 34)) rfl (by omega) (by decide) rfl dT_ofRow_5 ?_
  refine lv_iload_n hx hb dT_ofRow_6 rfl (lv_at hl 2 rfl) ?_
  refine lv_iload_n hx hb dT_ofRow_7 rfl (lv_at hl 3 rfl) ?_
  refine w_ci hE hA (w_runS C hk hE hl.1 (As := [.int (nI i), .int (nI j)]) (rest := [.ref (ad (t + 34))]) (c_T_stretch l D cs ad σ i j _) tw_213 tw_214 tw_4 tw_215 (n := 2) (by decide +kernel) rfl rfl (Nat.le_of_ble_eq_true rfl) dT_ofRow_8 ⟨Nat.le_of_ble_eq_true rfl, Nat.le_of_ble_eq_true rfl⟩ ⟨Nat.zero_le _, Nat.zero_le _⟩) (fun r1 τ2 H locs hp hE _ _ => ?_)
  refine w_top hp.1 ?_
  have hE := wS_eq hp.2 hE
  refine w_iald C hk hE (t + 34) (by show _ < 58; omega) (n := 81) (cE_r (ad := ad) (k := t)) (by omega) (by first | decide | omega) dT_ofRow_11 ?_
  exact w_reti C hE (⟨rfl, rfl⟩) dT_ofRow_12
set_option maxHeartbeats 4000000 in
set_option maxRecDepth 100000 in
theorem c_T_ofSplitRow (l : Launch) (D : va_G) (cs : Nat → ClassId) (ad : Nat → Nat) (σ : Mem) (P S n9 t i k j : Nat) (ht : tS σ P S n9) (htS : t < 24) (hi : i < 9) (hk9 : k < 9) (hj : j < 9) : MetI l (wE D cs ad) cs yT_ofSplitRow bT_ofSplitRow 7 (some .int) 2 46 [.ref (ad 4), .int (nI t), .int (nI i), .int (nI k), .int (nI j)] σ (fun r τ => r = splitS σ n9 S t i k j ∧ τ = σ) := by
  refine MetI.start (by decide) (Nat.le_of_ble_eq_true rfl) ?_
  intro p e s m below meth c A ls C hk hA hE hl
  obtain ⟨hx, hb, hml, hown, hts, hr, hlocks⟩ := id C
  have hl : lv_has ls 7 [(0, .ref (ad 4)), (1, .int (nI t)), (2, .int (nI i)), (3, .int (nI k)), (4, .int (nI j))] := hl
  have hg := ht.1
  have hn9 := ht.2.1
  have hln := ht.2.2
  have hP8 := hg.1
  have hS24 := hg.2.1
  refine lv_aload_n hx hb dT_ofSplitRow_0 rfl (lv_at hl 0 rfl) ?_
  refine lv_aload_n hx hb dT_ofSplitRow_1 rfl (lv_at hl 0 rfl) ?_
  refine w_get C hk hE (K := R_T) (T := F_T) (N := 4) (ci := 3) in_T 4 (Nat.le_of_ble_eq_true rfl) rfl rfl 0 (by decide) tw_86 rfl rfl dT_ofSplitRow_2 ?_
  refine w_get C hk hE (K := R_G) (T := F_G) (N := 6) (ci := 0) in_G 1 (Nat.le_of_ble_eq_true rfl) rfl rfl 2 (by decide) tw_39 rfl rfl dT_ofSplitRow_5 ?_
  refine lv_iload_n hx hb dT_ofSplitRow_8 rfl (lv_at hl 1 rfl) ?_
  refine w_iald C hk hE 8 (by exact Nat.le_of_ble_eq_true rfl) (n := 24) rfl (by omega) (by first | decide | omega) dT_ofSplitRow_9 ?_
  refine lv_iload_n hx hb dT_ofSplitRow_10 rfl (lv_at hl 2 rfl) ?_
  refine lv_iload_n hx hb dT_ofSplitRow_11 rfl (lv_at hl 3 rfl) ?_
  refine w_ci hE hA (w_runV C hk hE hl.1 (As := [.int (σ 8 t), .int (nI i), .int (nI k)]) (rest := []) (q := 4) (c_T_ofSymbol l D cs ad σ P S n9 (σ 8 t) i k ht hi hk9 _) (Nat.le_of_ble_eq_true rfl) (ci := 3) (N := 4) (T := F_T) rfl rfl tw_228 tw_229 tw_230 tw_4 tw_231 (n := 3) (by decide +kernel) rfl rfl (Nat.le_of_ble_eq_true rfl) dT_ofSplitRow_12 ⟨Nat.le_of_ble_eq_true rfl, Nat.le_of_ble_eq_true rfl⟩ ⟨Nat.zero_le _, Nat.zero_le _⟩) (fun r1 τ2 H locs hp hE _ _ => ?_)
  refine w_top hp.1 ?_
  have hE := wS_eq hp.2 hE
  refine lv_istore (lv' := [(5, .int (symS σ n9 (σ 8 t) i k)), (0, .ref (ad 4)), (1, .int (nI t)), (2, .int (nI i)), (3, .int (nI k)), (4, .int (nI j))]) hx hb dT_ofSplitRow_15 hl (by decide) rfl (fun ls hl => ?_)
  refine lv_iload hx hb dT_ofSplitRow_17 (lv_at hl 0 rfl) ?_
  refine lv_iconst (v := (-1)) hx hb dT_ofSplitRow_19 (by decide) ?_
  refine lv_icmp_eq (tgt := 36) hx hb dT_ofSplitRow_20 (by decide) (fun c3 => ?_) (fun c3 => ?_)
  · refine lv_iconst (v := (-1)) hx hb dT_ofSplitRow_36 (by decide) ?_
    exact w_reti C hE (⟨by rw [splitS]; simp only [c3, if_true, if_false, ite_self], rfl⟩) dT_ofSplitRow_37
  · refine lv_iload_n hx hb dT_ofSplitRow_23 rfl (lv_at hl 2 rfl) ?_
    refine lv_iconst (v := nI 1) hx hb dT_ofSplitRow_24 (by decide) ?_
    refine lv_iadd hx hb dT_ofSplitRow_25 ?_
    refine w_top (y := nI (t + 1)) (by first | exact nI_add _ _ | simp only [nI_add, Nat.add_assoc, Nat.add_zero, Nat.zero_add]) ?_
    refine lv_aload_n hx hb dT_ofSplitRow_26 rfl (lv_at hl 1 rfl) ?_
    refine w_get C hk hE (K := R_T) (T := F_T) (N := 4) (ci := 3) in_T 4 (Nat.le_of_ble_eq_true rfl) rfl rfl 0 (by decide) tw_86 rfl rfl dT_ofSplitRow_27 ?_
    refine w_get C hk hE (K := R_G) (T := F_G) (N := 6) (ci := 0) in_G 1 (Nat.le_of_ble_eq_true rfl) rfl rfl 5 (by decide) tw_49 rfl rfl dT_ofSplitRow_30 ?_
    refine w_top (y := nI S) (hg.2.2.2.1) ?_
    refine lv_icmp_lt (tgt := 38) hx hb dT_ofSplitRow_33 (by decide) (fun c4 => ?_) (fun c4 => ?_)
    · have c4 : (t + 1) < S := (nI_ltI (by omega) (by omega)).mp c4
      refine lv_aload_n hx hb dT_ofSplitRow_38 rfl (lv_at hl 1 rfl) ?_
      refine lv_iload_n hx hb dT_ofSplitRow_39 rfl (lv_at hl 2 rfl) ?_
      refine lv_iconst (v := nI 1) hx hb dT_ofSplitRow_40 (by decide) ?_
      refine lv_iadd hx hb dT_ofSplitRow_41 ?_
      refine w_top (y := nI (t + 1)) (by first | exact nI_add _ _ | simp only [nI_add, Nat.add_assoc, Nat.add_zero, Nat.zero_add]) ?_
      refine lv_iload_n hx hb dT_ofSplitRow_42 rfl (lv_at hl 4 rfl) ?_
      refine lv_iload hx hb dT_ofSplitRow_43 (lv_at hl 5 rfl) ?_
      refine w_ci hE hA (w_runV C hk hE hl.1 (As := [.int (nI (t + 1)), .int (nI k), .int (nI j)]) (rest := []) (q := 4) (c_T_ofRow l D cs ad σ (t + 1) k j (by omega) hk9 hj _) (Nat.le_of_ble_eq_true rfl) (ci := 3) (N := 4) (T := F_T) rfl rfl tw_237 tw_238 tw_239 tw_4 tw_240 (n := 3) (by decide +kernel) rfl rfl (Nat.le_of_ble_eq_true rfl) dT_ofSplitRow_45 ⟨Nat.le_of_ble_eq_true rfl, Nat.le_of_ble_eq_true rfl⟩ ⟨Nat.zero_le _, Nat.zero_le _⟩) (fun r5 τ6 H locs hp hE _ _ => ?_)
      refine w_top hp.1 ?_
      have hE := wS_eq hp.2 hE
      refine lv_istore (lv' := [(6, .int (σ (t + 1 + 34) (k * 9 + j))), (5, .int (symS σ n9 (σ 8 t) i k)), (0, .ref (ad 4)), (1, .int (nI t)), (2, .int (nI i)), (3, .int (nI k)), (4, .int (nI j))]) hx hb dT_ofSplitRow_48 hl (by decide) rfl (fun ls hl => ?_)
      refine lv_iload hx hb dT_ofSplitRow_50 (lv_at hl 0 rfl) ?_
      refine lv_iconst (v := (-1)) hx hb dT_ofSplitRow_52 (by decide) ?_
      refine lv_icmp_ne (tgt := 60) hx hb dT_ofSplitRow_53 (by decide) (fun c7 => ?_) (fun c7 => ?_)
      · refine lv_iload hx hb dT_ofSplitRow_60 (lv_at hl 1 rfl) ?_
        refine lv_iload hx hb dT_ofSplitRow_62 (lv_at hl 0 rfl) ?_
        refine lv_iadd hx hb dT_ofSplitRow_64 ?_
        exact w_reti C hE (⟨by rw [splitS]; simp only [c3, c4, c7, if_true, if_false, ite_self], rfl⟩) dT_ofSplitRow_65
      · refine lv_iconst (v := (-1)) hx hb dT_ofSplitRow_56 (by decide) ?_
        refine lv_goto (tgt := 65) hx hb dT_ofSplitRow_57 (by decide) ?_
        exact w_reti C hE (⟨by rw [splitS]; simp only [c3, c4, c7, if_true, if_false, ite_self], rfl⟩) dT_ofSplitRow_65
    · have c4 : ¬ ((t + 1) < S) := fun h => c4 ((nI_ltI (by omega) (by omega)).mpr h)
      refine lv_iconst (v := (-1)) hx hb dT_ofSplitRow_36 (by decide) ?_
      exact w_reti C hE (⟨by rw [splitS]; simp only [c3, c4, if_true, if_false, ite_self], rfl⟩) dT_ofSplitRow_37
set_option maxHeartbeats 4000000 in
set_option maxRecDepth 100000 in
theorem lp_T_least {p : Program} {l : Launch} {e : Env} {s : State} {m : MethodId} {below : List Frame} {meth : Method} {c : Code} {D : va_G} {cs : Nat → ClassId} {ad : Nat → Nat} {A : Nat → Prop} {σ : Mem} {P S n9 t i j : Nat} (C : bC p s m ([.ref (ad 4), .int (nI t), .int (nI i), .int (nI j)] : List Value).toArray meth c bT_leastOfRow 7 "EarleyChart$StepTable" (some .int)) (hk : wk D cs s) (hA : ∀ q : Nat, s.heap.size ≤ q → A q) (ht : tS σ P S n9) (htS : t < 24) (hi : i ≤ j) (hj : j < 9)   :
    ∀ (n : Nat) (w9 : Nat), (j + 1 - (i + w9)) < n → (i + w9 ≤ j + 1) → (¬ σ 8 t = (-1)) → ∀ (H : Heap) (locs : List Loc) (ls : Array Slot), wS (wE D cs ad) A s.heap σ H locs → lv_has ls 7 [(0, .ref (ad 4)), (1, .int (nI t)), (2, .int (nI i)), (3, .int (nI j)), (4, .int (leastF σ n9 S t i j w9)), (5, .int (nI (i + w9)))] → W p l e (rmF 3 72) s m ([.ref (ad 4), .int (nI t), .int (nI i), .int (nI j)] : List Value).toArray below meth c H locs 0 0 (wQi (wE D cs ad) A (fun r τ => r = leastS σ n9 S t i j ∧ τ = σ) s below ([.ref (ad 4), .int (nI t), .int (nI i), .int (nI j)] : List Value).toArray) (F0 m 30 ls []) := by
  obtain ⟨hx, hb, hml, hown, hts, hr, hlocks⟩ := id C
  have hg := ht.1
  have hn9 := ht.2.1
  have hln := ht.2.2
  have hP8 := hg.1
  have hS24 := hg.2.1
  intro n
  induction n with
  | zero => intro w9 h; exact absurd h (Nat.not_lt_zero _)
  | succ n ih =>
    intro w9 hn hc hne H locs ls hE hl
    refine lv_iload hx hb dT_leastOfRow_30 (lv_at hl 5 rfl) ?_
    refine lv_iload_n hx hb dT_leastOfRow_32 rfl (lv_at hl 3 rfl) ?_
    refine lv_icmp_gt (tgt := 73) hx hb dT_leastOfRow_33 (by decide) (fun c1 => ?_) (fun c1 => ?_)
    · have c1 : j < (i + w9) := (nI_ltI (by omega) (by omega)).mp c1
      refine lv_iload hx hb dT_leastOfRow_73 (lv_at hl 4 rfl) ?_
      exact w_reti C hE (⟨by rw [leastS, if_neg hne, show j + 1 - i = w9 by omega], rfl⟩) dT_leastOfRow_75
    · have c1 : ¬ (j < (i + w9)) := fun h => c1 ((nI_ltI (by omega) (by omega)).mpr h)
      refine lv_aload_n hx hb dT_leastOfRow_36 rfl (lv_at hl 0 rfl) ?_
      refine lv_iload_n hx hb dT_leastOfRow_37 rfl (lv_at hl 1 rfl) ?_
      refine lv_iload_n hx hb dT_leastOfRow_38 rfl (lv_at hl 2 rfl) ?_
      refine lv_iload hx hb dT_leastOfRow_39 (lv_at hl 5 rfl) ?_
      refine lv_iload_n hx hb dT_leastOfRow_41 rfl (lv_at hl 3 rfl) ?_
      refine w_ci hE hA (w_runV C hk hE hl.1 (As := [.int (nI t), .int (nI i), .int (nI (i + w9)), .int (nI j)]) (rest := []) (q := 4) (c_T_ofSplitRow l D cs ad σ P S n9 t i (i + w9) j ht htS (by omega) (by omega) hj _) (Nat.le_of_ble_eq_true rfl) (ci := 3) (N := 4) (T := F_T) rfl rfl tw_224 tw_225 tw_226 tw_4 tw_227 (n := 4) (by decide +kernel) rfl rfl (Nat.le_of_ble_eq_true rfl) dT_leastOfRow_42 ⟨Nat.le_of_ble_eq_true rfl, Nat.le_of_ble_eq_true rfl⟩ ⟨Nat.zero_le _, Nat.zero_le _⟩) (fun r2 τ3 H locs hp hE _ _ => ?_)
      refine w_top hp.1 ?_
      have hE := wS_eq hp.2 hE
      refine lv_istore (lv' := [(6, .int (splitS σ n9 S t i (i + w9) j)), (0, .ref (ad 4)), (1, .int (nI t)), (2, .int (nI i)), (3, .int (nI j)), (4, .int (leastF σ n9 S t i j w9)), (5, .int (nI (i + w9)))]) hx hb dT_leastOfRow_45 hl (by decide) rfl (fun ls hl => ?_)
      refine lv_iload hx hb dT_leastOfRow_47 (lv_at hl 0 rfl) ?_
      refine lv_iconst (v := (-1)) hx hb dT_leastOfRow_49 (by decide) ?_
      refine lv_icmp_eq (tgt := 67) hx hb dT_leastOfRow_50 (by decide) (fun c4 => ?_) (fun c4 => ?_)
      · refine lv_iinc (v := nI ((i + w9) + 1)) (lv' := [(5, .int (nI ((i + w9) + 1))), (6, .int (splitS σ n9 S t i (i + w9) j)), (0, .ref (ad 4)), (1, .int (nI t)), (2, .int (nI i)), (3, .int (nI j)), (4, .int (leastF σ n9 S t i j w9))]) hx hb dT_leastOfRow_67 hl (k := 6) rfl (by exact nI_1 _) (by decide) rfl (fun ls hl => ?_)
        refine lv_goto (tgt := 30) hx hb dT_leastOfRow_70 (by decide) ?_
        have ev5 : (leastF σ n9 S t i j w9 : Int32) = leastF σ n9 S t i j (w9 + 1) := by first | rfl | (rw [leastF]; simp only [c4, if_true, if_false, Bool.false_eq_true])
        rw [ev5] at hl
        have ev6 : (nI ((i + w9) + 1) : Int32) = nI (i + (w9 + 1)) := by first | rfl | (rw [leastF]; simp only [c4, if_true, if_false, Bool.false_eq_true])
        rw [ev6] at hl
        exact ih (w9 + 1) (by omega) (by omega) (hne) _ _ ls hE (lv_sub hl [2, 3, 4, 5, 6, 0] rfl)
      · refine lv_iload hx hb dT_leastOfRow_53 (lv_at hl 0 rfl) ?_
        refine lv_iload hx hb dT_leastOfRow_55 (lv_at hl 5 rfl) ?_
        refine w_ci hE hA (w_runS C hk hE hl.1 (As := [.int (splitS σ n9 S t i (i + w9) j), .int (leastF σ n9 S t i j w9)]) (rest := []) (c_T_isFewer l D cs ad σ (splitS σ n9 S t i (i + w9) j) (leastF σ n9 S t i j w9) _) tw_241 tw_242 tw_4 tw_243 (n := 2) (by decide +kernel) rfl rfl (Nat.le_of_ble_eq_true rfl) dT_leastOfRow_57 ⟨Nat.le_of_ble_eq_true rfl, Nat.le_of_ble_eq_true rfl⟩ ⟨Nat.zero_le _, Nat.zero_le _⟩) (fun r7 τ8 H locs hp hE _ _ => ?_)
        refine w_top hp.1 ?_
        have hE := wS_eq hp.2 hE
        refine lv_if_eq (tgt := 67) hx hb dT_leastOfRow_60 (by decide) (fun c9 => ?_) (fun c9 => ?_)
        · have c9 : fewer (splitS σ n9 S t i (i + w9) j) (leastF σ n9 S t i j w9) = false := zb_eq0 c9
          refine lv_iinc (v := nI ((i + w9) + 1)) (lv' := [(5, .int (nI ((i + w9) + 1))), (6, .int (splitS σ n9 S t i (i + w9) j)), (0, .ref (ad 4)), (1, .int (nI t)), (2, .int (nI i)), (3, .int (nI j)), (4, .int (leastF σ n9 S t i j w9))]) hx hb dT_leastOfRow_67 hl (k := 6) rfl (by exact nI_1 _) (by decide) rfl (fun ls hl => ?_)
          refine lv_goto (tgt := 30) hx hb dT_leastOfRow_70 (by decide) ?_
          have ev10 : (leastF σ n9 S t i j w9 : Int32) = leastF σ n9 S t i j (w9 + 1) := by first | rfl | (rw [leastF]; simp only [c4, c9, if_true, if_false, Bool.false_eq_true])
          rw [ev10] at hl
          have ev11 : (nI ((i + w9) + 1) : Int32) = nI (i + (w9 + 1)) := by first | rfl | (rw [leastF]; simp only [c4, c9, if_true, if_false, Bool.false_eq_true])
          rw [ev11] at hl
          exact ih (w9 + 1) (by omega) (by omega) (hne) _ _ ls hE (lv_sub hl [2, 3, 4, 5, 6, 0] rfl)
        · have c9 : fewer (splitS σ n9 S t i (i + w9) j) (leastF σ n9 S t i j w9) = true := zb_ne0 c9
          refine lv_iload hx hb dT_leastOfRow_63 (lv_at hl 0 rfl) ?_
          refine lv_istore (lv' := [(4, .int (splitS σ n9 S t i (i + w9) j)), (6, .int (splitS σ n9 S t i (i + w9) j)), (0, .ref (ad 4)), (1, .int (nI t)), (2, .int (nI i)), (3, .int (nI j)), (5, .int (nI (i + w9)))]) hx hb dT_leastOfRow_65 hl (by decide) rfl (fun ls hl => ?_)
          refine lv_iinc (v := nI ((i + w9) + 1)) (lv' := [(5, .int (nI ((i + w9) + 1))), (4, .int (splitS σ n9 S t i (i + w9) j)), (6, .int (splitS σ n9 S t i (i + w9) j)), (0, .ref (ad 4)), (1, .int (nI t)), (2, .int (nI i)), (3, .int (nI j))]) hx hb dT_leastOfRow_67 hl (k := 6) rfl (by exact nI_1 _) (by decide) rfl (fun ls hl => ?_)
          refine lv_goto (tgt := 30) hx hb dT_leastOfRow_70 (by decide) ?_
          have ev12 : (splitS σ n9 S t i (i + w9) j : Int32) = leastF σ n9 S t i j (w9 + 1) := by first | rfl | (rw [leastF]; simp only [c4, c9, if_true, if_false, Bool.false_eq_true])
          rw [ev12] at hl
          have ev13 : (nI ((i + w9) + 1) : Int32) = nI (i + (w9 + 1)) := by first | rfl | (rw [leastF]; simp only [c4, c9, if_true, if_false, Bool.false_eq_true])
          rw [ev13] at hl
          exact ih (w9 + 1) (by omega) (by omega) (hne) _ _ ls hE (lv_sub hl [3, 4, 5, 6, 1, 0] rfl)
set_option maxHeartbeats 4000000 in
set_option maxRecDepth 100000 in
theorem c_T_leastOfRow (l : Launch) (D : va_G) (cs : Nat → ClassId) (ad : Nat → Nat) (σ : Mem) (P S n9 t i j : Nat) (ht : tS σ P S n9) (htS : t < 24) (hi : i ≤ j) (hj : j < 9) : MetI l (wE D cs ad) cs yT_leastOfRow bT_leastOfRow 7 (some .int) 3 72 [.ref (ad 4), .int (nI t), .int (nI i), .int (nI j)] σ (fun r τ => r = leastS σ n9 S t i j ∧ τ = σ) := by
  refine MetI.start (by decide) (Nat.le_of_ble_eq_true rfl) ?_
  intro p e s m below meth c A ls C hk hA hE hl
  obtain ⟨hx, hb, hml, hown, hts, hr, hlocks⟩ := id C
  have hl : lv_has ls 7 [(0, .ref (ad 4)), (1, .int (nI t)), (2, .int (nI i)), (3, .int (nI j))] := hl
  have hg := ht.1
  have hn9 := ht.2.1
  have hln := ht.2.2
  have hP8 := hg.1
  have hS24 := hg.2.1
  refine lv_aload_n hx hb dT_leastOfRow_0 rfl (lv_at hl 0 rfl) ?_
  refine w_get C hk hE (K := R_T) (T := F_T) (N := 4) (ci := 3) in_T 4 (Nat.le_of_ble_eq_true rfl) rfl rfl 0 (by decide) tw_86 rfl rfl dT_leastOfRow_1 ?_
  refine w_get C hk hE (K := R_G) (T := F_G) (N := 6) (ci := 0) in_G 1 (Nat.le_of_ble_eq_true rfl) rfl rfl 2 (by decide) tw_39 rfl rfl dT_leastOfRow_4 ?_
  refine lv_iload_n hx hb dT_leastOfRow_7 rfl (lv_at hl 1 rfl) ?_
  refine w_iald C hk hE 8 (by exact Nat.le_of_ble_eq_true rfl) (n := 24) rfl (by omega) (by first | decide | omega) dT_leastOfRow_8 ?_
  refine lv_iconst (v := (-1)) hx hb dT_leastOfRow_9 (by decide) ?_
  refine lv_icmp_ne (tgt := 24) hx hb dT_leastOfRow_10 (by decide) (fun c1 => ?_) (fun c1 => ?_)
  · refine lv_iconst (v := (-1)) hx hb dT_leastOfRow_24 (by decide) ?_
    refine lv_istore (lv' := [(4, .int (-1)), (0, .ref (ad 4)), (1, .int (nI t)), (2, .int (nI i)), (3, .int (nI j))]) hx hb dT_leastOfRow_25 hl (by decide) rfl (fun ls hl => ?_)
    refine lv_iload_n hx hb dT_leastOfRow_27 rfl (lv_at hl 3 rfl) ?_
    refine lv_istore (lv' := [(5, .int (nI i)), (4, .int (-1)), (0, .ref (ad 4)), (1, .int (nI t)), (2, .int (nI i)), (3, .int (nI j))]) hx hb dT_leastOfRow_28 hl (by decide) rfl (fun ls hl => ?_)
    have ev2 : ((-1) : Int32) = leastF σ n9 S t i j 0 := by rfl
    rw [ev2] at hl
    exact lp_T_least C hk hA ht htS hi hj _ 0 (Nat.lt_succ_self _) (by omega) (c1) _ _ ls hE (lv_sub hl [2, 3, 4, 5, 1, 0] rfl)
  · refine lv_iload_n hx hb dT_leastOfRow_13 rfl (lv_at hl 2 rfl) ?_
    refine lv_iload_n hx hb dT_leastOfRow_14 rfl (lv_at hl 3 rfl) ?_
    refine lv_icmp_ne (tgt := 22) hx hb dT_leastOfRow_15 (by decide) (fun c3 => ?_) (fun c3 => ?_)
    · have c3 : ¬ (i = j) := fun h => c3 ((nI_eq (by omega) (by omega)).mpr h)
      refine lv_iconst (v := (-1)) hx hb dT_leastOfRow_22 (by decide) ?_
      exact w_reti C hE (⟨by rw [leastS]; simp only [c1, c3, if_true, if_false], rfl⟩) dT_leastOfRow_23
    · have c3 : i = j := (nI_eq (by omega) (by omega)).mp c3
      refine lv_iconst (v := nI 0) hx hb dT_leastOfRow_18 (by decide) ?_
      refine lv_goto (tgt := 23) hx hb dT_leastOfRow_19 (by decide) ?_
      exact w_reti C hE (⟨by rw [leastS]; simp only [c1, c3, if_true, if_false], rfl⟩) dT_leastOfRow_23
set_option maxHeartbeats 4000000 in
set_option maxRecDepth 100000 in
theorem lp_T_lower {p : Program} {l : Launch} {e : Env} {s : State} {m : MethodId} {below : List Frame} {meth : Method} {c : Code} {D : va_G} {cs : Nat → ClassId} {ad : Nat → Nat} {A : Nat → Prop} {σ : Mem} {P S n9 i j : Nat} (C : bC p s m ([.ref (ad 4), .int (nI i), .int (nI j)] : List Value).toArray meth c bT_lower 7 "EarleyChart$StepTable" (some .boolean)) (hk : wk D cs s) (hA : ∀ q : Nat, s.heap.size ≤ q → A q) (ht : tS σ P S n9) (hi : i ≤ j) (hj : j < 9)   :
    ∀ (n : Nat) (t : Nat) (b : Bool) (μ : Mem), t < n → (t ≤ S) → (tS μ P S n9) → (lowF n9 S i j t b μ = lowF n9 S i j S false σ) → ∀ (H : Heap) (locs : List Loc) (ls : Array Slot), wS (wE D cs ad) A s.heap μ H locs → lv_has ls 7 [(0, .ref (ad 4)), (1, .int (nI i)), (2, .int (nI j)), (3, .int (zb b)), (4, .int (dn t))] → W p l e (rmF 4 98) s m ([.ref (ad 4), .int (nI i), .int (nI j)] : List Value).toArray below meth c H locs 0 0 (wQi (wE D cs ad) A (fun r τ => r = zb (lowF n9 S i j S false σ).1 ∧ τ = (lowF n9 S i j S false σ).2) s below ([.ref (ad 4), .int (nI i), .int (nI j)] : List Value).toArray) (F0 m 13 ls []) := by
  obtain ⟨hx, hb, hml, hown, hts, hr, hlocks⟩ := id C
  have hg := ht.1
  have hn9 := ht.2.1
  have hln := ht.2.2
  have hP8 := hg.1
  have hS24 := hg.2.1
  intro n
  induction n with
  | zero => intro t b μ h; exact absurd h (Nat.not_lt_zero _)
  | succ n ih =>
    intro t b μ hn hi9 htμ hres H locs ls hE hl
    refine lv_iload hx hb dT_lower_13 (lv_at hl 4 rfl) ?_
    refine lv_if_lt (tgt := 115) hx hb dT_lower_15 (by decide) (fun c1 => ?_) (fun c1 => ?_)
    · have ht0 := dn_lt (by omega) c1
      refine lv_iload_n hx hb dT_lower_115 rfl (lv_at hl 3 rfl) ?_
      exact w_retz C hE (zb_01 b) (by rw [← hres, ht0]; exact ⟨rfl, rfl⟩) dT_lower_116
    · obtain ⟨u, rfl⟩ := dn_ge c1
      have hgμ := htμ.1
      obtain ⟨h9, h9b, h9c⟩ := hgμ.2.2.2.2.2.1 u (by omega)
      obtain ⟨h6, h6b, h7, h7b⟩ := hgμ.2.2.2.2.1 (gp μ u) h9b
      have hl : lv_has ls 7 [(0, .ref (ad 4)), (1, .int (nI i)), (2, .int (nI j)), (3, .int (zb b)), (4, .int (nI u))] := hl
      refine lv_aload_n hx hb dT_lower_18 rfl (lv_at hl 0 rfl) ?_
      refine lv_iload hx hb dT_lower_19 (lv_at hl 4 rfl) ?_
      refine lv_iload_n hx hb dT_lower_21 rfl (lv_at hl 1 rfl) ?_
      refine lv_iload_n hx hb dT_lower_22 rfl (lv_at hl 2 rfl) ?_
      refine w_ci hE hA (w_runV C hk hE hl.1 (As := [.int (nI u), .int (nI i), .int (nI j)]) (rest := []) (q := 4) (c_T_leastOfRow l D cs ad μ P S n9 u i j htμ (by omega) hi hj _) (Nat.le_of_ble_eq_true rfl) (ci := 3) (N := 4) (T := F_T) rfl rfl tw_220 tw_222 ts_8 tw_4 tw_223 (n := 3) (by decide +kernel) rfl rfl (Nat.le_of_ble_eq_true rfl) dT_lower_23 ⟨Nat.le_of_ble_eq_true rfl, Nat.le_of_ble_eq_true rfl⟩ ⟨Nat.zero_le _, Nat.zero_le _⟩) (fun r2 τ3 H locs hp hE _ _ => ?_)
      refine w_top hp.1 ?_
      have hE := wS_eq hp.2 hE
      refine lv_istore (lv' := [(5, .int (leastS μ n9 S u i j)), (0, .ref (ad 4)), (1, .int (nI i)), (2, .int (nI j)), (3, .int (zb b)), (4, .int (nI u))]) hx hb dT_lower_26 hl (by decide) rfl (fun ls hl => ?_)
      refine lv_aload_n hx hb dT_lower_28 rfl (lv_at hl 1 rfl) ?_
      refine w_get C hk hE (K := R_T) (T := F_T) (N := 4) (ci := 3) in_T 4 (Nat.le_of_ble_eq_true rfl) rfl rfl 3 (by decide) tw_89 rfl rfl dT_lower_29 ?_
      refine lv_iload hx hb dT_lower_32 (lv_at hl 5 rfl) ?_
      refine w_aald C hk hE 14 (Nat.le_of_ble_eq_true rfl) (n := 24) (b := ad (u + 34)) rfl (by omega) (by decide) rfl dT_lower_34 ?_
      refine lv_iload_n hx hb dT_lower_35 rfl (lv_at hl 2 rfl) ?_
      refine lv_iload_n hx hb dT_lower_36 rfl (lv_at hl 3 rfl) ?_
      refine w_ci hE hA (w_runS C hk hE hl.1 (As := [.int (nI i), .int (nI j)]) (rest := [.ref (ad (u + 34))]) (c_T_stretch l D cs ad (μ) i j _) tw_213 tw_214 tw_4 tw_215 (n := 2) (by decide +kernel) rfl rfl (Nat.le_of_ble_eq_true rfl) dT_lower_37 ⟨Nat.le_of_ble_eq_true rfl, Nat.le_of_ble_eq_true rfl⟩ ⟨Nat.zero_le _, Nat.zero_le _⟩) (fun r4 τ5 H locs hp hE _ _ => ?_)
      refine w_top hp.1 ?_
      have hE := wS_eq hp.2 hE
      refine lv_iload hx hb dT_lower_40 (lv_at hl 0 rfl) ?_
      refine w_iast C hk hE (u + 34) (by show _ < 58; omega) (n := 81) (fun _ => cE_r (ad := ad) (k := u)) (by omega) (by first | decide | omega) dT_lower_42 (fun H locs hE => ?_)
      have hE : wS (wE D cs ad) A s.heap (low1 n9 S i j u μ) H locs := hE
      refine lv_aload_n hx hb dT_lower_43 rfl (lv_at hl 1 rfl) ?_
      refine w_get C hk hE (K := R_T) (T := F_T) (N := 4) (ci := 3) in_T 4 (Nat.le_of_ble_eq_true rfl) rfl rfl 0 (by decide) tw_86 rfl rfl dT_lower_44 ?_
      refine lv_iload hx hb dT_lower_47 (lv_at hl 5 rfl) ?_
      refine w_ci hE hA (w_runV C hk hE hl.1 (As := [.int (nI u)]) (rest := []) (q := 1) (c_G_dotAt l D cs ad (low1 n9 S i j u μ) u (gp μ u) (gf μ (gp μ u)) (by omega) ((congrFun (low1_lo (by decide)) u).trans h9) (by omega) ((congrFun (low1_lo (by decide)) _).trans h7) h9c _) (Nat.le_of_ble_eq_true rfl) (ci := 0) (N := 6) (T := F_G) rfl rfl tw_244 tw_245 tw_246 tw_2 tw_247 (n := 1) (by decide +kernel) rfl rfl (Nat.le_of_ble_eq_true rfl) dT_lower_49 ⟨Nat.le_of_ble_eq_true rfl, Nat.le_of_ble_eq_true rfl⟩ ⟨Nat.zero_le _, Nat.zero_le _⟩) (fun r6 τ7 H locs hp hE _ _ => ?_)
      refine w_top hp.1 ?_
      have hE := wS_eq hp.2 hE
      refine lv_if_ne (tgt := 109) hx hb dT_lower_52 (by decide) (fun c8 => ?_) (fun c8 => ?_)
      · have c8 := w_n0 (by omega) c8
        refine lv_iinc (v := (nI u) + -1) (lv' := [(4, .int ((nI u) + -1)), (5, .int (leastS μ n9 S u i j)), (0, .ref (ad 4)), (1, .int (nI i)), (2, .int (nI j)), (3, .int (zb b))]) hx hb dT_lower_109 hl (k := 5) rfl (rfl) (by decide) rfl (fun ls hl => ?_)
        refine lv_goto (tgt := 13) hx hb dT_lower_112 (by decide) ?_
        have ev9 : ((nI u) + -1 : Int32) = dn u := by exact dn_pred _
        rw [ev9] at hl
        exact ih u b (low1 n9 S i j u μ) (by omega) (by omega) (tS_of htμ (fun q hq => by first | exact low1_lo (by omega) | exact (mset_28 (by omega)).trans (low1_lo (by omega)))) (by rw [← hres, lowF]; congr 1 <;> simp [lowS, lowC, c8]) _ _ ls hE (lv_sub hl [2, 3, 4, 5, 0] rfl)
      · have c8 := w_z0 (by omega) c8
        refine lv_iload hx hb dT_lower_55 (lv_at hl 0 rfl) ?_
        refine lv_iconst (v := (-1)) hx hb dT_lower_57 (by decide) ?_
        refine lv_icmp_eq (tgt := 109) hx hb dT_lower_58 (by decide) (fun c10 => ?_) (fun c10 => ?_)
        · refine lv_iinc (v := (nI u) + -1) (lv' := [(4, .int ((nI u) + -1)), (5, .int (leastS μ n9 S u i j)), (0, .ref (ad 4)), (1, .int (nI i)), (2, .int (nI j)), (3, .int (zb b))]) hx hb dT_lower_109 hl (k := 5) rfl (rfl) (by decide) rfl (fun ls hl => ?_)
          refine lv_goto (tgt := 13) hx hb dT_lower_112 (by decide) ?_
          have ev11 : ((nI u) + -1 : Int32) = dn u := by exact dn_pred _
          rw [ev11] at hl
          exact ih u b (low1 n9 S i j u μ) (by omega) (by omega) (tS_of htμ (fun q hq => by first | exact low1_lo (by omega) | exact (mset_28 (by omega)).trans (low1_lo (by omega)))) (by rw [← hres, lowF]; congr 1 <;> simp [lowS, lowC, c8, c10]) _ _ ls hE (lv_sub hl [2, 3, 4, 5, 0] rfl)
        · refine lv_aload_n hx hb dT_lower_61 rfl (lv_at hl 1 rfl) ?_
          refine w_get C hk hE (K := R_T) (T := F_T) (N := 4) (ci := 3) in_T 4 (Nat.le_of_ble_eq_true rfl) rfl rfl 2 (by decide) tw_88 rfl rfl dT_lower_62 ?_
          refine lv_aload_n hx hb dT_lower_65 rfl (lv_at hl 1 rfl) ?_
          refine w_get C hk hE (K := R_T) (T := F_T) (N := 4) (ci := 3) in_T 4 (Nat.le_of_ble_eq_true rfl) rfl rfl 0 (by decide) tw_86 rfl rfl dT_lower_66 ?_
          refine lv_iload hx hb dT_lower_69 (lv_at hl 5 rfl) ?_
          refine w_ci hE hA (w_runV C hk hE hl.1 (As := [.int (nI u)]) (rest := [.ref (ad 13)]) (q := 1) (c_G_leftSideAt l D cs ad (low1 n9 S i j u μ) u (gp μ u) (by omega) ((congrFun (low1_lo (by decide)) u).trans h9) (by omega) _) (Nat.le_of_ble_eq_true rfl) (ci := 0) (N := 6) (T := F_G) rfl rfl tw_248 tw_191 tw_192 tw_2 tw_193 (n := 1) (by decide +kernel) rfl rfl (Nat.le_of_ble_eq_true rfl) dT_lower_71 ⟨Nat.le_of_ble_eq_true rfl, Nat.le_of_ble_eq_true rfl⟩ ⟨Nat.zero_le _, Nat.zero_le _⟩) (fun r12 τ13 H locs hp hE _ _ => ?_)
          refine w_top (y := nI (gv μ (gp μ u))) (hp.1.trans ((congrFun (low1_lo (by decide)) _).trans h6)) ?_
          have hE := wS_eq hp.2 hE
          refine w_aald C hk hE 13 (Nat.le_of_ble_eq_true rfl) (n := 6) (b := ad ((gv μ (gp μ u)) + 28)) rfl (by omega) (by decide) rfl dT_lower_74 ?_
          refine lv_astore (lv' := [(6, .ref (ad ((gv μ (gp μ u)) + 28))), (5, .int (leastS μ n9 S u i j)), (0, .ref (ad 4)), (1, .int (nI i)), (2, .int (nI j)), (3, .int (zb b)), (4, .int (nI u))]) hx hb dT_lower_75 hl (by decide) rfl (fun ls hl => ?_)
          refine lv_iload hx hb dT_lower_77 (lv_at hl 1 rfl) ?_
          refine lv_iconst (v := nI 1) hx hb dT_lower_79 (by decide) ?_
          refine lv_iadd hx hb dT_lower_80 ?_
          refine lv_aload hx hb dT_lower_81 (lv_at hl 0 rfl) ?_
          refine lv_iload_n hx hb dT_lower_83 rfl (lv_at hl 3 rfl) ?_
          refine lv_iload_n hx hb dT_lower_84 rfl (lv_at hl 4 rfl) ?_
          refine w_ci hE hA (w_runS C hk hE hl.1 (As := [.int (nI i), .int (nI j)]) (rest := [.ref (ad ((gv μ (gp μ u)) + 28)), .int ((leastS μ n9 S u i j) + (nI 1))]) (c_T_stretch l D cs ad (low1 n9 S i j u μ) i j _) tw_213 tw_214 tw_4 tw_215 (n := 2) (by decide +kernel) rfl rfl (Nat.le_of_ble_eq_true rfl) dT_lower_85 ⟨Nat.le_of_ble_eq_true rfl, Nat.le_of_ble_eq_true rfl⟩ ⟨Nat.zero_le _, Nat.zero_le _⟩) (fun r14 τ15 H locs hp hE _ _ => ?_)
          refine w_top hp.1 ?_
          have hE := wS_eq hp.2 hE
          refine w_iald C hk hE ((gv μ (gp μ u)) + 28) (by show _ < 58; omega) (n := 81) (cE_v (ad := ad) (k := (gv μ (gp μ u)))) (by omega) (by first | decide | omega) dT_lower_88 ?_
          refine w_ci hE hA (w_runS C hk hE hl.1 (As := [.int ((leastS μ n9 S u i j) + (nI 1)), .int ((low1 n9 S i j u μ) ((gv μ (gp μ u)) + 28) (i * 9 + j))]) (rest := []) (c_T_isFewer l D cs ad (low1 n9 S i j u μ) ((leastS μ n9 S u i j) + (nI 1)) ((low1 n9 S i j u μ) ((gv μ (gp μ u)) + 28) (i * 9 + j)) _) tw_241 tw_242 tw_4 tw_243 (n := 2) (by decide +kernel) rfl rfl (Nat.le_of_ble_eq_true rfl) dT_lower_89 ⟨Nat.le_of_ble_eq_true rfl, Nat.le_of_ble_eq_true rfl⟩ ⟨Nat.zero_le _, Nat.zero_le _⟩) (fun r16 τ17 H locs hp hE _ _ => ?_)
          refine w_top hp.1 ?_
          have hE := wS_eq hp.2 hE
          refine lv_if_eq (tgt := 109) hx hb dT_lower_92 (by decide) (fun c18 => ?_) (fun c18 => ?_)
          · have c18 : fewer (leastS μ n9 S u i j + nI 1) (low1 n9 S i j u μ (gv μ (gp μ u) + 28) (i * 9 + j)) = false := zb_eq0 c18
            refine lv_iinc (v := (nI u) + -1) (lv' := [(4, .int ((nI u) + -1)), (6, .ref (ad ((gv μ (gp μ u)) + 28))), (5, .int (leastS μ n9 S u i j)), (0, .ref (ad 4)), (1, .int (nI i)), (2, .int (nI j)), (3, .int (zb b))]) hx hb dT_lower_109 hl (k := 6) rfl (rfl) (by decide) rfl (fun ls hl => ?_)
            refine lv_goto (tgt := 13) hx hb dT_lower_112 (by decide) ?_
            have ev19 : ((nI u) + -1 : Int32) = dn u := by exact dn_pred _
            rw [ev19] at hl
            exact ih u b (low1 n9 S i j u μ) (by omega) (by omega) (tS_of htμ (fun q hq => by first | exact low1_lo (by omega) | exact (mset_28 (by omega)).trans (low1_lo (by omega)))) (by rw [← hres, lowF]; congr 1 <;> simp [lowS, lowC, c8, c10, c18]) _ _ ls hE (lv_sub hl [3, 4, 5, 6, 0] rfl)
          · have c18 : fewer (leastS μ n9 S u i j + nI 1) (low1 n9 S i j u μ (gv μ (gp μ u) + 28) (i * 9 + j)) = true := zb_ne0 c18
            refine lv_aload hx hb dT_lower_95 (lv_at hl 0 rfl) ?_
            refine lv_iload_n hx hb dT_lower_97 rfl (lv_at hl 3 rfl) ?_
            refine lv_iload_n hx hb dT_lower_98 rfl (lv_at hl 4 rfl) ?_
            refine w_ci hE hA (w_runS C hk hE hl.1 (As := [.int (nI i), .int (nI j)]) (rest := [.ref (ad ((gv μ (gp μ u)) + 28))]) (c_T_stretch l D cs ad (low1 n9 S i j u μ) i j _) tw_213 tw_214 tw_4 tw_215 (n := 2) (by decide +kernel) rfl rfl (Nat.le_of_ble_eq_true rfl) dT_lower_99 ⟨Nat.le_of_ble_eq_true rfl, Nat.le_of_ble_eq_true rfl⟩ ⟨Nat.zero_le _, Nat.zero_le _⟩) (fun r20 τ21 H locs hp hE _ _ => ?_)
            refine w_top hp.1 ?_
            have hE := wS_eq hp.2 hE
            refine lv_iload hx hb dT_lower_102 (lv_at hl 1 rfl) ?_
            refine lv_iconst (v := nI 1) hx hb dT_lower_104 (by decide) ?_
            refine lv_iadd hx hb dT_lower_105 ?_
            refine w_iast C hk hE ((gv μ (gp μ u)) + 28) (by show _ < 58; omega) (n := 81) (fun _ => cE_v (ad := ad) (k := (gv μ (gp μ u)))) (by omega) (by first | decide | omega) dT_lower_106 (fun H locs hE => ?_)
            refine lv_iconst (v := nI 1) hx hb dT_lower_107 (by decide) ?_
            refine lv_istore_n (lv' := [(3, .int (nI 1)), (6, .ref (ad ((gv μ (gp μ u)) + 28))), (5, .int (leastS μ n9 S u i j)), (0, .ref (ad 4)), (1, .int (nI i)), (2, .int (nI j)), (4, .int (nI u))]) hx hb dT_lower_108 rfl hl (by decide) rfl (fun ls hl => ?_)
            refine lv_iinc (v := (nI u) + -1) (lv' := [(4, .int ((nI u) + -1)), (3, .int (nI 1)), (6, .ref (ad ((gv μ (gp μ u)) + 28))), (5, .int (leastS μ n9 S u i j)), (0, .ref (ad 4)), (1, .int (nI i)), (2, .int (nI j))]) hx hb dT_lower_109 hl (k := 6) rfl (rfl) (by decide) rfl (fun ls hl => ?_)
            refine lv_goto (tgt := 13) hx hb dT_lower_112 (by decide) ?_
            have ev22 : (nI 1 : Int32) = zb true := by exact zb_t.symm
            rw [ev22] at hl
            have ev23 : ((nI u) + -1 : Int32) = dn u := by exact dn_pred _
            rw [ev23] at hl
            exact ih u true (mset (low1 n9 S i j u μ) ((gv μ (gp μ u)) + 28) (i * 9 + j) ((leastS μ n9 S u i j) + (nI 1))) (by omega) (by omega) (tS_of htμ (fun q hq => by first | exact low1_lo (by omega) | exact (mset_28 (by omega)).trans (low1_lo (by omega)))) (by rw [← hres, lowF]; congr 1 <;> simp [lowS, lowC, c8, c10, c18]) _ _ ls hE (lv_sub hl [4, 5, 6, 1, 0] rfl)
set_option maxHeartbeats 4000000 in
set_option maxRecDepth 100000 in
theorem c_T_lower (l : Launch) (D : va_G) (cs : Nat → ClassId) (ad : Nat → Nat) (σ : Mem) (P S n9 i j : Nat) (ht : tS σ P S n9) (hi : i ≤ j) (hj : j < 9) : MetI l (wE D cs ad) cs yT_lower bT_lower 7 (some .boolean) 4 98 [.ref (ad 4), .int (nI i), .int (nI j)] σ (fun r τ => r = zb (lowF n9 S i j S false σ).1 ∧ τ = (lowF n9 S i j S false σ).2) := by
  refine MetI.start (by decide) (Nat.le_of_ble_eq_true rfl) ?_
  intro p e s m below meth c A ls C hk hA hE hl
  obtain ⟨hx, hb, hml, hown, hts, hr, hlocks⟩ := id C
  have hl : lv_has ls 7 [(0, .ref (ad 4)), (1, .int (nI i)), (2, .int (nI j))] := hl
  have hg := ht.1
  have hn9 := ht.2.1
  have hln := ht.2.2
  have hP8 := hg.1
  have hS24 := hg.2.1
  refine lv_iconst (v := nI 0) hx hb dT_lower_0 (by decide) ?_
  refine lv_istore_n (lv' := [(3, .int (nI 0)), (0, .ref (ad 4)), (1, .int (nI i)), (2, .int (nI j))]) hx hb dT_lower_1 rfl hl (by decide) rfl (fun ls hl => ?_)
  refine lv_aload_n hx hb dT_lower_2 rfl (lv_at hl 1 rfl) ?_
  refine w_get C hk hE (K := R_T) (T := F_T) (N := 4) (ci := 3) in_T 4 (Nat.le_of_ble_eq_true rfl) rfl rfl 0 (by decide) tw_86 rfl rfl dT_lower_3 ?_
  refine w_get C hk hE (K := R_G) (T := F_G) (N := 6) (ci := 0) in_G 1 (Nat.le_of_ble_eq_true rfl) rfl rfl 5 (by decide) tw_49 rfl rfl dT_lower_6 ?_
  refine w_top (y := nI S) (hg.2.2.2.1) ?_
  refine lv_iconst (v := nI 1) hx hb dT_lower_9 (by decide) ?_
  refine lv_isub hx hb dT_lower_10 ?_
  refine lv_istore (lv' := [(4, .int ((nI S) - (nI 1))), (3, .int (nI 0)), (0, .ref (ad 4)), (1, .int (nI i)), (2, .int (nI j))]) hx hb dT_lower_11 hl (by decide) rfl (fun ls hl => ?_)
  have ev1 : (nI 0 : Int32) = zb false := by first | exact dn_sub | rfl
  rw [ev1] at hl
  have ev2 : ((nI S) - (nI 1) : Int32) = dn S := by first | exact dn_sub | rfl
  rw [ev2] at hl
  exact lp_T_lower C hk hA ht hi hj _ S false σ (Nat.lt_succ_self _) (Nat.le_refl _) (ht) (rfl) _ _ ls hE (lv_sub hl [2, 3, 4, 1, 0] rfl)
set_option maxHeartbeats 4000000 in
set_option maxRecDepth 100000 in
theorem lp_T_fs2 {p : Program} {l : Launch} {e : Env} {s : State} {m : MethodId} {below : List Frame} {meth : Method} {c : Code} {D : va_G} {cs : Nat → ClassId} {ad : Nat → Nat} {A : Nat → Prop} {σ : Mem} {P S n9 i j : Nat} (C : bC p s m ([.ref (ad 4), .int (nI i), .int (nI j)] : List Value).toArray meth c bT_fillStretch 5 "EarleyChart$StepTable" none) (hk : wk D cs s) (hA : ∀ q : Nat, s.heap.size ≤ q → A q) (ht : tS σ P S n9) (hi : i ≤ j) (hj : j < 9)   :
    ∀ (n : Nat) (k9 : Nat) (b : Bool) (μ : Mem), (1000 - k9) < n → (k9 ≤ 1000) → (tS μ P S n9) → ((if b = true then strF n9 S i j (1000 - k9) μ else μ) = fstr n9 S i j σ) → ∀ (H : Heap) (locs : List Loc) (ls : Array Slot), wS (wE D cs ad) A s.heap μ H locs → lv_has ls 5 [(0, .ref (ad 4)), (1, .int (nI i)), (2, .int (nI j)), (3, .int (zb b)), (4, .int (nI k9))] → W p l e (rmF 5 124) s m ([.ref (ad 4), .int (nI i), .int (nI j)] : List Value).toArray below meth c H locs 0 0 (wQv (wE D cs ad) A (fun τ => τ = fstr n9 S i j σ) s below ([.ref (ad 4), .int (nI i), .int (nI j)] : List Value).toArray) (F0 m 32 ls []) := by
  obtain ⟨hx, hb, hml, hown, hts, hr, hlocks⟩ := id C
  have hg := ht.1
  have hn9 := ht.2.1
  have hln := ht.2.2
  have hP8 := hg.1
  have hS24 := hg.2.1
  intro n
  induction n with
  | zero => intro k9 b μ h; exact absurd h (Nat.not_lt_zero _)
  | succ n ih =>
    intro k9 b μ hn hk9 htμ hres H locs ls hE hl
    refine lv_iload_n hx hb dT_fillStretch_32 rfl (lv_at hl 3 rfl) ?_
    refine lv_if_eq (tgt := 57) hx hb dT_fillStretch_33 (by decide) (fun c1 => ?_) (fun c1 => ?_)
    · have c1 := zb_eq0 c1
      exact w_retv C hE (by first | (rw [← hres, c1]; rfl) | (rw [← hres, c1, show 1000 - k9 = 0 by omega]; rfl)) dT_fillStretch_57
    · have c1 := zb_ne0 c1
      refine lv_iload hx hb dT_fillStretch_36 (lv_at hl 4 rfl) ?_
      refine lv_sipush (v := nI 1000) hx hb dT_fillStretch_38 (by decide) ?_
      refine lv_icmp_ge (tgt := 57) hx hb dT_fillStretch_41 (by decide) (fun c2 => ?_) (fun c2 => ?_)
      · have c2 : 1000 ≤ k9 := (nI_leI (by omega) (by omega)).mp c2
        exact w_retv C hE (by first | (rw [← hres, c1]; rfl) | (rw [← hres, c1, show 1000 - k9 = 0 by omega]; rfl)) dT_fillStretch_57
      · have c2 : ¬ (1000 ≤ k9) := fun h => c2 ((nI_leI (by omega) (by omega)).mpr h)
        refine lv_aload_n hx hb dT_fillStretch_44 rfl (lv_at hl 0 rfl) ?_
        refine lv_iload_n hx hb dT_fillStretch_45 rfl (lv_at hl 1 rfl) ?_
        refine lv_iload_n hx hb dT_fillStretch_46 rfl (lv_at hl 2 rfl) ?_
        refine w_ci hE hA (w_runV C hk hE hl.1 (As := [.int (nI i), .int (nI j)]) (rest := []) (q := 4) (c_T_lower l D cs ad μ P S n9 i j htμ hi hj _) (Nat.le_of_ble_eq_true rfl) (ci := 3) (N := 4) (T := F_T) rfl rfl tw_216 tw_218 ts_7 tw_4 tw_219 (n := 2) (by decide +kernel) rfl rfl (Nat.le_of_ble_eq_true rfl) dT_fillStretch_47 ⟨Nat.le_of_ble_eq_true rfl, Nat.le_of_ble_eq_true rfl⟩ ⟨Nat.zero_le _, Nat.zero_le _⟩) (fun r3 τ4 H locs hp hE _ _ => ?_)
        refine w_top hp.1 ?_
        have hE := wS_eq hp.2 hE
        refine lv_istore_n (lv' := [(3, .int (zb (lowF n9 S i j S false μ).1)), (0, .ref (ad 4)), (1, .int (nI i)), (2, .int (nI j)), (4, .int (nI k9))]) hx hb dT_fillStretch_50 rfl hl (by decide) rfl (fun ls hl => ?_)
        refine lv_iinc (v := nI (k9 + 1)) (lv' := [(4, .int (nI (k9 + 1))), (3, .int (zb (lowF n9 S i j S false μ).1)), (0, .ref (ad 4)), (1, .int (nI i)), (2, .int (nI j))]) hx hb dT_fillStretch_51 hl (k := 4) rfl (by exact nI_1 _) (by decide) rfl (fun ls hl => ?_)
        refine lv_goto (tgt := 32) hx hb dT_fillStretch_54 (by decide) ?_
        have ev5 : (zb (lowF n9 S i j S false μ).1 : Int32) = zb ((lowF n9 S i j S false μ).1) := by rfl
        rw [ev5] at hl
        exact ih (k9 + 1) ((lowF n9 S i j S false μ).1) ((lowF n9 S i j S false μ).2) (by omega) (by omega) (tS_of htμ (fun q hq => lowF_lo _ _ _ (by omega))) (by rw [← hres, c1]; cases hb9 : (lowF n9 S i j S false μ).1 with
      | true => exact (strF_t (by omega) hb9).symm
      | false => exact (strF_f (by omega) hb9).symm) _ _ ls hE (lv_sub hl [2, 3, 4, 1, 0] rfl)
set_option maxHeartbeats 4000000 in
set_option maxRecDepth 100000 in
theorem lp_T_fs1 {p : Program} {l : Launch} {e : Env} {s : State} {m : MethodId} {below : List Frame} {meth : Method} {c : Code} {D : va_G} {cs : Nat → ClassId} {ad : Nat → Nat} {A : Nat → Prop} {σ : Mem} {P S n9 i j : Nat} (C : bC p s m ([.ref (ad 4), .int (nI i), .int (nI j)] : List Value).toArray meth c bT_fillStretch 5 "EarleyChart$StepTable" none) (hk : wk D cs s) (hA : ∀ q : Nat, s.heap.size ≤ q → A q) (ht : tS σ P S n9) (hi : i ≤ j) (hj : j < 9)   :
    ∀ (n : Nat) (v : Nat), (6 - v) < n → (v ≤ 6) → ∀ (H : Heap) (locs : List Loc) (ls : Array Slot), wS (wE D cs ad) A s.heap (initC (i * 9 + j) σ v) H locs → lv_has ls 5 [(0, .ref (ad 4)), (1, .int (nI i)), (2, .int (nI j)), (3, .int (nI v))] → W p l e (rmF 5 124) s m ([.ref (ad 4), .int (nI i), .int (nI j)] : List Value).toArray below meth c H locs 0 0 (wQv (wE D cs ad) A (fun τ => τ = fstr n9 S i j σ) s below ([.ref (ad 4), .int (nI i), .int (nI j)] : List Value).toArray) (F0 m 2 ls []) := by
  obtain ⟨hx, hb, hml, hown, hts, hr, hlocks⟩ := id C
  have hg := ht.1
  have hn9 := ht.2.1
  have hln := ht.2.2
  have hP8 := hg.1
  have hS24 := hg.2.1
  intro n
  induction n with
  | zero => intro v h; exact absurd h (Nat.not_lt_zero _)
  | succ n ih =>
    intro v hn hv H locs ls hE hl
    refine lv_iload_n hx hb dT_fillStretch_2 rfl (lv_at hl 3 rfl) ?_
    refine lv_bipush (v := nI 6) hx hb dT_fillStretch_3 (by decide) ?_
    refine lv_icmp_ge (tgt := 27) hx hb dT_fillStretch_5 (by decide) (fun c1 => ?_) (fun c1 => ?_)
    · have c1 : 6 ≤ v := (nI_leI (by omega) (by omega)).mp c1
      refine lv_iconst (v := nI 1) hx hb dT_fillStretch_27 (by decide) ?_
      refine lv_istore_n (lv' := [(3, .int (nI 1)), (0, .ref (ad 4)), (1, .int (nI i)), (2, .int (nI j))]) hx hb dT_fillStretch_28 rfl hl (by decide) rfl (fun ls hl => ?_)
      refine lv_iconst (v := nI 0) hx hb dT_fillStretch_29 (by decide) ?_
      refine lv_istore (lv' := [(4, .int (nI 0)), (3, .int (nI 1)), (0, .ref (ad 4)), (1, .int (nI i)), (2, .int (nI j))]) hx hb dT_fillStretch_30 hl (by decide) rfl (fun ls hl => ?_)
      have ev2 : (nI 1 : Int32) = zb true := by rfl
      rw [ev2] at hl
      exact lp_T_fs2 C hk hA ht hi hj _ 0 true (initC (i * 9 + j) σ v) (Nat.lt_succ_self _) (by decide) (tS_of ht (fun q hq => initC_lo _ (by omega))) (by rw [show v = 6 by omega]; rfl) _ _ ls hE (lv_sub hl [2, 3, 4, 1, 0] rfl)
    · have c1 : ¬ (6 ≤ v) := fun h => c1 ((nI_leI (by omega) (by omega)).mpr h)
      refine lv_aload_n hx hb dT_fillStretch_8 rfl (lv_at hl 0 rfl) ?_
      refine w_get C hk hE (K := R_T) (T := F_T) (N := 4) (ci := 3) in_T 4 (Nat.le_of_ble_eq_true rfl) rfl rfl 2 (by decide) tw_88 rfl rfl dT_fillStretch_9 ?_
      refine lv_iload_n hx hb dT_fillStretch_12 rfl (lv_at hl 3 rfl) ?_
      refine w_aald C hk hE 13 (Nat.le_of_ble_eq_true rfl) (n := 6) (b := ad (v + 28)) rfl (by omega) (by decide) rfl dT_fillStretch_13 ?_
      refine lv_iload_n hx hb dT_fillStretch_14 rfl (lv_at hl 1 rfl) ?_
      refine lv_iload_n hx hb dT_fillStretch_15 rfl (lv_at hl 2 rfl) ?_
      refine w_ci hE hA (w_runS C hk hE hl.1 (As := [.int (nI i), .int (nI j)]) (rest := [.ref (ad (v + 28))]) (c_T_stretch l D cs ad (initC (i * 9 + j) σ v) i j _) tw_213 tw_214 tw_4 tw_215 (n := 2) (by decide +kernel) rfl rfl (Nat.le_of_ble_eq_true rfl) dT_fillStretch_16 ⟨Nat.le_of_ble_eq_true rfl, Nat.le_of_ble_eq_true rfl⟩ ⟨Nat.zero_le _, Nat.zero_le _⟩) (fun r3 τ4 H locs hp hE _ _ => ?_)
      refine w_top hp.1 ?_
      have hE := wS_eq hp.2 hE
      refine lv_iconst (v := (-1)) hx hb dT_fillStretch_19 (by decide) ?_
      refine w_iast C hk hE (v + 28) (by show _ < 58; omega) (n := 81) (fun _ => cE_v (ad := ad) (k := v)) (by omega) (by first | decide | omega) dT_fillStretch_20 (fun H locs hE => ?_)
      refine lv_iinc (v := nI (v + 1)) (lv' := [(3, .int (nI (v + 1))), (0, .ref (ad 4)), (1, .int (nI i)), (2, .int (nI j))]) hx hb dT_fillStretch_21 hl (k := 3) rfl (by exact nI_1 _) (by decide) rfl (fun ls hl => ?_)
      refine lv_goto (tgt := 2) hx hb dT_fillStretch_24 (by decide) ?_
      exact ih (v + 1) (by omega) (by omega) _ _ ls (wS_eq (show mset (initC (i * 9 + j) σ v) (v + 28) (i * 9 + j) (-1) = initC (i * 9 + j) σ (v + 1) by rfl) hE) (lv_sub hl [1, 2, 3, 0] rfl)
set_option maxHeartbeats 4000000 in
set_option maxRecDepth 100000 in
theorem c_T_fillStretch (l : Launch) (D : va_G) (cs : Nat → ClassId) (ad : Nat → Nat) (σ : Mem) (P S n9 i j : Nat) (ht : tS σ P S n9) (hi : i ≤ j) (hj : j < 9) : MetV l (wE D cs ad) cs yT_fillStretch bT_fillStretch 5 5 124 [.ref (ad 4), .int (nI i), .int (nI j)] σ (fun τ => τ = fstr n9 S i j σ) := by
  refine MetV.start (by decide) (Nat.le_of_ble_eq_true rfl) ?_
  intro p e s m below meth c A ls C hk hA hE hl
  obtain ⟨hx, hb, hml, hown, hts, hr, hlocks⟩ := id C
  have hl : lv_has ls 5 [(0, .ref (ad 4)), (1, .int (nI i)), (2, .int (nI j))] := hl
  have hg := ht.1
  have hn9 := ht.2.1
  have hln := ht.2.2
  have hP8 := hg.1
  have hS24 := hg.2.1
  refine lv_iconst (v := nI 0) hx hb dT_fillStretch_0 (by decide) ?_
  refine lv_istore_n (lv' := [(3, .int (nI 0)), (0, .ref (ad 4)), (1, .int (nI i)), (2, .int (nI j))]) hx hb dT_fillStretch_1 rfl hl (by decide) rfl (fun ls hl => ?_)
  exact lp_T_fs1 C hk hA ht hi hj _ 0 (Nat.lt_succ_self _) (by decide) _ _ ls (wS_eq (show σ = initC (i * 9 + j) σ 0 by rfl) hE) (lv_sub hl [1, 2, 3, 0] rfl)
set_option maxHeartbeats 4000000 in
set_option maxRecDepth 100000 in
theorem lp_T_fillUpTo {p : Program} {l : Launch} {e : Env} {s : State} {m : MethodId} {below : List Frame} {meth : Method} {c : Code} {D : va_G} {cs : Nat → ClassId} {ad : Nat → Nat} {A : Nat → Prop} {σ : Mem} {P S n9 j : Nat} (C : bC p s m ([.ref (ad 4), .int (nI j)] : List Value).toArray meth c bT_fillUpTo 3 "EarleyChart$StepTable" none) (hk : wk D cs s) (hA : ∀ q : Nat, s.heap.size ≤ q → A q) (ht : tS σ P S n9) (hj : j < 9)   :
    ∀ (n : Nat) (t : Nat) (μ : Mem), t < n → (t ≤ j + 1) → (tS μ P S n9) → (upF n9 S j t μ = upF n9 S j (j + 1) σ) → ∀ (H : Heap) (locs : List Loc) (ls : Array Slot), wS (wE D cs ad) A s.heap μ H locs → lv_has ls 3 [(0, .ref (ad 4)), (1, .int (nI j)), (2, .int (dn t))] → W p l e (rmF 6 148) s m ([.ref (ad 4), .int (nI j)] : List Value).toArray below meth c H locs 0 0 (wQv (wE D cs ad) A (fun τ => τ = upF n9 S j (j + 1) σ) s below ([.ref (ad 4), .int (nI j)] : List Value).toArray) (F0 m 2 ls []) := by
  obtain ⟨hx, hb, hml, hown, hts, hr, hlocks⟩ := id C
  have hg := ht.1
  have hn9 := ht.2.1
  have hln := ht.2.2
  have hP8 := hg.1
  have hS24 := hg.2.1
  intro n
  induction n with
  | zero => intro t μ h; exact absurd h (Nat.not_lt_zero _)
  | succ n ih =>
    intro t μ hn hi9 htμ hres H locs ls hE hl
    refine lv_iload_n hx hb dT_fillUpTo_2 rfl (lv_at hl 2 rfl) ?_
    refine lv_if_lt (tgt := 18) hx hb dT_fillUpTo_3 (by decide) (fun c1 => ?_) (fun c1 => ?_)
    · have ht0 := dn_lt (by omega) c1
      exact w_retv C hE (by rw [← hres, ht0]; rfl) dT_fillUpTo_18
    · obtain ⟨u, rfl⟩ := dn_ge c1
      have hl : lv_has ls 3 [(0, .ref (ad 4)), (1, .int (nI j)), (2, .int (nI u))] := hl
      refine lv_aload_n hx hb dT_fillUpTo_6 rfl (lv_at hl 0 rfl) ?_
      refine lv_iload_n hx hb dT_fillUpTo_7 rfl (lv_at hl 2 rfl) ?_
      refine lv_iload_n hx hb dT_fillUpTo_8 rfl (lv_at hl 1 rfl) ?_
      refine w_cv hE hA (w_runV C hk hE hl.1 (As := [.int (nI u), .int (nI j)]) (rest := []) (q := 4) (c_T_fillStretch l D cs ad μ P S n9 u j htμ (by omega) hj _) (Nat.le_of_ble_eq_true rfl) (ci := 3) (N := 4) (T := F_T) rfl rfl tw_209 tw_211 ts_6 tw_4 tw_212 (n := 2) (by decide +kernel) rfl rfl (Nat.le_of_ble_eq_true rfl) dT_fillUpTo_9 ⟨Nat.le_of_ble_eq_true rfl, Nat.le_of_ble_eq_true rfl⟩ ⟨Nat.zero_le _, Nat.zero_le _⟩) (fun τ3 H locs hp hE _ _ => ?_)
      have hE := wS_eq hp hE
      refine lv_iinc (v := (nI u) + -1) (lv' := [(2, .int ((nI u) + -1)), (0, .ref (ad 4)), (1, .int (nI j))]) hx hb dT_fillUpTo_12 hl (k := 2) rfl (rfl) (by decide) rfl (fun ls hl => ?_)
      refine lv_goto (tgt := 2) hx hb dT_fillUpTo_15 (by decide) ?_
      have ev4 : ((nI u) + -1 : Int32) = dn u := by exact dn_pred _
      rw [ev4] at hl
      exact ih u (fstr n9 S u j μ) (by omega) (by omega) (tS_of htμ (fun q hq => fstr_lo (by omega))) (by rw [← hres, upF]) _ _ ls hE (lv_sub hl [1, 2, 0] rfl)
set_option maxHeartbeats 4000000 in
set_option maxRecDepth 100000 in
theorem c_T_fillUpTo (l : Launch) (D : va_G) (cs : Nat → ClassId) (ad : Nat → Nat) (σ : Mem) (P S n9 j : Nat) (ht : tS σ P S n9) (hj : j < 9) : MetV l (wE D cs ad) cs yT_fillUpTo bT_fillUpTo 3 6 148 [.ref (ad 4), .int (nI j)] σ (fun τ => τ = upF n9 S j (j + 1) σ) := by
  refine MetV.start (by decide) (Nat.le_of_ble_eq_true rfl) ?_
  intro p e s m below meth c A ls C hk hA hE hl
  obtain ⟨hx, hb, hml, hown, hts, hr, hlocks⟩ := id C
  have hl : lv_has ls 3 [(0, .ref (ad 4)), (1, .int (nI j))] := hl
  have hg := ht.1
  have hn9 := ht.2.1
  have hln := ht.2.2
  have hP8 := hg.1
  have hS24 := hg.2.1
  refine lv_iload_n hx hb dT_fillUpTo_0 rfl (lv_at hl 1 rfl) ?_
  refine lv_istore_n (lv' := [(2, .int (nI j)), (0, .ref (ad 4)), (1, .int (nI j))]) hx hb dT_fillUpTo_1 rfl hl (by decide) rfl (fun ls hl => ?_)
  have ev1 : (nI j : Int32) = dn (j + 1) := by rfl
  rw [ev1] at hl
  exact lp_T_fillUpTo C hk hA ht hj _ (j + 1) σ (Nat.lt_succ_self _) (Nat.le_refl _) (ht) (rfl) _ _ ls hE (lv_sub hl [1, 2, 0] rfl)
end
section
def lowPC (σ : Mem) (n : Nat) (v : Int32) (i j p : Nat) : Bool := !decide (symS σ n v i j = (-1)) && (decide (σ 6 p = v) && decide (σ (gf σ p + 34) (i * 9 + j) = symS σ n v i j - nI 1))
def lowPF (σ : Mem) (n : Nat) (v : Int32) (i j : Nat) : Nat → Nat → Int32
  | 0, _ => (-1)
  | k + 1, p => if lowPC σ n v i j p = true then nI p else lowPF σ n v i j k (p + 1)
def lowP (σ : Mem) (P n : Nat) (v : Int32) (i j : Nat) : Int32 := lowPF σ n v i j P 0
theorem lowPF_of {σ : Mem} {n : Nat} {v : Int32} {i j : Nat} : ∀ (k p : Nat), lowPF σ n v i j k p = (-1) ∨ ∃ q, p ≤ q ∧ q < p + k ∧ lowPF σ n v i j k p = nI q ∧ lowPC σ n v i j q = true
  | 0, p => Or.inl rfl
  | k + 1, p => by
    rw [lowPF]
    by_cases h : lowPC σ n v i j p = true
    · rw [if_pos h]; exact Or.inr ⟨p, Nat.le_refl _, by omega, rfl, h⟩
    · rw [if_neg h]
      rcases lowPF_of k (p + 1) with e | ⟨q, h1, h2, h3, h4⟩
      · exact Or.inl e
      · exact Or.inr ⟨q, by omega, by omega, h3, h4⟩
theorem lowP_of {σ : Mem} {P n : Nat} {v : Int32} {i j : Nat} (hP : P ≤ 8) (h : ¬ lowP σ P n v i j = (-1)) : lowP σ P n v i j = nI (lowP σ P n v i j).toNatClampNeg ∧ (lowP σ P n v i j).toNatClampNeg < P := by
  rcases lowPF_of (σ := σ) (n := n) (v := v) (i := i) (j := j) P 0 with e | ⟨q, h1, h2, h3, h4⟩
  · exact absurd e h
  · have e : lowP σ P n v i j = nI q := h3
    rw [e, nI_clamp (by omega)]
    exact ⟨rfl, by omega⟩
def shC (σ : Mem) (n S t i j m : Nat) : Bool := !decide (σ (t + 34) (i * 9 + j) = (-1)) && decide (splitS σ n S t i m j = σ (t + 34) (i * 9 + j))
def shF (σ : Mem) (n S t i j : Nat) : Nat → Nat → Nat
  | 0, m => m
  | k + 1, m => if shC σ n S t i j m = true then m else shF σ n S t i j k (m + 1)
def shE (σ : Mem) (n S t i j : Nat) : Nat := shF σ n S t i j (j - i) i
theorem shF_in {σ : Mem} {n S t i j : Nat} : ∀ (k m : Nat), m ≤ shF σ n S t i j k m ∧ shF σ n S t i j k m ≤ m + k
  | 0, m => ⟨Nat.le_refl _, Nat.le_refl _⟩
  | k + 1, m => by
    rw [shF]
    split
    · exact ⟨Nat.le_refl _, by omega⟩
    · have := shF_in (σ := σ) (n := n) (S := S) (t := t) (i := i) (j := j) k (m + 1)
      omega
theorem shE_in {σ : Mem} {n S t i j : Nat} (h : i ≤ j) : i ≤ shE σ n S t i j ∧ shE σ n S t i j ≤ j := by
  have := shF_in (σ := σ) (n := n) (S := S) (t := t) (i := i) (j := j) (j - i) i
  unfold shE
  omega
def openM (σ : Mem) (P n : Nat) (v : Int32) (i j d c : Nat) : Mem :=
  if lowP σ P n v i j = (-1) then σ else if d < 54 then (if c < 8000 then
    mset (mset (mset (mset (mset (mset σ 15 c (lowP σ P n v i j)) 5 3 (nI (c + 1))) 16 d (σ 7 (lowP σ P n v i j).toNatClampNeg)) 17 d (nI i)) 18 d (nI j)) 5 7 (nI (d + 1))
  else mset σ 5 7 (nI 0)) else σ
def go1 (σ : Mem) (n S d t a b : Nat) : Mem := mset (mset σ 16 d (nI (t + 1))) 17 d (nI (shE σ n S t a b))
def goM (σ : Mem) (P S n d t a b c : Nat) : Mem := if σ 8 t = (-1) then mset σ 5 7 (nI d) else if isV (σ 8 t) = true then openM (go1 σ n S d t a b) P n (σ 8 t) a (shE σ n S t a b) (d + 1) c else go1 σ n S d t a b
/-- what the witness's stack holds: slots of the grammar, each with a stretch of the input -/
def wI (μ : Mem) (P S n d c : Nat) : Prop := tS μ P S n ∧ d ≤ 54 ∧ c ≤ 8000 ∧ μ 5 7 = nI d ∧ μ 5 3 = nI c ∧ ∀ e, e < d → ∃ t a b, t < S ∧ a ≤ b ∧ b ≤ n ∧ μ 16 e = nI t ∧ μ 17 e = nI a ∧ μ 18 e = nI b
def wd (μ : Mem) : Nat := (μ 5 7).toNatClampNeg
def wc (μ : Mem) : Nat := (μ 5 3).toNatClampNeg
def goT (P S n : Nat) (μ : Mem) : Mem := goM μ P S n (wd μ - 1) (μ 16 (wd μ - 1)).toNatClampNeg (μ 17 (wd μ - 1)).toNatClampNeg (μ 18 (wd μ - 1)).toNatClampNeg (wc μ)
def tellF (P S n : Nat) : Nat → Mem → Mem
  | 0, μ => μ
  | k + 1, μ => if 0 < wd μ then tellF P S n k (goT P S n μ) else μ
theorem tS_low {σ τ : Mem} {P S n : Nat} (h : tS σ P S n) (he : ∀ q, q ≠ 5 → q < 15 → τ q = σ q) : tS τ P S n :=
  ⟨gS_of h.1 (he 1 (by decide) (by decide)) (he 6 (by decide) (by decide)) (he 7 (by decide) (by decide)) (he 8 (by decide) (by decide)) (he 9 (by decide) (by decide)), h.2.1, by rw [he 2 (by decide) (by decide)]; exact h.2.2⟩
theorem mset_n {σ : Mem} {q k i : Nat} {x : Int32} (h : q ≠ k) : mset σ k i x q = σ q := mrow_n h
theorem mset_s {σ : Mem} {k i : Nat} {x : Int32} : mset σ k i x k i = x := by simp [mset, mrow, upd]
theorem mset_i {σ : Mem} {k i j : Nat} {x : Int32} (h : j ≠ i) : mset σ k i x k j = σ k j := by simp [mset, mrow, upd, h]
theorem openM_tS {σ : Mem} {P S n i j d c : Nat} {v : Int32} (h : tS σ P S n) : tS (openM σ P n v i j d c) P S n := by
  refine tS_low h (fun q h5 h15 => ?_)
  unfold openM
  split
  · rfl
  · split
    · split
      · rw [mset_n h5, mset_n (by omega), mset_n (by omega), mset_n (by omega), mset_n h5, mset_n (by omega)]
      · rw [mset_n h5]
    · rfl
theorem openM_wI {σ : Mem} {P S n i j d c : Nat} {v : Int32} (h : wI σ P S n d c) (hij : i ≤ j) (hj : j ≤ n) : ∃ d1 c1, wI (openM σ P n v i j d c) P S n d1 c1 := by
  obtain ⟨hT, h1, h2, h3, h4, h5⟩ := h
  have hT' := openM_tS (i := i) (j := j) (d := d) (c := c) (v := v) hT
  by_cases e1 : lowP σ P n v i j = (-1)
  · exact ⟨d, c, by unfold openM; rw [if_pos e1]; exact ⟨hT, h1, h2, h3, h4, h5⟩⟩
  · by_cases e2 : d < 54
    · by_cases e3 : c < 8000
      · refine ⟨d + 1, c + 1, hT', by omega, by omega, ?_⟩
        unfold openM
        rw [if_neg e1, if_pos e2, if_pos e3]
        refine ⟨mset_s, ?_, ?_⟩
        · rw [mset_i (by decide), mset_n (by decide), mset_n (by decide), mset_n (by decide), mset_s]
        · intro e he
          obtain ⟨hl1, hl2⟩ := lowP_of hT.1.1 e1
          have hf := (hT.1.2.2.2.2.1 _ hl2).2.2
          by_cases ed : e = d
          · subst ed
            refine ⟨gf σ (lowP σ P n v i j).toNatClampNeg, i, j, hf.2, hij, hj, ?_, ?_, ?_⟩
            · rw [mset_n (by decide), mset_n (by decide), mset_n (by decide), mset_s]; exact hf.1
            · rw [mset_n (by decide), mset_n (by decide), mset_s]
            · rw [mset_n (by decide), mset_s]
          · obtain ⟨t, a, b, q1, q2, q3, q4, q5, q6⟩ := h5 e (by omega)
            refine ⟨t, a, b, q1, q2, q3, ?_, ?_, ?_⟩
            · rw [mset_n (by decide), mset_n (by decide), mset_n (by decide), mset_i ed, mset_n (by decide), mset_n (by decide)]; exact q4
            · rw [mset_n (by decide), mset_n (by decide), mset_i ed, mset_n (by decide), mset_n (by decide), mset_n (by decide)]; exact q5
            · rw [mset_n (by decide), mset_i ed, mset_n (by decide), mset_n (by decide), mset_n (by decide), mset_n (by decide)]; exact q6
      · refine ⟨0, c, hT', by omega, h2, ?_⟩
        unfold openM
        rw [if_neg e1, if_pos e2, if_neg e3]
        exact ⟨mset_s, by rw [mset_i (by decide)]; exact h4, fun e he => absurd he (Nat.not_lt_zero _)⟩
    · exact ⟨d, c, by unfold openM; rw [if_neg e1, if_neg e2]; exact ⟨hT, h1, h2, h3, h4, h5⟩⟩
theorem go1_tS {σ : Mem} {P S n d t a b : Nat} (h : tS σ P S n) : tS (go1 σ n S d t a b) P S n :=
  tS_low h (fun q _ h15 => by unfold go1; rw [mset_n (by omega), mset_n (by omega)])
theorem goM_wI {σ : Mem} {P S n d c t a b : Nat} (h : wI σ P S n (d + 1) c) (ht : σ 16 d = nI t) (ha : σ 17 d = nI a) (hb : σ 18 d = nI b) (htS : t < S) (hab : a ≤ b) (hbn : b ≤ n) : ∃ d1 c1, wI (goM σ P S n d t a b c) P S n d1 c1 := by
  obtain ⟨hT, h1, h2, h3, h4, h5⟩ := h
  unfold goM
  by_cases e1 : σ 8 t = (-1)
  · rw [if_pos e1]
    refine ⟨d, c, tS_low hT (fun q h5 _ => mset_n h5), by omega, h2, mset_s, by rw [mset_i (by decide)]; exact h4, fun e he => ?_⟩
    obtain ⟨t', a', b', q1, q2, q3, q4, q5, q6⟩ := h5 e (by omega)
    exact ⟨t', a', b', q1, q2, q3, by rw [mset_n (by decide)]; exact q4, by rw [mset_n (by decide)]; exact q5, by rw [mset_n (by decide)]; exact q6⟩
  · rw [if_neg e1]
    have hm := shE_in (σ := σ) (n := n) (S := S) (t := t) hab
    have hg : wI (go1 σ n S d t a b) P S n (d + 1) c := by
      refine ⟨go1_tS hT, h1, h2, by unfold go1; rw [mset_n (by decide), mset_n (by decide)]; exact h3, by unfold go1; rw [mset_n (by decide), mset_n (by decide)]; exact h4, fun e he => ?_⟩
      unfold go1
      by_cases ed : e = d
      · subst ed
        rcases hT.1.2.2.2.2.2.2 t htS with q | ⟨q, -, -⟩
        · exact absurd q e1
        · exact ⟨t + 1, shE σ n S t a b, b, q, hm.2, hbn, by rw [mset_n (by decide), mset_s], mset_s, by rw [mset_n (by decide), mset_n (by decide)]; exact hb⟩
      · obtain ⟨t', a', b', q1, q2, q3, q4, q5, q6⟩ := h5 e he
        exact ⟨t', a', b', q1, q2, q3, by rw [mset_n (by decide), mset_i ed]; exact q4, by rw [mset_i ed, mset_n (by decide)]; exact q5, by rw [mset_n (by decide), mset_n (by decide)]; exact q6⟩
    by_cases e2 : isV (σ 8 t) = true
    · rw [if_pos e2]
      exact openM_wI hg hm.1 (by omega)
    · rw [if_neg e2]
      exact ⟨d + 1, c, hg⟩
theorem goT_eq {μ : Mem} {P S n d c t a b : Nat} (h : wI μ P S n (d + 1) c) (ht : μ 16 d = nI t) (ha : μ 17 d = nI a) (hb : μ 18 d = nI b) (htS : t < S) (hab : a ≤ b) (hbn : b ≤ n) : goM μ P S n d t a b c = goT P S n μ := by
  obtain ⟨hT, h1, h2, h3, h4, -⟩ := h
  have hS := hT.1.2.1
  have hn := hT.2.1
  have e1 : wd μ = d + 1 := by unfold wd; rw [h3, nI_clamp (by omega)]
  have e2 : wc μ = c := by unfold wc; rw [h4, nI_clamp (by omega)]
  unfold goT
  rw [e1, e2, Nat.add_sub_cancel, ht, ha, hb, nI_clamp (by omega), nI_clamp (by omega), nI_clamp (by omega)]
theorem tellF_stop {P S n : Nat} {μ : Mem} (h : ¬ 0 < wd μ) : ∀ k, tellF P S n k μ = μ
  | 0 => rfl
  | k + 1 => by rw [tellF, if_neg h]
end
section
set_option maxHeartbeats 4000000 in
set_option maxRecDepth 100000 in
theorem lp_W_lowest {p : Program} {l : Launch} {e : Env} {s : State} {m : MethodId} {below : List Frame} {meth : Method} {c : Code} {D : va_G} {cs : Nat → ClassId} {ad : Nat → Nat} {A : Nat → Prop} {σ : Mem} {P S n9 : Nat} {v : Int32} {i j : Nat} (C : bC p s m ([.ref (ad 5), .int v, .int (nI i), .int (nI j)] : List Value).toArray meth c bW_lowestProduction 6 "EarleyChart$Witness" (some .int)) (hk : wk D cs s) (hA : ∀ q : Nat, s.heap.size ≤ q → A q) (ht : tS σ P S n9) (hi : i < 9) (hj : j < 9)   :
    ∀ (n : Nat) (p9 : Nat), (P - p9) < n → (p9 ≤ P) → (lowPF σ n9 v i j (P - p9) p9 = lowPF σ n9 v i j P 0) → ∀ (H : Heap) (locs : List Loc) (ls : Array Slot), wS (wE D cs ad) A s.heap σ H locs → lv_has ls 6 [(0, .ref (ad 5)), (1, .int v), (2, .int (nI i)), (3, .int (nI j)), (4, .int (symS σ n9 v i j)), (5, .int (nI p9))] → W p l e (rmF 2 46) s m ([.ref (ad 5), .int v, .int (nI i), .int (nI j)] : List Value).toArray below meth c H locs 0 0 (wQi (wE D cs ad) A (fun r τ => r = lowP σ P n9 v i j ∧ τ = σ) s below ([.ref (ad 5), .int v, .int (nI i), .int (nI j)] : List Value).toArray) (F0 m 15 ls []) := by
  obtain ⟨hx, hb, hml, hown, hts, hr, hlocks⟩ := id C
  have hg := ht.1
  have hn9 := ht.2.1
  have hln := ht.2.2
  have hP8 := hg.1
  have hS24 := hg.2.1
  intro n
  induction n with
  | zero => intro p9 h; exact absurd h (Nat.not_lt_zero _)
  | succ n ih =>
    intro p9 hn hp9 hB H locs ls hE hl
    refine lv_iload hx hb dW_lowestProduction_15 (lv_at hl 5 rfl) ?_
    refine lv_aload_n hx hb dW_lowestProduction_17 rfl (lv_at hl 0 rfl) ?_
    refine w_get C hk hE (K := R_W) (T := F_W) (N := 8) (ci := 4) in_W 5 (Nat.le_of_ble_eq_true rfl) rfl rfl 0 (by decide) tw_122 rfl rfl dW_lowestProduction_18 ?_
    refine w_get C hk hE (K := R_G) (T := F_G) (N := 6) (ci := 0) in_G 1 (Nat.le_of_ble_eq_true rfl) rfl rfl 4 (by decide) tw_46 rfl rfl dW_lowestProduction_21 ?_
    refine w_top (y := nI P) (hg.2.2.1) ?_
    refine lv_icmp_ge (tgt := 82) hx hb dW_lowestProduction_24 (by decide) (fun c1 => ?_) (fun c1 => ?_)
    · have c1 : P ≤ p9 := (nI_leI (by omega) (by omega)).mp c1
      refine lv_iconst (v := (-1)) hx hb dW_lowestProduction_82 (by decide) ?_
      exact w_reti C hE (⟨by rw [lowP, ← hB, show P - p9 = 0 by omega]; rfl, rfl⟩) dW_lowestProduction_83
    · have c1 : ¬ (P ≤ p9) := fun h => c1 ((nI_leI (by omega) (by omega)).mpr h)
      obtain ⟨h6, h6b, h7, h7b⟩ := hg.2.2.2.2.1 p9 (by omega)
      refine lv_iload hx hb dW_lowestProduction_27 (lv_at hl 4 rfl) ?_
      refine lv_iconst (v := (-1)) hx hb dW_lowestProduction_29 (by decide) ?_
      refine lv_icmp_eq (tgt := 76) hx hb dW_lowestProduction_30 (by decide) (fun c2 => ?_) (fun c2 => ?_)
      · refine lv_iinc (v := nI (p9 + 1)) (lv' := [(5, .int (nI (p9 + 1))), (0, .ref (ad 5)), (1, .int v), (2, .int (nI i)), (3, .int (nI j)), (4, .int (symS σ n9 v i j))]) hx hb dW_lowestProduction_76 hl (k := 5) rfl (by exact nI_1 _) (by decide) rfl (fun ls hl => ?_)
        refine lv_goto (tgt := 15) hx hb dW_lowestProduction_79 (by decide) ?_
        exact ih (p9 + 1) (by omega) (by omega) (by rw [← hB, show P - p9 = (P - (p9 + 1)) + 1 by omega, lowPF, if_neg (by simp [lowPC, c2])]) _ _ ls hE (lv_sub hl [1, 2, 3, 4, 5, 0] rfl)
      · refine lv_aload_n hx hb dW_lowestProduction_33 rfl (lv_at hl 0 rfl) ?_
        refine w_get C hk hE (K := R_W) (T := F_W) (N := 8) (ci := 4) in_W 5 (Nat.le_of_ble_eq_true rfl) rfl rfl 0 (by decide) tw_122 rfl rfl dW_lowestProduction_34 ?_
        refine w_get C hk hE (K := R_G) (T := F_G) (N := 6) (ci := 0) in_G 1 (Nat.le_of_ble_eq_true rfl) rfl rfl 0 (by decide) tw_32 rfl rfl dW_lowestProduction_37 ?_
        refine lv_iload hx hb dW_lowestProduction_40 (lv_at hl 5 rfl) ?_
        refine w_iald C hk hE 6 (by exact Nat.le_of_ble_eq_true rfl) (n := 8) rfl (by omega) (by first | decide | omega) dW_lowestProduction_42 ?_
        refine lv_iload_n hx hb dW_lowestProduction_43 rfl (lv_at hl 1 rfl) ?_
        refine lv_icmp_ne (tgt := 76) hx hb dW_lowestProduction_44 (by decide) (fun c3 => ?_) (fun c3 => ?_)
        · refine lv_iinc (v := nI (p9 + 1)) (lv' := [(5, .int (nI (p9 + 1))), (0, .ref (ad 5)), (1, .int v), (2, .int (nI i)), (3, .int (nI j)), (4, .int (symS σ n9 v i j))]) hx hb dW_lowestProduction_76 hl (k := 5) rfl (by exact nI_1 _) (by decide) rfl (fun ls hl => ?_)
          refine lv_goto (tgt := 15) hx hb dW_lowestProduction_79 (by decide) ?_
          exact ih (p9 + 1) (by omega) (by omega) (by rw [← hB, show P - p9 = (P - (p9 + 1)) + 1 by omega, lowPF, if_neg (by simp [lowPC, c2, c3])]) _ _ ls hE (lv_sub hl [1, 2, 3, 4, 5, 0] rfl)
        · refine lv_aload_n hx hb dW_lowestProduction_47 rfl (lv_at hl 0 rfl) ?_
          refine w_get C hk hE (K := R_W) (T := F_W) (N := 8) (ci := 4) in_W 5 (Nat.le_of_ble_eq_true rfl) rfl rfl 1 (by decide) tw_123 rfl rfl dW_lowestProduction_48 ?_
          refine lv_aload_n hx hb dW_lowestProduction_51 rfl (lv_at hl 0 rfl) ?_
          refine w_get C hk hE (K := R_W) (T := F_W) (N := 8) (ci := 4) in_W 5 (Nat.le_of_ble_eq_true rfl) rfl rfl 0 (by decide) tw_122 rfl rfl dW_lowestProduction_52 ?_
          refine w_get C hk hE (K := R_G) (T := F_G) (N := 6) (ci := 0) in_G 1 (Nat.le_of_ble_eq_true rfl) rfl rfl 1 (by decide) tw_35 rfl rfl dW_lowestProduction_55 ?_
          refine lv_iload hx hb dW_lowestProduction_58 (lv_at hl 5 rfl) ?_
          refine w_iald C hk hE 7 (by exact Nat.le_of_ble_eq_true rfl) (n := 8) rfl (by omega) (by first | decide | omega) dW_lowestProduction_60 ?_
          refine w_top (y := nI (gf σ p9)) (h7) ?_
          refine lv_iload_n hx hb dW_lowestProduction_61 rfl (lv_at hl 2 rfl) ?_
          refine lv_iload_n hx hb dW_lowestProduction_62 rfl (lv_at hl 3 rfl) ?_
          refine w_ci hE hA (w_runV C hk hE hl.1 (As := [.int (nI (gf σ p9)), .int (nI i), .int (nI j)]) (rest := []) (q := 4) (c_T_ofRow l D cs ad σ (gf σ p9) i j (by omega) hi hj _) (Nat.le_of_ble_eq_true rfl) (ci := 3) (N := 4) (T := F_T) rfl rfl tw_495 tw_238 tw_239 tw_4 tw_240 (n := 3) (by decide +kernel) rfl rfl (Nat.le_of_ble_eq_true rfl) dW_lowestProduction_63 ⟨Nat.le_of_ble_eq_true rfl, Nat.le_of_ble_eq_true rfl⟩ ⟨Nat.zero_le _, Nat.zero_le _⟩) (fun r4 τ5 H locs hp hE _ _ => ?_)
          refine w_top hp.1 ?_
          have hE := wS_eq hp.2 hE
          refine lv_iload hx hb dW_lowestProduction_66 (lv_at hl 4 rfl) ?_
          refine lv_iconst (v := nI 1) hx hb dW_lowestProduction_68 (by decide) ?_
          refine lv_isub hx hb dW_lowestProduction_69 ?_
          refine lv_icmp_ne (tgt := 76) hx hb dW_lowestProduction_70 (by decide) (fun c6 => ?_) (fun c6 => ?_)
          · refine lv_iinc (v := nI (p9 + 1)) (lv' := [(5, .int (nI (p9 + 1))), (0, .ref (ad 5)), (1, .int v), (2, .int (nI i)), (3, .int (nI j)), (4, .int (symS σ n9 v i j))]) hx hb dW_lowestProduction_76 hl (k := 5) rfl (by exact nI_1 _) (by decide) rfl (fun ls hl => ?_)
            refine lv_goto (tgt := 15) hx hb dW_lowestProduction_79 (by decide) ?_
            exact ih (p9 + 1) (by omega) (by omega) (by rw [← hB, show P - p9 = (P - (p9 + 1)) + 1 by omega, lowPF, if_neg (by simp [lowPC, c2, c3, c6])]) _ _ ls hE (lv_sub hl [1, 2, 3, 4, 5, 0] rfl)
          · refine lv_iload hx hb dW_lowestProduction_73 (lv_at hl 5 rfl) ?_
            exact w_reti C hE (⟨by rw [lowP, ← hB, show P - p9 = (P - (p9 + 1)) + 1 by omega, lowPF, if_pos (by simp [lowPC, c2, c3, c6])], rfl⟩) dW_lowestProduction_75
set_option maxHeartbeats 4000000 in
set_option maxRecDepth 100000 in
theorem c_W_lowestProduction (l : Launch) (D : va_G) (cs : Nat → ClassId) (ad : Nat → Nat) (σ : Mem) (P S n9 : Nat) (v : Int32) (i j : Nat) (ht : tS σ P S n9) (hi : i < 9) (hj : j < 9) : MetI l (wE D cs ad) cs yW_lowestProduction bW_lowestProduction 6 (some .int) 2 46 [.ref (ad 5), .int v, .int (nI i), .int (nI j)] σ (fun r τ => r = lowP σ P n9 v i j ∧ τ = σ) := by
  refine MetI.start (by decide) (Nat.le_of_ble_eq_true rfl) ?_
  intro p e s m below meth c A ls C hk hA hE hl
  obtain ⟨hx, hb, hml, hown, hts, hr, hlocks⟩ := id C
  have hl : lv_has ls 6 [(0, .ref (ad 5)), (1, .int v), (2, .int (nI i)), (3, .int (nI j))] := hl
  have hg := ht.1
  have hn9 := ht.2.1
  have hln := ht.2.2
  have hP8 := hg.1
  have hS24 := hg.2.1
  refine lv_aload_n hx hb dW_lowestProduction_0 rfl (lv_at hl 0 rfl) ?_
  refine w_get C hk hE (K := R_W) (T := F_W) (N := 8) (ci := 4) in_W 5 (Nat.le_of_ble_eq_true rfl) rfl rfl 1 (by decide) tw_123 rfl rfl dW_lowestProduction_1 ?_
  refine lv_iload_n hx hb dW_lowestProduction_4 rfl (lv_at hl 1 rfl) ?_
  refine lv_iload_n hx hb dW_lowestProduction_5 rfl (lv_at hl 2 rfl) ?_
  refine lv_iload_n hx hb dW_lowestProduction_6 rfl (lv_at hl 3 rfl) ?_
  refine w_ci hE hA (w_runV C hk hE hl.1 (As := [.int v, .int (nI i), .int (nI j)]) (rest := []) (q := 4) (c_T_ofSymbol l D cs ad σ P S n9 v i j ht hi hj _) (Nat.le_of_ble_eq_true rfl) (ci := 3) (N := 4) (T := F_T) rfl rfl tw_494 tw_229 tw_230 tw_4 tw_231 (n := 3) (by decide +kernel) rfl rfl (Nat.le_of_ble_eq_true rfl) dW_lowestProduction_7 ⟨Nat.le_of_ble_eq_true rfl, Nat.le_of_ble_eq_true rfl⟩ ⟨Nat.zero_le _, Nat.zero_le _⟩) (fun r1 τ2 H locs hp hE _ _ => ?_)
  refine w_top hp.1 ?_
  have hE := wS_eq hp.2 hE
  refine lv_istore (lv' := [(4, .int (symS σ n9 v i j)), (0, .ref (ad 5)), (1, .int v), (2, .int (nI i)), (3, .int (nI j))]) hx hb dW_lowestProduction_10 hl (by decide) rfl (fun ls hl => ?_)
  refine lv_iconst (v := nI 0) hx hb dW_lowestProduction_12 (by decide) ?_
  refine lv_istore (lv' := [(5, .int (nI 0)), (4, .int (symS σ n9 v i j)), (0, .ref (ad 5)), (1, .int v), (2, .int (nI i)), (3, .int (nI j))]) hx hb dW_lowestProduction_13 hl (by decide) rfl (fun ls hl => ?_)
  exact lp_W_lowest C hk hA ht hi hj _ 0 (Nat.lt_succ_self _) (Nat.zero_le _) (rfl) _ _ ls hE (lv_sub hl [2, 3, 4, 5, 1, 0] rfl)
set_option maxHeartbeats 4000000 in
set_option maxRecDepth 100000 in
theorem lp_W_shortest {p : Program} {l : Launch} {e : Env} {s : State} {m : MethodId} {below : List Frame} {meth : Method} {c : Code} {D : va_G} {cs : Nat → ClassId} {ad : Nat → Nat} {A : Nat → Prop} {σ : Mem} {P S n9 t i j : Nat} (C : bC p s m ([.ref (ad 5), .int (nI t), .int (nI i), .int (nI j)] : List Value).toArray meth c bW_shortestEnd 6 "EarleyChart$Witness" (some .int)) (hk : wk D cs s) (hA : ∀ q : Nat, s.heap.size ≤ q → A q) (ht : tS σ P S n9) (htS : t < 24) (hi : i ≤ j) (hj : j < 9)   :
    ∀ (n : Nat) (k9 : Nat), (j - k9) < n → (i ≤ k9) → (k9 ≤ j) → (shF σ n9 S t i j (j - k9) k9 = shF σ n9 S t i j (j - i) i) → ∀ (H : Heap) (locs : List Loc) (ls : Array Slot), wS (wE D cs ad) A s.heap σ H locs → lv_has ls 6 [(0, .ref (ad 5)), (1, .int (nI t)), (2, .int (nI i)), (3, .int (nI j)), (4, .int (σ (t + 34) (i * 9 + j))), (5, .int (nI k9))] → W p l e (rmF 3 72) s m ([.ref (ad 5), .int (nI t), .int (nI i), .int (nI j)] : List Value).toArray below meth c H locs 0 0 (wQi (wE D cs ad) A (fun r τ => r = nI (shE σ n9 S t i j) ∧ τ = σ) s below ([.ref (ad 5), .int (nI t), .int (nI i), .int (nI j)] : List Value).toArray) (F0 m 15 ls []) := by
  obtain ⟨hx, hb, hml, hown, hts, hr, hlocks⟩ := id C
  have hg := ht.1
  have hn9 := ht.2.1
  have hln := ht.2.2
  have hP8 := hg.1
  have hS24 := hg.2.1
  intro n
  induction n with
  | zero => intro k9 h; exact absurd h (Nat.not_lt_zero _)
  | succ n ih =>
    intro k9 hn hk1 hk2 hB H locs ls hE hl
    refine lv_iload hx hb dW_shortestEnd_15 (lv_at hl 5 rfl) ?_
    refine lv_iload_n hx hb dW_shortestEnd_17 rfl (lv_at hl 3 rfl) ?_
    refine lv_icmp_ge (tgt := 53) hx hb dW_shortestEnd_18 (by decide) (fun c1 => ?_) (fun c1 => ?_)
    · have c1 : j ≤ k9 := (nI_leI (by omega) (by omega)).mp c1
      refine lv_iload_n hx hb dW_shortestEnd_53 rfl (lv_at hl 3 rfl) ?_
      exact w_reti C hE (⟨by rw [shE, ← hB, show j - k9 = 0 by omega, shF, show k9 = j by omega], rfl⟩) dW_shortestEnd_54
    · have c1 : ¬ (j ≤ k9) := fun h => c1 ((nI_leI (by omega) (by omega)).mpr h)
      refine lv_iload hx hb dW_shortestEnd_21 (lv_at hl 4 rfl) ?_
      refine lv_iconst (v := (-1)) hx hb dW_shortestEnd_23 (by decide) ?_
      refine lv_icmp_eq (tgt := 47) hx hb dW_shortestEnd_24 (by decide) (fun c2 => ?_) (fun c2 => ?_)
      · refine lv_iinc (v := nI (k9 + 1)) (lv' := [(5, .int (nI (k9 + 1))), (0, .ref (ad 5)), (1, .int (nI t)), (2, .int (nI i)), (3, .int (nI j)), (4, .int (σ (t + 34) (i * 9 + j)))]) hx hb dW_shortestEnd_47 hl (k := 5) rfl (by exact nI_1 _) (by decide) rfl (fun ls hl => ?_)
        refine lv_goto (tgt := 15) hx hb dW_shortestEnd_50 (by decide) ?_
        exact ih (k9 + 1) (by omega) (by omega) (by omega) (by rw [← hB, show j - k9 = (j - (k9 + 1)) + 1 by omega, shF, if_neg (by simp [shC, c2])]) _ _ ls hE (lv_sub hl [1, 2, 3, 4, 5, 0] rfl)
      · refine lv_aload_n hx hb dW_shortestEnd_27 rfl (lv_at hl 0 rfl) ?_
        refine w_get C hk hE (K := R_W) (T := F_W) (N := 8) (ci := 4) in_W 5 (Nat.le_of_ble_eq_true rfl) rfl rfl 1 (by decide) tw_123 rfl rfl dW_shortestEnd_28 ?_
        refine lv_iload_n hx hb dW_shortestEnd_31 rfl (lv_at hl 1 rfl) ?_
        refine lv_iload_n hx hb dW_shortestEnd_32 rfl (lv_at hl 2 rfl) ?_
        refine lv_iload hx hb dW_shortestEnd_33 (lv_at hl 5 rfl) ?_
        refine lv_iload_n hx hb dW_shortestEnd_35 rfl (lv_at hl 3 rfl) ?_
        refine w_ci hE hA (w_runV C hk hE hl.1 (As := [.int (nI t), .int (nI i), .int (nI k9), .int (nI j)]) (rest := []) (q := 4) (c_T_ofSplitRow l D cs ad σ P S n9 t i k9 j ht htS (by omega) (by omega) hj _) (Nat.le_of_ble_eq_true rfl) (ci := 3) (N := 4) (T := F_T) rfl rfl tw_505 tw_225 tw_226 tw_4 tw_227 (n := 4) (by decide +kernel) rfl rfl (Nat.le_of_ble_eq_true rfl) dW_shortestEnd_36 ⟨Nat.le_of_ble_eq_true rfl, Nat.le_of_ble_eq_true rfl⟩ ⟨Nat.zero_le _, Nat.zero_le _⟩) (fun r3 τ4 H locs hp hE _ _ => ?_)
        refine w_top hp.1 ?_
        have hE := wS_eq hp.2 hE
        refine lv_iload hx hb dW_shortestEnd_39 (lv_at hl 4 rfl) ?_
        refine lv_icmp_ne (tgt := 47) hx hb dW_shortestEnd_41 (by decide) (fun c5 => ?_) (fun c5 => ?_)
        · refine lv_iinc (v := nI (k9 + 1)) (lv' := [(5, .int (nI (k9 + 1))), (0, .ref (ad 5)), (1, .int (nI t)), (2, .int (nI i)), (3, .int (nI j)), (4, .int (σ (t + 34) (i * 9 + j)))]) hx hb dW_shortestEnd_47 hl (k := 5) rfl (by exact nI_1 _) (by decide) rfl (fun ls hl => ?_)
          refine lv_goto (tgt := 15) hx hb dW_shortestEnd_50 (by decide) ?_
          exact ih (k9 + 1) (by omega) (by omega) (by omega) (by rw [← hB, show j - k9 = (j - (k9 + 1)) + 1 by omega, shF, if_neg (by simp [shC, c2, c5])]) _ _ ls hE (lv_sub hl [1, 2, 3, 4, 5, 0] rfl)
        · refine lv_iload hx hb dW_shortestEnd_44 (lv_at hl 5 rfl) ?_
          exact w_reti C hE (⟨by rw [shE, ← hB, show j - k9 = (j - (k9 + 1)) + 1 by omega, shF, if_pos (by simp [shC, c2, c5])], rfl⟩) dW_shortestEnd_46
set_option maxHeartbeats 4000000 in
set_option maxRecDepth 100000 in
theorem c_W_shortestEnd (l : Launch) (D : va_G) (cs : Nat → ClassId) (ad : Nat → Nat) (σ : Mem) (P S n9 t i j : Nat) (ht : tS σ P S n9) (htS : t < 24) (hi : i ≤ j) (hj : j < 9) : MetI l (wE D cs ad) cs yW_shortestEnd bW_shortestEnd 6 (some .int) 3 72 [.ref (ad 5), .int (nI t), .int (nI i), .int (nI j)] σ (fun r τ => r = nI (shE σ n9 S t i j) ∧ τ = σ) := by
  refine MetI.start (by decide) (Nat.le_of_ble_eq_true rfl) ?_
  intro p e s m below meth c A ls C hk hA hE hl
  obtain ⟨hx, hb, hml, hown, hts, hr, hlocks⟩ := id C
  have hl : lv_has ls 6 [(0, .ref (ad 5)), (1, .int (nI t)), (2, .int (nI i)), (3, .int (nI j))] := hl
  have hg := ht.1
  have hn9 := ht.2.1
  have hln := ht.2.2
  have hP8 := hg.1
  have hS24 := hg.2.1
  refine lv_aload_n hx hb dW_shortestEnd_0 rfl (lv_at hl 0 rfl) ?_
  refine w_get C hk hE (K := R_W) (T := F_W) (N := 8) (ci := 4) in_W 5 (Nat.le_of_ble_eq_true rfl) rfl rfl 1 (by decide) tw_123 rfl rfl dW_shortestEnd_1 ?_
  refine lv_iload_n hx hb dW_shortestEnd_4 rfl (lv_at hl 1 rfl) ?_
  refine lv_iload_n hx hb dW_shortestEnd_5 rfl (lv_at hl 2 rfl) ?_
  refine lv_iload_n hx hb dW_shortestEnd_6 rfl (lv_at hl 3 rfl) ?_
  refine w_ci hE hA (w_runV C hk hE hl.1 (As := [.int (nI t), .int (nI i), .int (nI j)]) (rest := []) (q := 4) (c_T_ofRow l D cs ad σ t i j htS (by omega) hj _) (Nat.le_of_ble_eq_true rfl) (ci := 3) (N := 4) (T := F_T) rfl rfl tw_495 tw_238 tw_239 tw_4 tw_240 (n := 3) (by decide +kernel) rfl rfl (Nat.le_of_ble_eq_true rfl) dW_shortestEnd_7 ⟨Nat.le_of_ble_eq_true rfl, Nat.le_of_ble_eq_true rfl⟩ ⟨Nat.zero_le _, Nat.zero_le _⟩) (fun r1 τ2 H locs hp hE _ _ => ?_)
  refine w_top hp.1 ?_
  have hE := wS_eq hp.2 hE
  refine lv_istore (lv' := [(4, .int (σ (t + 34) (i * 9 + j))), (0, .ref (ad 5)), (1, .int (nI t)), (2, .int (nI i)), (3, .int (nI j))]) hx hb dW_shortestEnd_10 hl (by decide) rfl (fun ls hl => ?_)
  refine lv_iload_n hx hb dW_shortestEnd_12 rfl (lv_at hl 3 rfl) ?_
  refine lv_istore (lv' := [(5, .int (nI i)), (4, .int (σ (t + 34) (i * 9 + j))), (0, .ref (ad 5)), (1, .int (nI t)), (2, .int (nI i)), (3, .int (nI j))]) hx hb dW_shortestEnd_13 hl (by decide) rfl (fun ls hl => ?_)
  exact lp_W_shortest C hk hA ht htS hi hj _ i (Nat.lt_succ_self _) (Nat.le_refl _) (hi) (rfl) _ _ ls hE (lv_sub hl [2, 3, 4, 5, 1, 0] rfl)
set_option maxHeartbeats 4000000 in
set_option maxRecDepth 100000 in
theorem c_W_open (l : Launch) (D : va_G) (cs : Nat → ClassId) (ad : Nat → Nat) (σ : Mem) (P S n9 : Nat) (v : Int32) (i j d9 k9 : Nat) (ht : tS σ P S n9) (hi : i < 9) (hj : j < 9) (hd : σ 5 7 = nI d9) (hk8 : σ 5 3 = nI k9) (hd54 : d9 ≤ 54) (hk80 : k9 ≤ 8000) : MetV l (wE D cs ad) cs yW_open bW_open 5 3 71 [.ref (ad 5), .int v, .int (nI i), .int (nI j)] σ (fun τ => τ = openM σ P n9 v i j d9 k9) := by
  refine MetV.start (by decide) (Nat.le_of_ble_eq_true rfl) ?_
  intro p e s m below meth c A ls C hk hA hE hl
  obtain ⟨hx, hb, hml, hown, hts, hr, hlocks⟩ := id C
  have hl : lv_has ls 5 [(0, .ref (ad 5)), (1, .int v), (2, .int (nI i)), (3, .int (nI j))] := hl
  have hg := ht.1
  have hn9 := ht.2.1
  have hln := ht.2.2
  have hP8 := hg.1
  have hS24 := hg.2.1
  refine lv_aload_n hx hb dW_open_0 rfl (lv_at hl 0 rfl) ?_
  refine lv_iload_n hx hb dW_open_1 rfl (lv_at hl 1 rfl) ?_
  refine lv_iload_n hx hb dW_open_2 rfl (lv_at hl 2 rfl) ?_
  refine lv_iload_n hx hb dW_open_3 rfl (lv_at hl 3 rfl) ?_
  refine w_ci hE hA (w_runV C hk hE hl.1 (As := [.int v, .int (nI i), .int (nI j)]) (rest := []) (q := 5) (c_W_lowestProduction l D cs ad σ P S n9 v i j ht hi hj _) (Nat.le_of_ble_eq_true rfl) (ci := 4) (N := 8) (T := F_W) rfl rfl tw_490 tw_492 ts_14 tw_6 tw_493 (n := 3) (by decide +kernel) rfl rfl (Nat.le_of_ble_eq_true rfl) dW_open_4 ⟨Nat.le_of_ble_eq_true rfl, Nat.le_of_ble_eq_true rfl⟩ ⟨Nat.zero_le _, Nat.zero_le _⟩) (fun r1 τ2 H locs hp hE _ _ => ?_)
  refine w_top hp.1 ?_
  have hE := wS_eq hp.2 hE
  refine lv_istore (lv' := [(4, .int (lowP σ P n9 v i j)), (0, .ref (ad 5)), (1, .int v), (2, .int (nI i)), (3, .int (nI j))]) hx hb dW_open_7 hl (by decide) rfl (fun ls hl => ?_)
  refine lv_iload hx hb dW_open_9 (lv_at hl 0 rfl) ?_
  refine lv_iconst (v := (-1)) hx hb dW_open_11 (by decide) ?_
  refine lv_icmp_eq (tgt := 24) hx hb dW_open_12 (by decide) (fun c3 => ?_) (fun c3 => ?_)
  · exact w_retv C hE (by rw [openM]; simp only [c3, if_true, if_false]) dW_open_24
  · obtain ⟨hl1, hl2⟩ := lowP_of hP8 c3
    refine lv_aload_n hx hb dW_open_15 rfl (lv_at hl 1 rfl) ?_
    refine w_get C hk hE (K := R_W) (T := F_W) (N := 8) (ci := 4) in_W 5 (Nat.le_of_ble_eq_true rfl) rfl rfl 7 (by decide) tw_131 rfl rfl dW_open_16 ?_
    refine w_top (y := nI d9) (hd) ?_
    refine lv_bipush (v := nI 54) hx hb dW_open_19 (by decide) ?_
    refine lv_icmp_lt (tgt := 25) hx hb dW_open_21 (by decide) (fun c4 => ?_) (fun c4 => ?_)
    · have c4 : d9 < 54 := (nI_ltI (by omega) (by omega)).mp c4
      refine lv_aload_n hx hb dW_open_25 rfl (lv_at hl 1 rfl) ?_
      refine w_get C hk hE (K := R_W) (T := F_W) (N := 8) (ci := 4) in_W 5 (Nat.le_of_ble_eq_true rfl) rfl rfl 3 (by decide) tw_126 rfl rfl dW_open_26 ?_
      refine w_top (y := nI k9) (hk8) ?_
      refine lv_sipush (v := nI 8000) hx hb dW_open_29 (by decide) ?_
      refine lv_icmp_lt (tgt := 41) hx hb dW_open_32 (by decide) (fun c5 => ?_) (fun c5 => ?_)
      · have c5 : k9 < 8000 := (nI_ltI (by omega) (by omega)).mp c5
        refine lv_aload_n hx hb dW_open_41 rfl (lv_at hl 1 rfl) ?_
        refine w_get C hk hE (K := R_W) (T := F_W) (N := 8) (ci := 4) in_W 5 (Nat.le_of_ble_eq_true rfl) rfl rfl 2 (by decide) tw_124 rfl rfl dW_open_42 ?_
        refine lv_aload_n hx hb dW_open_45 rfl (lv_at hl 1 rfl) ?_
        refine w_get C hk hE (K := R_W) (T := F_W) (N := 8) (ci := 4) in_W 5 (Nat.le_of_ble_eq_true rfl) rfl rfl 3 (by decide) tw_126 rfl rfl dW_open_46 ?_
        refine w_top (y := nI k9) (hk8) ?_
        refine lv_iload hx hb dW_open_49 (lv_at hl 0 rfl) ?_
        refine w_iast C hk hE 15 (by exact Nat.le_of_ble_eq_true rfl) (n := 8000) (fun _ => rfl) (by omega) (by first | decide | omega) dW_open_51 (fun H locs hE => ?_)
        refine lv_aload_n hx hb dW_open_52 rfl (lv_at hl 1 rfl) ?_
        refine lv_dup hx hb dW_open_53 rfl ?_
        refine w_get C hk hE (K := R_W) (T := F_W) (N := 8) (ci := 4) in_W 5 (Nat.le_of_ble_eq_true rfl) rfl rfl 3 (by decide) tw_126 rfl rfl dW_open_54 ?_
        refine w_top (y := σ 5 3) (by simp [mset, mrow, upd]) ?_
        refine w_top (y := nI k9) (hk8) ?_
        refine lv_iconst (v := nI 1) hx hb dW_open_57 (by decide) ?_
        refine lv_iadd hx hb dW_open_58 ?_
        refine w_top (y := nI (k9 + 1)) (by first | exact nI_add _ _ | simp only [nI_add, Nat.add_assoc, Nat.add_zero, Nat.zero_add]) ?_
        refine w_put C hk hE (K := R_W) (T := F_W) (N := 8) (ci := 4) in_W ft_W_ok fn_W 5 (Nat.le_of_ble_eq_true rfl) rfl rfl 3 (by decide) tw_126 rfl rfl (rfl) (rfl) (Nat.le_of_ble_eq_true rfl) rfl dW_open_59 (fun H locs hE => ?_)
        refine lv_aload_n hx hb dW_open_62 rfl (lv_at hl 1 rfl) ?_
        refine w_get C hk hE (K := R_W) (T := F_W) (N := 8) (ci := 4) in_W 5 (Nat.le_of_ble_eq_true rfl) rfl rfl 4 (by decide) tw_128 rfl rfl dW_open_63 ?_
        refine lv_aload_n hx hb dW_open_66 rfl (lv_at hl 1 rfl) ?_
        refine w_get C hk hE (K := R_W) (T := F_W) (N := 8) (ci := 4) in_W 5 (Nat.le_of_ble_eq_true rfl) rfl rfl 7 (by decide) tw_131 rfl rfl dW_open_67 ?_
        refine w_top (y := σ 5 7) (by simp [mset, mrow, upd]) ?_
        refine w_top (y := nI d9) (hd) ?_
        refine lv_aload_n hx hb dW_open_70 rfl (lv_at hl 1 rfl) ?_
        refine w_get C hk hE (K := R_W) (T := F_W) (N := 8) (ci := 4) in_W 5 (Nat.le_of_ble_eq_true rfl) rfl rfl 0 (by decide) tw_122 rfl rfl dW_open_71 ?_
        refine w_get C hk hE (K := R_G) (T := F_G) (N := 6) (ci := 0) in_G 1 (Nat.le_of_ble_eq_true rfl) rfl rfl 1 (by decide) tw_35 rfl rfl dW_open_74 ?_
        refine lv_iload hx hb dW_open_77 (lv_at hl 0 rfl) ?_
        refine w_top (y := nI ((lowP σ P n9 v i j).toNatClampNeg)) (hl1) ?_
        refine w_iald C hk hE 7 (by exact Nat.le_of_ble_eq_true rfl) (n := 8) rfl (by omega) (by first | decide | omega) dW_open_79 ?_
        refine w_top (y := σ 7 ((lowP σ P n9 v i j).toNatClampNeg)) (by simp [mset, mrow, upd]) ?_
        refine w_iast C hk hE 16 (by exact Nat.le_of_ble_eq_true rfl) (n := 54) (fun _ => rfl) (by omega) (by first | decide | omega) dW_open_80 (fun H locs hE => ?_)
        refine lv_aload_n hx hb dW_open_81 rfl (lv_at hl 1 rfl) ?_
        refine w_get C hk hE (K := R_W) (T := F_W) (N := 8) (ci := 4) in_W 5 (Nat.le_of_ble_eq_true rfl) rfl rfl 5 (by decide) tw_129 rfl rfl dW_open_82 ?_
        refine lv_aload_n hx hb dW_open_85 rfl (lv_at hl 1 rfl) ?_
        refine w_get C hk hE (K := R_W) (T := F_W) (N := 8) (ci := 4) in_W 5 (Nat.le_of_ble_eq_true rfl) rfl rfl 7 (by decide) tw_131 rfl rfl dW_open_86 ?_
        refine w_top (y := σ 5 7) (by simp [mset, mrow, upd]) ?_
        refine w_top (y := nI d9) (hd) ?_
        refine lv_iload_n hx hb dW_open_89 rfl (lv_at hl 3 rfl) ?_
        refine w_iast C hk hE 17 (by exact Nat.le_of_ble_eq_true rfl) (n := 54) (fun _ => rfl) (by omega) (by first | decide | omega) dW_open_90 (fun H locs hE => ?_)
        refine lv_aload_n hx hb dW_open_91 rfl (lv_at hl 1 rfl) ?_
        refine w_get C hk hE (K := R_W) (T := F_W) (N := 8) (ci := 4) in_W 5 (Nat.le_of_ble_eq_true rfl) rfl rfl 6 (by decide) tw_130 rfl rfl dW_open_92 ?_
        refine lv_aload_n hx hb dW_open_95 rfl (lv_at hl 1 rfl) ?_
        refine w_get C hk hE (K := R_W) (T := F_W) (N := 8) (ci := 4) in_W 5 (Nat.le_of_ble_eq_true rfl) rfl rfl 7 (by decide) tw_131 rfl rfl dW_open_96 ?_
        refine w_top (y := σ 5 7) (by simp [mset, mrow, upd]) ?_
        refine w_top (y := nI d9) (hd) ?_
        refine lv_iload_n hx hb dW_open_99 rfl (lv_at hl 4 rfl) ?_
        refine w_iast C hk hE 18 (by exact Nat.le_of_ble_eq_true rfl) (n := 54) (fun _ => rfl) (by omega) (by first | decide | omega) dW_open_100 (fun H locs hE => ?_)
        refine lv_aload_n hx hb dW_open_101 rfl (lv_at hl 1 rfl) ?_
        refine lv_dup hx hb dW_open_102 rfl ?_
        refine w_get C hk hE (K := R_W) (T := F_W) (N := 8) (ci := 4) in_W 5 (Nat.le_of_ble_eq_true rfl) rfl rfl 7 (by decide) tw_131 rfl rfl dW_open_103 ?_
        refine w_top (y := σ 5 7) (by simp [mset, mrow, upd]) ?_
        refine w_top (y := nI d9) (hd) ?_
        refine lv_iconst (v := nI 1) hx hb dW_open_106 (by decide) ?_
        refine lv_iadd hx hb dW_open_107 ?_
        refine w_top (y := nI (d9 + 1)) (by first | exact nI_add _ _ | simp only [nI_add, Nat.add_assoc, Nat.add_zero, Nat.zero_add]) ?_
        refine w_put C hk hE (K := R_W) (T := F_W) (N := 8) (ci := 4) in_W ft_W_ok fn_W 5 (Nat.le_of_ble_eq_true rfl) rfl rfl 7 (by decide) tw_131 rfl rfl (rfl) (rfl) (Nat.le_of_ble_eq_true rfl) rfl dW_open_108 (fun H locs hE => ?_)
        exact w_retv C hE (by rw [openM]; simp only [c3, c4, c5, if_true, if_false]) dW_open_111
      · have c5 : ¬ (k9 < 8000) := fun h => c5 ((nI_ltI (by omega) (by omega)).mpr h)
        refine lv_aload_n hx hb dW_open_35 rfl (lv_at hl 1 rfl) ?_
        refine lv_iconst (v := nI 0) hx hb dW_open_36 (by decide) ?_
        refine w_put C hk hE (K := R_W) (T := F_W) (N := 8) (ci := 4) in_W ft_W_ok fn_W 5 (Nat.le_of_ble_eq_true rfl) rfl rfl 7 (by decide) tw_131 rfl rfl (rfl) (rfl) (Nat.le_of_ble_eq_true rfl) rfl dW_open_37 (fun H locs hE => ?_)
        exact w_retv C hE (by rw [openM]; simp only [c3, c4, c5, if_true, if_false]) dW_open_40
    · have c4 : ¬ (d9 < 54) := fun h => c4 ((nI_ltI (by omega) (by omega)).mpr h)
      exact w_retv C hE (by rw [openM]; simp only [c3, c4, if_true, if_false]) dW_open_24
set_option maxHeartbeats 4000000 in
set_option maxRecDepth 100000 in
theorem c_W_goOn (l : Launch) (D : va_G) (cs : Nat → ClassId) (ad : Nat → Nat) (σ : Mem) (P S n9 d9 t a b k9 : Nat) (ht : tS σ P S n9) (hd : σ 5 7 = nI (d9 + 1)) (hd54 : d9 + 1 ≤ 54) (hk8 : σ 5 3 = nI k9) (hk80 : k9 ≤ 8000) (h16 : σ 16 d9 = nI t) (h17 : σ 17 d9 = nI a) (h18 : σ 18 d9 = nI b) (htS : t < S) (hab : a ≤ b) (hbn : b ≤ n9) : MetV l (wE D cs ad) cs yW_goOn bW_goOn 6 4 97 [.ref (ad 5)] σ (fun τ => τ = goM σ P S n9 d9 t a b k9) := by
  refine MetV.start (by decide) (Nat.le_of_ble_eq_true rfl) ?_
  intro p e s m below meth c A ls C hk hA hE hl
  obtain ⟨hx, hb, hml, hown, hts, hr, hlocks⟩ := id C
  have hl : lv_has ls 6 [(0, .ref (ad 5))] := hl
  have hg := ht.1
  have hn9 := ht.2.1
  have hln := ht.2.2
  have hP8 := hg.1
  have hS24 := hg.2.1
  have hsh := shE_in (σ := σ) (n := n9) (S := S) (t := t) hab
  refine lv_aload_n hx hb dW_goOn_0 rfl (lv_at hl 0 rfl) ?_
  refine w_get C hk hE (K := R_W) (T := F_W) (N := 8) (ci := 4) in_W 5 (Nat.le_of_ble_eq_true rfl) rfl rfl 7 (by decide) tw_131 rfl rfl dW_goOn_1 ?_
  refine w_top (y := nI (d9 + 1)) (hd) ?_
  refine lv_iconst (v := nI 1) hx hb dW_goOn_4 (by decide) ?_
  refine lv_isub hx hb dW_goOn_5 ?_
  refine w_top (y := nI d9) (w_sub (by omega) (by omega)) ?_
  refine lv_istore_n (lv' := [(1, .int (nI d9)), (0, .ref (ad 5))]) hx hb dW_goOn_6 rfl hl (by decide) rfl (fun ls hl => ?_)
  refine lv_aload_n hx hb dW_goOn_7 rfl (lv_at hl 1 rfl) ?_
  refine w_get C hk hE (K := R_W) (T := F_W) (N := 8) (ci := 4) in_W 5 (Nat.le_of_ble_eq_true rfl) rfl rfl 4 (by decide) tw_128 rfl rfl dW_goOn_8 ?_
  refine lv_iload_n hx hb dW_goOn_11 rfl (lv_at hl 0 rfl) ?_
  refine w_iald C hk hE 16 (by exact Nat.le_of_ble_eq_true rfl) (n := 54) rfl (by omega) (by first | decide | omega) dW_goOn_12 ?_
  refine w_top (y := nI t) (h16) ?_
  refine lv_istore_n (lv' := [(2, .int (nI t)), (1, .int (nI d9)), (0, .ref (ad 5))]) hx hb dW_goOn_13 rfl hl (by decide) rfl (fun ls hl => ?_)
  refine lv_aload_n hx hb dW_goOn_14 rfl (lv_at hl 2 rfl) ?_
  refine w_get C hk hE (K := R_W) (T := F_W) (N := 8) (ci := 4) in_W 5 (Nat.le_of_ble_eq_true rfl) rfl rfl 0 (by decide) tw_122 rfl rfl dW_goOn_15 ?_
  refine w_get C hk hE (K := R_G) (T := F_G) (N := 6) (ci := 0) in_G 1 (Nat.le_of_ble_eq_true rfl) rfl rfl 2 (by decide) tw_40 rfl rfl dW_goOn_18 ?_
  refine lv_iload_n hx hb dW_goOn_21 rfl (lv_at hl 0 rfl) ?_
  refine w_iald C hk hE 8 (by exact Nat.le_of_ble_eq_true rfl) (n := 24) rfl (by omega) (by first | decide | omega) dW_goOn_22 ?_
  refine lv_istore_n (lv' := [(3, .int (σ 8 t)), (2, .int (nI t)), (1, .int (nI d9)), (0, .ref (ad 5))]) hx hb dW_goOn_23 rfl hl (by decide) rfl (fun ls hl => ?_)
  refine lv_iload_n hx hb dW_goOn_24 rfl (lv_at hl 0 rfl) ?_
  refine lv_iconst (v := (-1)) hx hb dW_goOn_25 (by decide) ?_
  refine lv_icmp_ne (tgt := 40) hx hb dW_goOn_26 (by decide) (fun c1 => ?_) (fun c1 => ?_)
  · refine lv_aload_n hx hb dW_goOn_40 rfl (lv_at hl 3 rfl) ?_
    refine w_get C hk hE (K := R_W) (T := F_W) (N := 8) (ci := 4) in_W 5 (Nat.le_of_ble_eq_true rfl) rfl rfl 5 (by decide) tw_129 rfl rfl dW_goOn_41 ?_
    refine lv_iload_n hx hb dW_goOn_44 rfl (lv_at hl 2 rfl) ?_
    refine w_iald C hk hE 17 (by exact Nat.le_of_ble_eq_true rfl) (n := 54) rfl (by omega) (by first | decide | omega) dW_goOn_45 ?_
    refine w_top (y := nI a) (h17) ?_
    refine lv_istore (lv' := [(4, .int (nI a)), (3, .int (σ 8 t)), (2, .int (nI t)), (1, .int (nI d9)), (0, .ref (ad 5))]) hx hb dW_goOn_46 hl (by decide) rfl (fun ls hl => ?_)
    refine lv_aload_n hx hb dW_goOn_48 rfl (lv_at hl 4 rfl) ?_
    refine lv_iload_n hx hb dW_goOn_49 rfl (lv_at hl 2 rfl) ?_
    refine lv_iload hx hb dW_goOn_50 (lv_at hl 0 rfl) ?_
    refine lv_aload_n hx hb dW_goOn_52 rfl (lv_at hl 4 rfl) ?_
    refine w_get C hk hE (K := R_W) (T := F_W) (N := 8) (ci := 4) in_W 5 (Nat.le_of_ble_eq_true rfl) rfl rfl 6 (by decide) tw_130 rfl rfl dW_goOn_53 ?_
    refine lv_iload_n hx hb dW_goOn_56 rfl (lv_at hl 3 rfl) ?_
    refine w_iald C hk hE 18 (by exact Nat.le_of_ble_eq_true rfl) (n := 54) rfl (by omega) (by first | decide | omega) dW_goOn_57 ?_
    refine w_top (y := nI b) (h18) ?_
    refine w_ci hE hA (w_runV C hk hE hl.1 (As := [.int (nI t), .int (nI a), .int (nI b)]) (rest := []) (q := 5) (c_W_shortestEnd l D cs ad σ P S n9 t a b ht (by omega) hab (by omega) _) (Nat.le_of_ble_eq_true rfl) (ci := 4) (N := 8) (T := F_W) rfl rfl tw_501 tw_503 ts_16 tw_6 tw_504 (n := 3) (by decide +kernel) rfl rfl (Nat.le_of_ble_eq_true rfl) dW_goOn_58 ⟨Nat.le_of_ble_eq_true rfl, Nat.le_of_ble_eq_true rfl⟩ ⟨Nat.zero_le _, Nat.zero_le _⟩) (fun r2 τ3 H locs hp hE _ _ => ?_)
    refine w_top hp.1 ?_
    have hE := wS_eq hp.2 hE
    refine lv_istore (lv' := [(5, .int (nI (shE σ n9 S t a b))), (4, .int (nI a)), (3, .int (σ 8 t)), (2, .int (nI t)), (1, .int (nI d9)), (0, .ref (ad 5))]) hx hb dW_goOn_61 hl (by decide) rfl (fun ls hl => ?_)
    refine lv_aload_n hx hb dW_goOn_63 rfl (lv_at hl 5 rfl) ?_
    refine w_get C hk hE (K := R_W) (T := F_W) (N := 8) (ci := 4) in_W 5 (Nat.le_of_ble_eq_true rfl) rfl rfl 4 (by decide) tw_128 rfl rfl dW_goOn_64 ?_
    refine lv_iload_n hx hb dW_goOn_67 rfl (lv_at hl 4 rfl) ?_
    refine lv_iload_n hx hb dW_goOn_68 rfl (lv_at hl 3 rfl) ?_
    refine lv_iconst (v := nI 1) hx hb dW_goOn_69 (by decide) ?_
    refine lv_iadd hx hb dW_goOn_70 ?_
    refine w_top (y := nI (t + 1)) (by first | exact nI_add _ _ | simp only [nI_add, Nat.add_assoc, Nat.add_zero, Nat.zero_add]) ?_
    refine w_iast C hk hE 16 (by exact Nat.le_of_ble_eq_true rfl) (n := 54) (fun _ => rfl) (by omega) (by first | decide | omega) dW_goOn_71 (fun H locs hE => ?_)
    refine lv_aload_n hx hb dW_goOn_72 rfl (lv_at hl 5 rfl) ?_
    refine w_get C hk hE (K := R_W) (T := F_W) (N := 8) (ci := 4) in_W 5 (Nat.le_of_ble_eq_true rfl) rfl rfl 5 (by decide) tw_129 rfl rfl dW_goOn_73 ?_
    refine lv_iload_n hx hb dW_goOn_76 rfl (lv_at hl 4 rfl) ?_
    refine lv_iload hx hb dW_goOn_77 (lv_at hl 0 rfl) ?_
    refine w_iast C hk hE 17 (by exact Nat.le_of_ble_eq_true rfl) (n := 54) (fun _ => rfl) (by omega) (by first | decide | omega) dW_goOn_79 (fun H locs hE => ?_)
    have hE : wS (wE D cs ad) A s.heap (go1 σ n9 S d9 t a b) H locs := hE
    refine lv_iload_n hx hb dW_goOn_80 rfl (lv_at hl 2 rfl) ?_
    refine w_ci hE hA (w_runSN C hk hE hl.1 (As := [.int (σ 8 t)]) (rest := []) (c_E_isVariable l D cs ad (go1 σ n9 S d9 t a b) (σ 8 t) _) hk.2.2.2.1 tw_199 tw_1 tw_200 (n := 1) (by decide +kernel) rfl rfl (Nat.le_of_ble_eq_true rfl) dW_goOn_81 ⟨Nat.le_of_ble_eq_true rfl, Nat.le_of_ble_eq_true rfl⟩ ⟨Nat.zero_le _, Nat.zero_le _⟩) (fun r4 τ5 H locs hp hE _ _ => ?_)
    refine w_top hp.1 ?_
    have hE := wS_eq hp.2 hE
    refine lv_if_eq (tgt := 96) hx hb dW_goOn_84 (by decide) (fun c6 => ?_) (fun c6 => ?_)
    · have c6 := zb_eq0 c6
      exact w_retv C hE (by rw [goM]; simp only [c1, c6, if_true, if_false, Bool.false_eq_true]) dW_goOn_96
    · have c6 := zb_ne0 c6
      refine lv_aload_n hx hb dW_goOn_87 rfl (lv_at hl 5 rfl) ?_
      refine lv_iload_n hx hb dW_goOn_88 rfl (lv_at hl 2 rfl) ?_
      refine lv_iload hx hb dW_goOn_89 (lv_at hl 1 rfl) ?_
      refine lv_iload hx hb dW_goOn_91 (lv_at hl 0 rfl) ?_
      refine w_cv hE hA (w_runV C hk hE hl.1 (As := [.int (σ 8 t), .int (nI a), .int (nI (shE σ n9 S t a b))]) (rest := []) (q := 5) (c_W_open l D cs ad (go1 σ n9 S d9 t a b) P S n9 (σ 8 t) a (shE σ n9 S t a b) (d9 + 1) k9 (go1_tS ht) (by omega) (by omega) (by unfold go1; rw [mset_n (by decide), mset_n (by decide)]; exact hd) (by unfold go1; rw [mset_n (by decide), mset_n (by decide)]; exact hk8) hd54 hk80 _) (Nat.le_of_ble_eq_true rfl) (ci := 4) (N := 8) (T := F_W) rfl rfl tw_486 tw_488 ts_13 tw_6 tw_489 (n := 3) (by decide +kernel) rfl rfl (Nat.le_of_ble_eq_true rfl) dW_goOn_93 ⟨Nat.le_of_ble_eq_true rfl, Nat.le_of_ble_eq_true rfl⟩ ⟨Nat.zero_le _, Nat.zero_le _⟩) (fun τ8 H locs hp hE _ _ => ?_)
      have hE := wS_eq hp hE
      exact w_retv C hE (by rw [goM]; simp only [c1, c6, if_true, if_false, Bool.false_eq_true]) dW_goOn_96
  · refine lv_aload_n hx hb dW_goOn_29 rfl (lv_at hl 3 rfl) ?_
    refine lv_dup hx hb dW_goOn_30 rfl ?_
    refine w_get C hk hE (K := R_W) (T := F_W) (N := 8) (ci := 4) in_W 5 (Nat.le_of_ble_eq_true rfl) rfl rfl 7 (by decide) tw_131 rfl rfl dW_goOn_31 ?_
    refine w_top (y := nI (d9 + 1)) (hd) ?_
    refine lv_iconst (v := nI 1) hx hb dW_goOn_34 (by decide) ?_
    refine lv_isub hx hb dW_goOn_35 ?_
    refine w_top (y := nI d9) (w_sub (by omega) (by omega)) ?_
    refine w_put C hk hE (K := R_W) (T := F_W) (N := 8) (ci := 4) in_W ft_W_ok fn_W 5 (Nat.le_of_ble_eq_true rfl) rfl rfl 7 (by decide) tw_131 rfl rfl (rfl) (rfl) (Nat.le_of_ble_eq_true rfl) rfl dW_goOn_36 (fun H locs hE => ?_)
    exact w_retv C hE (by rw [goM]; simp only [c1, if_true, if_false, Bool.false_eq_true]) dW_goOn_39
set_option maxHeartbeats 4000000 in
set_option maxRecDepth 100000 in
theorem lp_W_tell {p : Program} {l : Launch} {e : Env} {s : State} {m : MethodId} {below : List Frame} {meth : Method} {c : Code} {D : va_G} {cs : Nat → ClassId} {ad : Nat → Nat} {A : Nat → Prop} {σ : Mem} {P S n9 : Nat} {v : Int32} {j : Nat} (C : bC p s m ([.ref (ad 5), .int v, .int (nI j)] : List Value).toArray meth c bW_tell 4 "EarleyChart$Witness" none) (hk : wk D cs s) (hA : ∀ q : Nat, s.heap.size ≤ q → A q) (ht : tS σ P S n9) (hj : j ≤ n9)   :
    ∀ (n : Nat) (i : Nat) (μ : Mem), (1000000 - i) < n → (i ≤ 1000000) → (∃ d0 c9, wI μ P S n9 d0 c9) → (tellF P S n9 (1000000 - i) μ = tellF P S n9 1000000 (openM (mset (mset σ 5 3 (nI 0)) 5 7 (nI 0)) P n9 v 0 j 0 0)) → ∀ (H : Heap) (locs : List Loc) (ls : Array Slot), wS (wE D cs ad) A s.heap μ H locs → lv_has ls 4 [(0, .ref (ad 5)), (1, .int v), (2, .int (nI j)), (3, .int (nI i))] → W p l e (rmF 5 122) s m ([.ref (ad 5), .int v, .int (nI j)] : List Value).toArray below meth c H locs 0 0 (wQv (wE D cs ad) A (fun τ => τ = tellF P S n9 1000000 (openM (mset (mset σ 5 3 (nI 0)) 5 7 (nI 0)) P n9 v 0 j 0 0)) s below ([.ref (ad 5), .int v, .int (nI j)] : List Value).toArray) (F0 m 19 ls []) := by
  obtain ⟨hx, hb, hml, hown, hts, hr, hlocks⟩ := id C
  have hg := ht.1
  have hn9 := ht.2.1
  have hln := ht.2.2
  have hP8 := hg.1
  have hS24 := hg.2.1
  intro n
  induction n with
  | zero => intro i μ h; exact absurd h (Nat.not_lt_zero _)
  | succ n ih =>
    intro i μ hn hi hwe hres H locs ls hE hl
    obtain ⟨d0, c9, hwμ0⟩ := hwe
    have hd054 := hwμ0.2.1
    refine lv_aload_n hx hb dW_tell_19 rfl (lv_at hl 0 rfl) ?_
    refine w_get C hk hE (K := R_W) (T := F_W) (N := 8) (ci := 4) in_W 5 (Nat.le_of_ble_eq_true rfl) rfl rfl 7 (by decide) tw_131 rfl rfl dW_tell_20 ?_
    refine w_top (y := nI d0) (hwμ0.2.2.2.1) ?_
    refine lv_if_le (tgt := 42) hx hb dW_tell_23 (by decide) (fun c1 => ?_) (fun c1 => ?_)
    · have c1 := w_le0 (by omega) c1
      exact w_retv C hE (by rw [← hres]; first | (rw [show 1000000 - i = 0 by omega]; rfl) | exact (tellF_stop (by unfold wd; rw [hwμ0.2.2.2.1, nI_clamp (by omega)]; omega) _).symm) dW_tell_42
    · have c1 := w_nle0 (by omega) c1
      refine lv_iload_n hx hb dW_tell_26 rfl (lv_at hl 3 rfl) ?_
      refine lv_ldc (v := nI 1000000) hx hb hown (hts _ tw_496) dW_tell_27 ?_
      refine lv_icmp_ge (tgt := 42) hx hb dW_tell_29 (by decide) (fun c2 => ?_) (fun c2 => ?_)
      · have c2 : 1000000 ≤ i := (nI_leI (by omega) (by omega)).mp c2
        exact w_retv C hE (by rw [← hres]; first | (rw [show 1000000 - i = 0 by omega]; rfl) | exact (tellF_stop (by unfold wd; rw [hwμ0.2.2.2.1, nI_clamp (by omega)]; omega) _).symm) dW_tell_42
      · have c2 : ¬ (1000000 ≤ i) := fun h => c2 ((nI_leI (by omega) (by omega)).mpr h)
        obtain ⟨d9, rfl⟩ : ∃ u, d0 = u + 1 := ⟨d0 - 1, by omega⟩
        have hwμ := hwμ0
        obtain ⟨t9, a9, b9, q1, q2, q3, q4, q5, q6⟩ := hwμ.2.2.2.2.2 d9 (by omega)
        refine lv_aload_n hx hb dW_tell_32 rfl (lv_at hl 0 rfl) ?_
        refine w_cv hE hA (w_runV C hk hE hl.1 (As := []) (rest := []) (q := 5) (c_W_goOn l D cs ad μ P S n9 d9 t9 a9 b9 c9 hwμ.1 hwμ.2.2.2.1 hwμ.2.1 hwμ.2.2.2.2.1 hwμ.2.2.1 q4 q5 q6 q1 q2 q3 _) (Nat.le_of_ble_eq_true rfl) (ci := 4) (N := 8) (T := F_W) rfl rfl tw_497 tw_499 ts_15 tw_6 tw_500 (n := 0) (by decide +kernel) rfl rfl (Nat.le_of_ble_eq_true rfl) dW_tell_33 ⟨Nat.le_of_ble_eq_true rfl, Nat.le_of_ble_eq_true rfl⟩ ⟨Nat.zero_le _, Nat.zero_le _⟩) (fun τ4 H locs hp hE _ _ => ?_)
        have hE := wS_eq (hp.trans (goT_eq hwμ q4 q5 q6 q1 q2 q3)) hE
        refine lv_iinc (v := nI (i + 1)) (lv' := [(3, .int (nI (i + 1))), (0, .ref (ad 5)), (1, .int v), (2, .int (nI j))]) hx hb dW_tell_36 hl (k := 3) rfl (by exact nI_1 _) (by decide) rfl (fun ls hl => ?_)
        refine lv_goto (tgt := 19) hx hb dW_tell_39 (by decide) ?_
        exact ih (i + 1) (goT P S n9 μ) (by omega) (by omega) (by rw [← goT_eq hwμ q4 q5 q6 q1 q2 q3]; exact goM_wI hwμ q4 q5 q6 q1 q2 q3) (by rw [← hres, show 1000000 - i = (1000000 - (i + 1)) + 1 by omega, tellF, if_pos (by unfold wd; rw [hwμ.2.2.2.1, nI_clamp (by omega)]; omega)]) _ _ ls hE (lv_sub hl [1, 2, 3, 0] rfl)
set_option maxHeartbeats 4000000 in
set_option maxRecDepth 100000 in
theorem c_W_tell (l : Launch) (D : va_G) (cs : Nat → ClassId) (ad : Nat → Nat) (σ : Mem) (P S n9 : Nat) (v : Int32) (j : Nat) (ht : tS σ P S n9) (hj : j ≤ n9) : MetV l (wE D cs ad) cs yW_tell bW_tell 4 5 122 [.ref (ad 5), .int v, .int (nI j)] σ (fun τ => τ = tellF P S n9 1000000 (openM (mset (mset σ 5 3 (nI 0)) 5 7 (nI 0)) P n9 v 0 j 0 0)) := by
  refine MetV.start (by decide) (Nat.le_of_ble_eq_true rfl) ?_
  intro p e s m below meth c A ls C hk hA hE hl
  obtain ⟨hx, hb, hml, hown, hts, hr, hlocks⟩ := id C
  have hl : lv_has ls 4 [(0, .ref (ad 5)), (1, .int v), (2, .int (nI j))] := hl
  have hg := ht.1
  have hn9 := ht.2.1
  have hln := ht.2.2
  have hP8 := hg.1
  have hS24 := hg.2.1
  refine lv_aload_n hx hb dW_tell_0 rfl (lv_at hl 0 rfl) ?_
  refine lv_iconst (v := nI 0) hx hb dW_tell_1 (by decide) ?_
  refine w_put C hk hE (K := R_W) (T := F_W) (N := 8) (ci := 4) in_W ft_W_ok fn_W 5 (Nat.le_of_ble_eq_true rfl) rfl rfl 3 (by decide) tw_126 rfl rfl (rfl) (rfl) (Nat.le_of_ble_eq_true rfl) rfl dW_tell_2 (fun H locs hE => ?_)
  refine lv_aload_n hx hb dW_tell_5 rfl (lv_at hl 0 rfl) ?_
  refine lv_iconst (v := nI 0) hx hb dW_tell_6 (by decide) ?_
  refine w_put C hk hE (K := R_W) (T := F_W) (N := 8) (ci := 4) in_W ft_W_ok fn_W 5 (Nat.le_of_ble_eq_true rfl) rfl rfl 7 (by decide) tw_131 rfl rfl (rfl) (rfl) (Nat.le_of_ble_eq_true rfl) rfl dW_tell_7 (fun H locs hE => ?_)
  refine lv_aload_n hx hb dW_tell_10 rfl (lv_at hl 0 rfl) ?_
  refine lv_iload_n hx hb dW_tell_11 rfl (lv_at hl 1 rfl) ?_
  refine lv_iconst (v := nI 0) hx hb dW_tell_12 (by decide) ?_
  refine lv_iload_n hx hb dW_tell_13 rfl (lv_at hl 2 rfl) ?_
  refine w_cv hE hA (w_runV C hk hE hl.1 (As := [.int v, .int (nI 0), .int (nI j)]) (rest := []) (q := 5) (c_W_open l D cs ad (mset (mset σ 5 3 (nI 0)) 5 7 (nI 0)) P S n9 v 0 j 0 0 (tS_low ht (fun q h5 _ => by rw [mset_n h5, mset_n h5])) (by omega) (by omega) mset_s (by rw [mset_i (by decide), mset_s]) (by decide) (by decide) _) (Nat.le_of_ble_eq_true rfl) (ci := 4) (N := 8) (T := F_W) rfl rfl tw_486 tw_488 ts_13 tw_6 tw_489 (n := 3) (by decide +kernel) rfl rfl (Nat.le_of_ble_eq_true rfl) dW_tell_14 ⟨Nat.le_of_ble_eq_true rfl, Nat.le_of_ble_eq_true rfl⟩ ⟨Nat.zero_le _, Nat.zero_le _⟩) (fun τ2 H locs hp hE _ _ => ?_)
  have hE := wS_eq hp hE
  refine lv_iconst (v := nI 0) hx hb dW_tell_17 (by decide) ?_
  refine lv_istore_n (lv' := [(3, .int (nI 0)), (0, .ref (ad 5)), (1, .int v), (2, .int (nI j))]) hx hb dW_tell_18 rfl hl (by decide) rfl (fun ls hl => ?_)
  exact lp_W_tell C hk hA ht hj _ 0 (openM (mset (mset σ 5 3 (nI 0)) 5 7 (nI 0)) P n9 v 0 j 0 0) (Nat.lt_succ_self _) (by decide) (openM_wI (d := 0) (c := 0) ⟨tS_low ht (fun q h5 _ => by rw [mset_n h5, mset_n h5]), by decide, by decide, mset_s, by rw [mset_i (by decide), mset_s], fun e he => absurd he (Nat.not_lt_zero _)⟩ (Nat.zero_le _) hj) (rfl) _ _ ls hE (lv_sub hl [1, 2, 3, 0] rfl)
end
section
theorem closeS_n {k P S q : Nat} {σ : Mem} (h1 : q ≠ 12) (h2 : q ≠ k + 19) : closeS k P S σ q = σ q := by unfold closeS; rw [mrow_n h2, mrow_n h1]
theorem closeM_n {k P S q : Nat} (h1 : q ≠ 12) (h2 : q ≠ k + 19) : ∀ (n : Nat) (σ : Mem), closeM k P S n σ q = σ q
  | 0, _ => rfl
  | n + 1, σ => by
    rw [closeM]
    split
    · rw [closeM_n h1 h2 n, closeS_n h1 h2]
    · exact closeS_n h1 h2
/-- set 0 made anew -/
def mfM (P S : Nat) (σ : Mem) : Mem := if P = 0 then mrow σ (0 + 19) (fillR (σ (0 + 19)) (nI 0) 24) else closeM 0 P S 1000 (mrow σ (0 + 19) (predR (σ 6) (gf σ) 0 (σ 6 0) (fillR (σ (0 + 19)) (nI 0) 24) P))
theorem mfM_n {P S q : Nat} {σ : Mem} (h1 : q ≠ 12) (h2 : q ≠ 0 + 19) : mfM P S σ q = σ q := by
  unfold mfM
  split
  · exact mrow_n h2
  · rw [closeM_n h1 h2, mrow_n h2]
theorem tS_set {σ τ : Mem} {P S n : Nat} (h : tS σ P S n) (he : ∀ q, q < 10 → q ≠ 5 → τ q = σ q) : tS τ P S n :=
  ⟨gS_of h.1 (he 1 (by decide) (by decide)) (he 6 (by decide) (by decide)) (he 7 (by decide) (by decide)) (he 8 (by decide) (by decide)) (he 9 (by decide) (by decide)), h.2.1, by rw [he 2 (by decide) (by decide)]; exact h.2.2⟩
/-- after a change of the grammar: no witness, set 0, the stretches that end at place 0 -/
def gcM (P S n : Nat) (σ : Mem) : Mem := upF n S 0 (0 + 1) (mfM P S (mset σ 5 3 (nI 0)))
def isVn (V : Nat) (x : Int32) : Bool := !decide (x < 0) && !decide (nI V ≤ x)
def isTn (T : Nat) (x : Int32) : Bool := !decide (x < nI 100) && !decide (nI (100 + T) ≤ x)
def isKn (n : Nat) (x : Int32) : Bool := !decide (x < 0) && !decide (nI n < x)
end
section
set_option maxHeartbeats 4000000 in
set_option maxRecDepth 100000 in
theorem c_E_grammarChanged (l : Launch) (D : va_G) (cs : Nat → ClassId) (ad : Nat → Nat) (σ : Mem) (P S n9 : Nat) (ht : tS σ P S n9) : MetV l (wE D cs ad) cs yE_grammarChanged bE_grammarChanged 1 7 170 [.ref (ad 0)] σ (fun τ => τ = gcM P S n9 σ) := by
  refine MetV.start (by decide) (Nat.le_of_ble_eq_true rfl) ?_
  intro p e s m below meth c A ls C hk hA hE hl
  obtain ⟨hx, hb, hml, hown, hts, hr, hlocks⟩ := id C
  have hl : lv_has ls 1 [(0, .ref (ad 0))] := hl
  refine lv_aload_n hx hb dE_grammarChanged_0 rfl (lv_at hl 0 rfl) ?_
  refine w_get C hk hE (K := R_E) (T := F_E) (N := 7) (ci := 5) in_E 0 (Nat.le_of_ble_eq_true rfl) rfl rfl 6 (by decide) tw_255 rfl rfl dE_grammarChanged_1 ?_
  refine w_cv hE hA (w_runV C hk hE hl.1 (As := []) (rest := []) (q := 5) (c_W_forget l D cs ad σ _) (Nat.le_of_ble_eq_true rfl) (ci := 4) (N := 8) (T := F_W) rfl rfl tw_153 tw_154 tw_155 tw_6 tw_156 (n := 0) (by decide +kernel) rfl rfl (Nat.le_of_ble_eq_true rfl) dE_grammarChanged_4 ⟨Nat.le_of_ble_eq_true rfl, Nat.le_of_ble_eq_true rfl⟩ ⟨Nat.zero_le _, Nat.zero_le _⟩) (fun τ2 H locs hp hE _ _ => ?_)
  have hE := wS_eq hp hE
  refine lv_aload_n hx hb dE_grammarChanged_7 rfl (lv_at hl 0 rfl) ?_
  refine w_get C hk hE (K := R_E) (T := F_E) (N := 7) (ci := 5) in_E 0 (Nat.le_of_ble_eq_true rfl) rfl rfl 4 (by decide) tw_253 rfl rfl dE_grammarChanged_8 ?_
  refine w_cv hE hA (w_runV C hk hE hl.1 (As := []) (rest := []) (q := 3) (c_S_makeFirst l D cs ad (mset σ 5 3 (nI 0)) P S (tS_set ht (fun q _ h5 => mset_n h5)).1 _) (Nat.le_of_ble_eq_true rfl) (ci := 2) (N := 3) (T := F_S) rfl rfl tw_157 tw_158 tw_159 tw_5 tw_160 (n := 0) (by decide +kernel) rfl rfl (Nat.le_of_ble_eq_true rfl) dE_grammarChanged_11 ⟨Nat.le_of_ble_eq_true rfl, Nat.le_of_ble_eq_true rfl⟩ ⟨Nat.zero_le _, Nat.zero_le _⟩) (fun τ4 H locs hp hE _ _ => ?_)
  have hE : wS (wE D cs ad) A s.heap (mfM P S (mset σ 5 3 (nI 0))) H locs := wS_eq hp hE
  refine lv_aload_n hx hb dE_grammarChanged_14 rfl (lv_at hl 0 rfl) ?_
  refine w_get C hk hE (K := R_E) (T := F_E) (N := 7) (ci := 5) in_E 0 (Nat.le_of_ble_eq_true rfl) rfl rfl 5 (by decide) tw_254 rfl rfl dE_grammarChanged_15 ?_
  refine lv_iconst (v := nI 0) hx hb dE_grammarChanged_18 (by decide) ?_
  refine w_cv hE hA (w_runV C hk hE hl.1 (As := [.int (nI 0)]) (rest := []) (q := 4) (c_T_fillUpTo l D cs ad (mfM P S (mset σ 5 3 (nI 0))) P S n9 0 (tS_set ht (fun q h10 h5 => by rw [mfM_n (by omega) (by omega), mset_n h5])) (by decide) _) (Nat.le_of_ble_eq_true rfl) (ci := 3) (N := 4) (T := F_T) rfl rfl tw_205 tw_206 tw_207 tw_4 tw_208 (n := 1) (by decide +kernel) rfl rfl (Nat.le_of_ble_eq_true rfl) dE_grammarChanged_19 ⟨Nat.le_of_ble_eq_true rfl, Nat.le_of_ble_eq_true rfl⟩ ⟨Nat.zero_le _, Nat.zero_le _⟩) (fun τ6 H locs hp hE _ _ => ?_)
  have hE := wS_eq hp hE
  exact w_retv C hE (rfl) dE_grammarChanged_22
set_option maxHeartbeats 4000000 in
set_option maxRecDepth 100000 in
theorem c_E_alive (l : Launch) (D : va_G) (cs : Nat → ClassId) (ad : Nat → Nat) (σ : Mem) (P S n9 : Nat) (ht : tS σ P S n9) : MetI l (wE D cs ad) cs yE_alive bE_alive 1 (some .boolean) 2 43 [.ref (ad 0)] σ (fun r τ => r = zb (!decide (sizF (σ (n9 + 19)) S ≤ 0)) ∧ τ = σ) := by
  refine MetI.start (by decide) (Nat.le_of_ble_eq_true rfl) ?_
  intro p e s m below meth c A ls C hk hA hE hl
  obtain ⟨hx, hb, hml, hown, hts, hr, hlocks⟩ := id C
  have hl : lv_has ls 1 [(0, .ref (ad 0))] := hl
  have hn9 := ht.2.1
  refine lv_aload_n hx hb dE_alive_0 rfl (lv_at hl 0 rfl) ?_
  refine w_get C hk hE (K := R_E) (T := F_E) (N := 7) (ci := 5) in_E 0 (Nat.le_of_ble_eq_true rfl) rfl rfl 4 (by decide) tw_253 rfl rfl dE_alive_1 ?_
  refine lv_aload_n hx hb dE_alive_4 rfl (lv_at hl 0 rfl) ?_
  refine w_get C hk hE (K := R_E) (T := F_E) (N := 7) (ci := 5) in_E 0 (Nat.le_of_ble_eq_true rfl) rfl rfl 3 (by decide) tw_252 rfl rfl dE_alive_5 ?_
  refine w_get C hk hE (K := R_I) (T := F_I) (N := 2) (ci := 1) in_I 2 (Nat.le_of_ble_eq_true rfl) rfl rfl 1 (by decide) tw_72 rfl rfl dE_alive_8 ?_
  refine w_top (y := nI n9) (ht.2.2) ?_
  refine w_ci hE hA (w_runV C hk hE hl.1 (As := [.int (nI n9)]) (rest := []) (q := 3) (c_S_size l D cs ad σ n9 S (by omega) ht.1.2.2.2.1 ht.1.2.1 _) (Nat.le_of_ble_eq_true rfl) (ci := 2) (N := 3) (T := F_S) rfl rfl tw_275 tw_177 tw_178 tw_5 tw_179 (n := 1) (by decide +kernel) rfl rfl (Nat.le_of_ble_eq_true rfl) dE_alive_11 ⟨Nat.le_of_ble_eq_true rfl, Nat.le_of_ble_eq_true rfl⟩ ⟨Nat.zero_le _, Nat.zero_le _⟩) (fun r1 τ2 H locs hp hE _ _ => ?_)
  refine w_top hp.1 ?_
  have hE := wS_eq hp.2 hE
  refine lv_if_le (tgt := 21) hx hb dE_alive_14 (by decide) (fun c3 => ?_) (fun c3 => ?_)
  · refine lv_iconst (v := nI 0) hx hb dE_alive_21 (by decide) ?_
    exact w_retz C hE (Or.inl rfl) (⟨by simp [zb, c3], rfl⟩) dE_alive_22
  · refine lv_iconst (v := nI 1) hx hb dE_alive_17 (by decide) ?_
    refine lv_goto (tgt := 22) hx hb dE_alive_18 (by decide) ?_
    exact w_retz C hE (Or.inr rfl) (⟨by simp [zb, c3], rfl⟩) dE_alive_22
set_option maxHeartbeats 4000000 in
set_option maxRecDepth 100000 in
theorem c_E_accepts (l : Launch) (D : va_G) (cs : Nat → ClassId) (ad : Nat → Nat) (σ : Mem) (P S n9 : Nat) (ht : tS σ P S n9) : MetI l (wE D cs ad) cs yE_accepts bE_accepts 1 (some .boolean) 2 43 [.ref (ad 0)] σ (fun r τ => r = zb (holdF σ (σ (n9 + 19)) S) ∧ τ = σ) := by
  refine MetI.start (by decide) (Nat.le_of_ble_eq_true rfl) ?_
  intro p e s m below meth c A ls C hk hA hE hl
  obtain ⟨hx, hb, hml, hown, hts, hr, hlocks⟩ := id C
  have hl : lv_has ls 1 [(0, .ref (ad 0))] := hl
  have hn9 := ht.2.1
  refine lv_aload_n hx hb dE_accepts_0 rfl (lv_at hl 0 rfl) ?_
  refine w_get C hk hE (K := R_E) (T := F_E) (N := 7) (ci := 5) in_E 0 (Nat.le_of_ble_eq_true rfl) rfl rfl 4 (by decide) tw_253 rfl rfl dE_accepts_1 ?_
  refine lv_aload_n hx hb dE_accepts_4 rfl (lv_at hl 0 rfl) ?_
  refine w_get C hk hE (K := R_E) (T := F_E) (N := 7) (ci := 5) in_E 0 (Nat.le_of_ble_eq_true rfl) rfl rfl 3 (by decide) tw_252 rfl rfl dE_accepts_5 ?_
  refine w_get C hk hE (K := R_I) (T := F_I) (N := 2) (ci := 1) in_I 2 (Nat.le_of_ble_eq_true rfl) rfl rfl 1 (by decide) tw_72 rfl rfl dE_accepts_8 ?_
  refine w_top (y := nI n9) (ht.2.2) ?_
  refine w_ci hE hA (w_runV C hk hE hl.1 (As := [.int (nI n9)]) (rest := []) (q := 3) (c_S_holdWholeStart l D cs ad σ n9 P S (by omega) ht.1 _) (Nat.le_of_ble_eq_true rfl) (ci := 2) (N := 3) (T := F_S) rfl rfl tw_280 tw_281 tw_282 tw_5 tw_283 (n := 1) (by decide +kernel) rfl rfl (Nat.le_of_ble_eq_true rfl) dE_accepts_11 ⟨Nat.le_of_ble_eq_true rfl, Nat.le_of_ble_eq_true rfl⟩ ⟨Nat.zero_le _, Nat.zero_le _⟩) (fun r1 τ2 H locs hp hE _ _ => ?_)
  refine w_top hp.1 ?_
  have hE := wS_eq hp.2 hE
  exact w_retz C hE (zb_01 _) (⟨rfl, rfl⟩) dE_accepts_14
set_option maxHeartbeats 4000000 in
set_option maxRecDepth 100000 in
theorem c_E_witCount (l : Launch) (D : va_G) (cs : Nat → ClassId) (ad : Nat → Nat) (σ : Mem)  : MetI l (wE D cs ad) cs yE_witCount bE_witCount 1 (some .int) 0 0 [.ref (ad 0)] σ (fun r τ => r = σ 5 3 ∧ τ = σ) := by
  refine MetI.start (by decide) (Nat.le_of_ble_eq_true rfl) ?_
  intro p e s m below meth c A ls C hk hA hE hl
  obtain ⟨hx, hb, hml, hown, hts, hr, hlocks⟩ := id C
  have hl : lv_has ls 1 [(0, .ref (ad 0))] := hl
  refine lv_aload_n hx hb dE_witCount_0 rfl (lv_at hl 0 rfl) ?_
  refine w_get C hk hE (K := R_E) (T := F_E) (N := 7) (ci := 5) in_E 0 (Nat.le_of_ble_eq_true rfl) rfl rfl 6 (by decide) tw_255 rfl rfl dE_witCount_1 ?_
  refine w_get C hk hE (K := R_W) (T := F_W) (N := 8) (ci := 4) in_W 5 (Nat.le_of_ble_eq_true rfl) rfl rfl 3 (by decide) tw_127 rfl rfl dE_witCount_4 ?_
  exact w_reti C hE (⟨rfl, rfl⟩) dE_witCount_7
set_option maxHeartbeats 4000000 in
set_option maxRecDepth 100000 in
theorem c_E_fed (l : Launch) (D : va_G) (cs : Nat → ClassId) (ad : Nat → Nat) (σ : Mem)  : MetI l (wE D cs ad) cs yE_fed bE_fed 1 (some .int) 0 0 [.ref (ad 0)] σ (fun r τ => r = σ 2 1 ∧ τ = σ) := by
  refine MetI.start (by decide) (Nat.le_of_ble_eq_true rfl) ?_
  intro p e s m below meth c A ls C hk hA hE hl
  obtain ⟨hx, hb, hml, hown, hts, hr, hlocks⟩ := id C
  have hl : lv_has ls 1 [(0, .ref (ad 0))] := hl
  refine lv_aload_n hx hb dE_fed_0 rfl (lv_at hl 0 rfl) ?_
  refine w_get C hk hE (K := R_E) (T := F_E) (N := 7) (ci := 5) in_E 0 (Nat.le_of_ble_eq_true rfl) rfl rfl 3 (by decide) tw_252 rfl rfl dE_fed_1 ?_
  refine w_get C hk hE (K := R_I) (T := F_I) (N := 2) (ci := 1) in_I 2 (Nat.le_of_ble_eq_true rfl) rfl rfl 1 (by decide) tw_72 rfl rfl dE_fed_4 ?_
  exact w_reti C hE (⟨rfl, rfl⟩) dE_fed_7
set_option maxHeartbeats 4000000 in
set_option maxRecDepth 100000 in
theorem c_E_clear (l : Launch) (D : va_G) (cs : Nat → ClassId) (ad : Nat → Nat) (σ : Mem)  : MetI l (wE D cs ad) cs yE_clear bE_clear 2 (some .int) 1 20 [.ref (ad 0)] σ (fun r τ => r = σ 2 1 ∧ τ = mset (mset σ 2 1 (nI 0)) 5 3 (nI 0)) := by
  refine MetI.start (by decide) (Nat.le_of_ble_eq_true rfl) ?_
  intro p e s m below meth c A ls C hk hA hE hl
  obtain ⟨hx, hb, hml, hown, hts, hr, hlocks⟩ := id C
  have hl : lv_has ls 2 [(0, .ref (ad 0))] := hl
  refine lv_aload_n hx hb dE_clear_0 rfl (lv_at hl 0 rfl) ?_
  refine w_get C hk hE (K := R_E) (T := F_E) (N := 7) (ci := 5) in_E 0 (Nat.le_of_ble_eq_true rfl) rfl rfl 3 (by decide) tw_252 rfl rfl dE_clear_1 ?_
  refine w_get C hk hE (K := R_I) (T := F_I) (N := 2) (ci := 1) in_I 2 (Nat.le_of_ble_eq_true rfl) rfl rfl 1 (by decide) tw_72 rfl rfl dE_clear_4 ?_
  refine lv_istore_n (lv' := [(1, .int (σ 2 1)), (0, .ref (ad 0))]) hx hb dE_clear_7 rfl hl (by decide) rfl (fun ls hl => ?_)
  refine lv_aload_n hx hb dE_clear_8 rfl (lv_at hl 1 rfl) ?_
  refine w_get C hk hE (K := R_E) (T := F_E) (N := 7) (ci := 5) in_E 0 (Nat.le_of_ble_eq_true rfl) rfl rfl 3 (by decide) tw_252 rfl rfl dE_clear_9 ?_
  refine lv_iconst (v := nI 0) hx hb dE_clear_12 (by decide) ?_
  refine w_put C hk hE (K := R_I) (T := F_I) (N := 2) (ci := 1) in_I ft_I_ok fn_I 2 (Nat.le_of_ble_eq_true rfl) rfl rfl 1 (by decide) tw_72 rfl rfl (rfl) (rfl) (Nat.le_of_ble_eq_true rfl) rfl dE_clear_13 (fun H locs hE => ?_)
  refine lv_aload_n hx hb dE_clear_16 rfl (lv_at hl 1 rfl) ?_
  refine w_get C hk hE (K := R_E) (T := F_E) (N := 7) (ci := 5) in_E 0 (Nat.le_of_ble_eq_true rfl) rfl rfl 6 (by decide) tw_255 rfl rfl dE_clear_17 ?_
  refine w_cv hE hA (w_runV C hk hE hl.1 (As := []) (rest := []) (q := 5) (c_W_forget l D cs ad (mset σ 2 1 (nI 0)) _) (Nat.le_of_ble_eq_true rfl) (ci := 4) (N := 8) (T := F_W) rfl rfl tw_153 tw_154 tw_155 tw_6 tw_156 (n := 0) (by decide +kernel) rfl rfl (Nat.le_of_ble_eq_true rfl) dE_clear_20 ⟨Nat.le_of_ble_eq_true rfl, Nat.le_of_ble_eq_true rfl⟩ ⟨Nat.zero_le _, Nat.zero_le _⟩) (fun τ2 H locs hp hE _ _ => ?_)
  have hE := wS_eq hp hE
  refine lv_iload_n hx hb dE_clear_23 rfl (lv_at hl 0 rfl) ?_
  exact w_reti C hE (⟨rfl, rfl⟩) dE_clear_24
set_option maxHeartbeats 4000000 in
set_option maxRecDepth 100000 in
theorem c_E_erase (l : Launch) (D : va_G) (cs : Nat → ClassId) (ad : Nat → Nat) (σ : Mem)  : MetI l (wE D cs ad) cs yE_erase bE_erase 2 (some .int) 8 190 [.ref (ad 0)] σ (fun r τ => r = σ 1 4 ∧ τ = gcM 0 0 0 (mset (mset (mset σ 2 1 (nI 0)) 1 4 (nI 0)) 1 5 (nI 0))) := by
  refine MetI.start (by decide) (Nat.le_of_ble_eq_true rfl) ?_
  intro p e s m below meth c A ls C hk hA hE hl
  obtain ⟨hx, hb, hml, hown, hts, hr, hlocks⟩ := id C
  have hl : lv_has ls 2 [(0, .ref (ad 0))] := hl
  refine lv_aload_n hx hb dE_erase_0 rfl (lv_at hl 0 rfl) ?_
  refine w_get C hk hE (K := R_E) (T := F_E) (N := 7) (ci := 5) in_E 0 (Nat.le_of_ble_eq_true rfl) rfl rfl 2 (by decide) tw_251 rfl rfl dE_erase_1 ?_
  refine w_get C hk hE (K := R_G) (T := F_G) (N := 6) (ci := 0) in_G 1 (Nat.le_of_ble_eq_true rfl) rfl rfl 4 (by decide) tw_45 rfl rfl dE_erase_4 ?_
  refine lv_istore_n (lv' := [(1, .int (σ 1 4)), (0, .ref (ad 0))]) hx hb dE_erase_7 rfl hl (by decide) rfl (fun ls hl => ?_)
  refine lv_aload_n hx hb dE_erase_8 rfl (lv_at hl 1 rfl) ?_
  refine w_get C hk hE (K := R_E) (T := F_E) (N := 7) (ci := 5) in_E 0 (Nat.le_of_ble_eq_true rfl) rfl rfl 3 (by decide) tw_252 rfl rfl dE_erase_9 ?_
  refine lv_iconst (v := nI 0) hx hb dE_erase_12 (by decide) ?_
  refine w_put C hk hE (K := R_I) (T := F_I) (N := 2) (ci := 1) in_I ft_I_ok fn_I 2 (Nat.le_of_ble_eq_true rfl) rfl rfl 1 (by decide) tw_72 rfl rfl (rfl) (rfl) (Nat.le_of_ble_eq_true rfl) rfl dE_erase_13 (fun H locs hE => ?_)
  refine lv_aload_n hx hb dE_erase_16 rfl (lv_at hl 1 rfl) ?_
  refine w_get C hk hE (K := R_E) (T := F_E) (N := 7) (ci := 5) in_E 0 (Nat.le_of_ble_eq_true rfl) rfl rfl 2 (by decide) tw_251 rfl rfl dE_erase_17 ?_
  refine w_cv hE hA (w_runV C hk hE hl.1 (As := []) (rest := []) (q := 1) (c_G_forget l D cs ad (mset σ 2 1 (nI 0)) _) (Nat.le_of_ble_eq_true rfl) (ci := 0) (N := 6) (T := F_G) rfl rfl tw_296 tw_297 tw_298 tw_2 tw_299 (n := 0) (by decide +kernel) rfl rfl (Nat.le_of_ble_eq_true rfl) dE_erase_20 ⟨Nat.le_of_ble_eq_true rfl, Nat.le_of_ble_eq_true rfl⟩ ⟨Nat.zero_le _, Nat.zero_le _⟩) (fun τ2 H locs hp hE _ _ => ?_)
  have hE := wS_eq hp hE
  refine lv_aload_n hx hb dE_erase_23 rfl (lv_at hl 1 rfl) ?_
  refine w_cv hE hA (w_runV C hk hE hl.1 (As := []) (rest := []) (q := 0) (c_E_grammarChanged l D cs ad (mset (mset (mset σ 2 1 (nI 0)) 1 4 (nI 0)) 1 5 (nI 0)) 0 0 0 ⟨⟨by decide, by decide, by rw [mset_i (by decide), mset_s], mset_s, fun _ h => absurd h (Nat.not_lt_zero _), fun _ h => absurd h (Nat.not_lt_zero _), fun _ h => absurd h (Nat.not_lt_zero _)⟩, by decide, by rw [mset_n (by decide), mset_n (by decide), mset_s]⟩ _) (Nat.le_of_ble_eq_true rfl) (ci := 5) (N := 7) (T := F_E) rfl rfl tw_149 tw_151 ts_0 tw_1 tw_152 (n := 0) (by decide +kernel) rfl rfl (Nat.le_of_ble_eq_true rfl) dE_erase_24 ⟨Nat.le_of_ble_eq_true rfl, Nat.le_of_ble_eq_true rfl⟩ ⟨Nat.zero_le _, Nat.zero_le _⟩) (fun τ4 H locs hp hE _ _ => ?_)
  have hE := wS_eq hp hE
  refine lv_iload_n hx hb dE_erase_27 rfl (lv_at hl 0 rfl) ?_
  exact w_reti C hE (⟨rfl, rfl⟩) dE_erase_28
set_option maxHeartbeats 4000000 in
set_option maxRecDepth 100000 in
theorem c_E_hasVariable (l : Launch) (D : va_G) (cs : Nat → ClassId) (ad : Nat → Nat) (σ : Mem) (V9 : Nat) (x : Int32) (hV : σ 0 0 = nI V9) (hV6 : V9 ≤ 6) : MetI l (wE D cs ad) cs yE_hasVariable bE_hasVariable 2 (some .boolean) 0 0 [.ref (ad 0), .int x] σ (fun r τ => r = zb (isVn V9 x) ∧ τ = σ) := by
  refine MetI.start (by decide) (Nat.le_of_ble_eq_true rfl) ?_
  intro p e s m below meth c A ls C hk hA hE hl
  obtain ⟨hx, hb, hml, hown, hts, hr, hlocks⟩ := id C
  have hl : lv_has ls 2 [(0, .ref (ad 0)), (1, .int x)] := hl
  refine lv_iload_n hx hb dE_hasVariable_0 rfl (lv_at hl 1 rfl) ?_
  refine lv_if_lt (tgt := 16) hx hb dE_hasVariable_1 (by decide) (fun c1 => ?_) (fun c1 => ?_)
  · refine lv_iconst (v := nI 0) hx hb dE_hasVariable_16 (by decide) ?_
    exact w_retz C hE (Or.inl rfl) (⟨by simp [zb, isVn, c1], rfl⟩) dE_hasVariable_17
  · refine lv_iload_n hx hb dE_hasVariable_4 rfl (lv_at hl 1 rfl) ?_
    refine lv_aload_n hx hb dE_hasVariable_5 rfl (lv_at hl 0 rfl) ?_
    refine w_get C hk hE (K := R_E) (T := F_E) (N := 7) (ci := 5) in_E 0 (Nat.le_of_ble_eq_true rfl) rfl rfl 0 (by decide) tw_249 rfl rfl dE_hasVariable_6 ?_
    refine w_top (y := nI V9) (hV) ?_
    refine lv_icmp_ge (tgt := 16) hx hb dE_hasVariable_9 (by decide) (fun c2 => ?_) (fun c2 => ?_)
    · refine lv_iconst (v := nI 0) hx hb dE_hasVariable_16 (by decide) ?_
      exact w_retz C hE (Or.inl rfl) (⟨by simp [zb, isVn, c1, c2], rfl⟩) dE_hasVariable_17
    · refine lv_iconst (v := nI 1) hx hb dE_hasVariable_12 (by decide) ?_
      refine lv_goto (tgt := 17) hx hb dE_hasVariable_13 (by decide) ?_
      exact w_retz C hE (Or.inr rfl) (⟨by simp [zb, isVn, c1, c2], rfl⟩) dE_hasVariable_17
set_option maxHeartbeats 4000000 in
set_option maxRecDepth 100000 in
theorem c_E_hasToken (l : Launch) (D : va_G) (cs : Nat → ClassId) (ad : Nat → Nat) (σ : Mem) (T9 : Nat) (x : Int32) (hT : σ 0 1 = nI T9) (hT6 : T9 ≤ 6) : MetI l (wE D cs ad) cs yE_hasToken bE_hasToken 2 (some .boolean) 0 0 [.ref (ad 0), .int x] σ (fun r τ => r = zb (isTn T9 x) ∧ τ = σ) := by
  refine MetI.start (by decide) (Nat.le_of_ble_eq_true rfl) ?_
  intro p e s m below meth c A ls C hk hA hE hl
  obtain ⟨hx, hb, hml, hown, hts, hr, hlocks⟩ := id C
  have hl : lv_has ls 2 [(0, .ref (ad 0)), (1, .int x)] := hl
  refine lv_iload_n hx hb dE_hasToken_0 rfl (lv_at hl 1 rfl) ?_
  refine lv_bipush (v := nI 100) hx hb dE_hasToken_1 (by decide) ?_
  refine lv_icmp_lt (tgt := 21) hx hb dE_hasToken_3 (by decide) (fun c1 => ?_) (fun c1 => ?_)
  · refine lv_iconst (v := nI 0) hx hb dE_hasToken_21 (by decide) ?_
    exact w_retz C hE (Or.inl rfl) (⟨by simp [zb, isTn, c1], rfl⟩) dE_hasToken_22
  · refine lv_iload_n hx hb dE_hasToken_6 rfl (lv_at hl 1 rfl) ?_
    refine lv_bipush (v := nI 100) hx hb dE_hasToken_7 (by decide) ?_
    refine lv_aload_n hx hb dE_hasToken_9 rfl (lv_at hl 0 rfl) ?_
    refine w_get C hk hE (K := R_E) (T := F_E) (N := 7) (ci := 5) in_E 0 (Nat.le_of_ble_eq_true rfl) rfl rfl 1 (by decide) tw_250 rfl rfl dE_hasToken_10 ?_
    refine w_top (y := nI T9) (hT) ?_
    refine lv_iadd hx hb dE_hasToken_13 ?_
    refine w_top (y := nI (100 + T9)) (by first | exact nI_add _ _ | simp only [nI_add, Nat.add_assoc, Nat.add_zero, Nat.zero_add]) ?_
    refine lv_icmp_ge (tgt := 21) hx hb dE_hasToken_14 (by decide) (fun c2 => ?_) (fun c2 => ?_)
    · refine lv_iconst (v := nI 0) hx hb dE_hasToken_21 (by decide) ?_
      exact w_retz C hE (Or.inl rfl) (⟨by simp [zb, isTn, c1, c2], rfl⟩) dE_hasToken_22
    · refine lv_iconst (v := nI 1) hx hb dE_hasToken_17 (by decide) ?_
      refine lv_goto (tgt := 22) hx hb dE_hasToken_18 (by decide) ?_
      exact w_retz C hE (Or.inr rfl) (⟨by simp [zb, isTn, c1, c2], rfl⟩) dE_hasToken_22
set_option maxHeartbeats 4000000 in
set_option maxRecDepth 100000 in
theorem c_E_hasSet (l : Launch) (D : va_G) (cs : Nat → ClassId) (ad : Nat → Nat) (σ : Mem) (n9 : Nat) (x : Int32) (hn : σ 2 1 = nI n9) (hn8 : n9 ≤ 8) : MetI l (wE D cs ad) cs yE_hasSet bE_hasSet 2 (some .boolean) 0 0 [.ref (ad 0), .int x] σ (fun r τ => r = zb (isKn n9 x) ∧ τ = σ) := by
  refine MetI.start (by decide) (Nat.le_of_ble_eq_true rfl) ?_
  intro p e s m below meth c A ls C hk hA hE hl
  obtain ⟨hx, hb, hml, hown, hts, hr, hlocks⟩ := id C
  have hl : lv_has ls 2 [(0, .ref (ad 0)), (1, .int x)] := hl
  refine lv_iload_n hx hb dE_hasSet_0 rfl (lv_at hl 1 rfl) ?_
  refine lv_if_lt (tgt := 19) hx hb dE_hasSet_1 (by decide) (fun c1 => ?_) (fun c1 => ?_)
  · refine lv_iconst (v := nI 0) hx hb dE_hasSet_19 (by decide) ?_
    exact w_retz C hE (Or.inl rfl) (⟨by simp [zb, isKn, c1], rfl⟩) dE_hasSet_20
  · refine lv_iload_n hx hb dE_hasSet_4 rfl (lv_at hl 1 rfl) ?_
    refine lv_aload_n hx hb dE_hasSet_5 rfl (lv_at hl 0 rfl) ?_
    refine w_get C hk hE (K := R_E) (T := F_E) (N := 7) (ci := 5) in_E 0 (Nat.le_of_ble_eq_true rfl) rfl rfl 3 (by decide) tw_252 rfl rfl dE_hasSet_6 ?_
    refine w_get C hk hE (K := R_I) (T := F_I) (N := 2) (ci := 1) in_I 2 (Nat.le_of_ble_eq_true rfl) rfl rfl 1 (by decide) tw_72 rfl rfl dE_hasSet_9 ?_
    refine w_top (y := nI n9) (hn) ?_
    refine lv_icmp_gt (tgt := 19) hx hb dE_hasSet_12 (by decide) (fun c2 => ?_) (fun c2 => ?_)
    · refine lv_iconst (v := nI 0) hx hb dE_hasSet_19 (by decide) ?_
      exact w_retz C hE (Or.inl rfl) (⟨by simp [zb, isKn, c1, c2], rfl⟩) dE_hasSet_20
    · refine lv_iconst (v := nI 1) hx hb dE_hasSet_15 (by decide) ?_
      refine lv_goto (tgt := 20) hx hb dE_hasSet_16 (by decide) ?_
      exact w_retz C hE (Or.inr rfl) (⟨by simp [zb, isKn, c1, c2], rfl⟩) dE_hasSet_20
end
section
theorem dM_init_0 : decode bM_init 0 = .ok (.aload_n 0, 1) := by decide +kernel
theorem dM_init_1 : decode bM_init 1 = .ok (.invokespecial 1, 3) := by decide +kernel
theorem dM_init_4 : decode bM_init 4 = .ok (.aload_n 0, 1) := by decide +kernel
theorem dM_init_5 : decode bM_init 5 = .ok (.bipush 8, 2) := by decide +kernel
theorem dM_init_7 : decode bM_init 7 = .ok (.newarray .int, 2) := by decide +kernel
theorem dM_init_9 : decode bM_init 9 = .ok (.putfield 7, 3) := by decide +kernel
theorem dM_init_12 : decode bM_init 12 = .ok (.aload_n 0, 1) := by decide +kernel
theorem dM_init_13 : decode bM_init 13 = .ok (.bipush 8, 2) := by decide +kernel
theorem dM_init_15 : decode bM_init 15 = .ok (.newarray .int, 2) := by decide +kernel
theorem dM_init_17 : decode bM_init 17 = .ok (.putfield 13, 3) := by decide +kernel
theorem dM_init_20 : decode bM_init 20 = .ok (.aload_n 0, 1) := by decide +kernel
theorem dM_init_21 : decode bM_init 21 = .ok (.bipush 32, 2) := by decide +kernel
theorem dM_init_23 : decode bM_init 23 = .ok (.newarray .int, 2) := by decide +kernel
theorem dM_init_25 : decode bM_init 25 = .ok (.putfield 16, 3) := by decide +kernel
theorem dM_init_28 : decode bM_init 28 = .ok (.aload_n 0, 1) := by decide +kernel
theorem dM_init_29 : decode bM_init 29 = .ok (.bipush 9, 2) := by decide +kernel
theorem dM_init_31 : decode bM_init 31 = .ok (.newarray .int, 2) := by decide +kernel
theorem dM_init_33 : decode bM_init 33 = .ok (.putfield 19, 3) := by decide +kernel
theorem dM_init_36 : decode bM_init 36 = .ok (.aload_n 0, 1) := by decide +kernel
theorem dM_init_37 : decode bM_init 37 = .ok (.sipush 3240, 3) := by decide +kernel
theorem dM_init_40 : decode bM_init 40 = .ok (.newarray .boolean, 2) := by decide +kernel
theorem dM_init_42 : decode bM_init 42 = .ok (.putfield 22, 3) := by decide +kernel
theorem dM_init_45 : decode bM_init 45 = .ok (.aload_n 0, 1) := by decide +kernel
theorem dM_init_46 : decode bM_init 46 = .ok (.sipush 486, 3) := by decide +kernel
theorem dM_init_49 : decode bM_init 49 = .ok (.newarray .int, 2) := by decide +kernel
theorem dM_init_51 : decode bM_init 51 = .ok (.putfield 26, 3) := by decide +kernel
theorem dM_init_54 : decode bM_init 54 = .ok (.aload_n 0, 1) := by decide +kernel
theorem dM_init_55 : decode bM_init 55 = .ok (.bipush 45, 2) := by decide +kernel
theorem dM_init_57 : decode bM_init 57 = .ok (.newarray .int, 2) := by decide +kernel
theorem dM_init_59 : decode bM_init 59 = .ok (.putfield 29, 3) := by decide +kernel
theorem dM_init_62 : decode bM_init 62 = .ok (.aload_n 0, 1) := by decide +kernel
theorem dM_init_63 : decode bM_init 63 = .ok (.sipush 8000, 3) := by decide +kernel
theorem dM_init_66 : decode bM_init 66 = .ok (.newarray .int, 2) := by decide +kernel
theorem dM_init_68 : decode bM_init 68 = .ok (.putfield 32, 3) := by decide +kernel
theorem dM_init_71 : decode bM_init 71 = .ok (.aload_n 0, 1) := by decide +kernel
theorem dM_init_72 : decode bM_init 72 = .ok (.sipush 1000, 3) := by decide +kernel
theorem dM_init_75 : decode bM_init 75 = .ok (.newarray .int, 2) := by decide +kernel
theorem dM_init_77 : decode bM_init 77 = .ok (.putfield 35, 3) := by decide +kernel
theorem dM_init_80 : decode bM_init 80 = .ok (.aload_n 0, 1) := by decide +kernel
theorem dM_init_81 : decode bM_init 81 = .ok (.iload_n 1, 1) := by decide +kernel
theorem dM_init_82 : decode bM_init 82 = .ok (.iconst 1, 1) := by decide +kernel
theorem dM_init_83 : decode bM_init 83 = .ok (.if_icmp .lt 13, 3) := by decide +kernel
theorem dM_init_86 : decode bM_init 86 = .ok (.iload_n 1, 1) := by decide +kernel
theorem dM_init_87 : decode bM_init 87 = .ok (.bipush 6, 2) := by decide +kernel
theorem dM_init_89 : decode bM_init 89 = .ok (.if_icmp .gt 7, 3) := by decide +kernel
theorem dM_init_92 : decode bM_init 92 = .ok (.iload_n 1, 1) := by decide +kernel
theorem dM_init_93 : decode bM_init 93 = .ok (.goto 4, 3) := by decide +kernel
theorem dM_init_96 : decode bM_init 96 = .ok (.iconst 4, 1) := by decide +kernel
theorem dM_init_97 : decode bM_init 97 = .ok (.putfield 38, 3) := by decide +kernel
theorem dM_init_100 : decode bM_init 100 = .ok (.aload_n 0, 1) := by decide +kernel
theorem dM_init_101 : decode bM_init 101 = .ok (.iload_n 2, 1) := by decide +kernel
theorem dM_init_102 : decode bM_init 102 = .ok (.iconst 1, 1) := by decide +kernel
theorem dM_init_103 : decode bM_init 103 = .ok (.if_icmp .lt 13, 3) := by decide +kernel
theorem dM_init_106 : decode bM_init 106 = .ok (.iload_n 2, 1) := by decide +kernel
theorem dM_init_107 : decode bM_init 107 = .ok (.bipush 6, 2) := by decide +kernel
theorem dM_init_109 : decode bM_init 109 = .ok (.if_icmp .gt 7, 3) := by decide +kernel
theorem dM_init_112 : decode bM_init 112 = .ok (.iload_n 2, 1) := by decide +kernel
theorem dM_init_113 : decode bM_init 113 = .ok (.goto 4, 3) := by decide +kernel
theorem dM_init_116 : decode bM_init 116 = .ok (.iconst 4, 1) := by decide +kernel
theorem dM_init_117 : decode bM_init 117 = .ok (.putfield 42, 3) := by decide +kernel
theorem dM_init_120 : decode bM_init 120 = .ok (.return_, 1) := by decide +kernel
theorem dM_thrown_0 : decode bM_thrown 0 = .ok (.aload_n 0, 1) := by decide +kernel
theorem dM_thrown_1 : decode bM_thrown 1 = .ok (.getfield 45, 3) := by decide +kernel
theorem dM_thrown_4 : decode bM_thrown 4 = .ok (.ireturn, 1) := by decide +kernel
theorem dM_addProd_0 : decode bM_addProd 0 = .ok (.aload_n 0, 1) := by decide +kernel
theorem dM_addProd_1 : decode bM_addProd 1 = .ok (.aload_n 0, 1) := by decide +kernel
theorem dM_addProd_2 : decode bM_addProd 2 = .ok (.getfield 62, 3) := by decide +kernel
theorem dM_addProd_5 : decode bM_addProd 5 = .ok (.ifCond .gt 12, 3) := by decide +kernel
theorem dM_addProd_8 : decode bM_addProd 8 = .ok (.aload_n 0, 1) := by decide +kernel
theorem dM_addProd_9 : decode bM_addProd 9 = .ok (.getfield 48, 3) := by decide +kernel
theorem dM_addProd_12 : decode bM_addProd 12 = .ok (.bipush 8, 2) := by decide +kernel
theorem dM_addProd_14 : decode bM_addProd 14 = .ok (.if_icmp .lt 7, 3) := by decide +kernel
theorem dM_addProd_17 : decode bM_addProd 17 = .ok (.iconst 1, 1) := by decide +kernel
theorem dM_addProd_18 : decode bM_addProd 18 = .ok (.goto 16, 3) := by decide +kernel
theorem dM_addProd_21 : decode bM_addProd 21 = .ok (.aload_n 0, 1) := by decide +kernel
theorem dM_addProd_22 : decode bM_addProd 22 = .ok (.iload_n 1, 1) := by decide +kernel
theorem dM_addProd_23 : decode bM_addProd 23 = .ok (.invokevirtual 65, 3) := by decide +kernel
theorem dM_addProd_26 : decode bM_addProd 26 = .ok (.ifCond .ne 7, 3) := by decide +kernel
theorem dM_addProd_29 : decode bM_addProd 29 = .ok (.iconst 2, 1) := by decide +kernel
theorem dM_addProd_30 : decode bM_addProd 30 = .ok (.goto 4, 3) := by decide +kernel
theorem dM_addProd_33 : decode bM_addProd 33 = .ok (.iconst 0, 1) := by decide +kernel
theorem dM_addProd_34 : decode bM_addProd 34 = .ok (.invokevirtual 69, 3) := by decide +kernel
theorem dM_addProd_37 : decode bM_addProd 37 = .ok (.ifCond .eq 5, 3) := by decide +kernel
theorem dM_addProd_40 : decode bM_addProd 40 = .ok (.iconst 0, 1) := by decide +kernel
theorem dM_addProd_41 : decode bM_addProd 41 = .ok (.ireturn, 1) := by decide +kernel
theorem dM_addProd_42 : decode bM_addProd 42 = .ok (.aload_n 0, 1) := by decide +kernel
theorem dM_addProd_43 : decode bM_addProd 43 = .ok (.getfield 7, 3) := by decide +kernel
theorem dM_addProd_46 : decode bM_addProd 46 = .ok (.aload_n 0, 1) := by decide +kernel
theorem dM_addProd_47 : decode bM_addProd 47 = .ok (.getfield 48, 3) := by decide +kernel
theorem dM_addProd_50 : decode bM_addProd 50 = .ok (.iload_n 1, 1) := by decide +kernel
theorem dM_addProd_51 : decode bM_addProd 51 = .ok (.iastore, 1) := by decide +kernel
theorem dM_addProd_52 : decode bM_addProd 52 = .ok (.aload_n 0, 1) := by decide +kernel
theorem dM_addProd_53 : decode bM_addProd 53 = .ok (.getfield 13, 3) := by decide +kernel
theorem dM_addProd_56 : decode bM_addProd 56 = .ok (.aload_n 0, 1) := by decide +kernel
theorem dM_addProd_57 : decode bM_addProd 57 = .ok (.getfield 48, 3) := by decide +kernel
theorem dM_addProd_60 : decode bM_addProd 60 = .ok (.iconst 0, 1) := by decide +kernel
theorem dM_addProd_61 : decode bM_addProd 61 = .ok (.iastore, 1) := by decide +kernel
theorem dM_addProd_62 : decode bM_addProd 62 = .ok (.aload_n 0, 1) := by decide +kernel
theorem dM_addProd_63 : decode bM_addProd 63 = .ok (.aload_n 0, 1) := by decide +kernel
theorem dM_addProd_64 : decode bM_addProd 64 = .ok (.getfield 48, 3) := by decide +kernel
theorem dM_addProd_67 : decode bM_addProd 67 = .ok (.iconst 1, 1) := by decide +kernel
theorem dM_addProd_68 : decode bM_addProd 68 = .ok (.iadd, 1) := by decide +kernel
theorem dM_addProd_69 : decode bM_addProd 69 = .ok (.putfield 48, 3) := by decide +kernel
theorem dM_addProd_72 : decode bM_addProd 72 = .ok (.aload_n 0, 1) := by decide +kernel
theorem dM_addProd_73 : decode bM_addProd 73 = .ok (.invokevirtual 72, 3) := by decide +kernel
theorem dM_addProd_76 : decode bM_addProd 76 = .ok (.aload_n 0, 1) := by decide +kernel
theorem dM_addProd_77 : decode bM_addProd 77 = .ok (.getfield 48, 3) := by decide +kernel
theorem dM_addProd_80 : decode bM_addProd 80 = .ok (.iconst 1, 1) := by decide +kernel
theorem dM_addProd_81 : decode bM_addProd 81 = .ok (.isub, 1) := by decide +kernel
theorem dM_addProd_82 : decode bM_addProd 82 = .ok (.ireturn, 1) := by decide +kernel
theorem dM_isVariable_0 : decode bM_isVariable 0 = .ok (.iload_n 1, 1) := by decide +kernel
theorem dM_isVariable_1 : decode bM_isVariable 1 = .ok (.ifCond .lt 15, 3) := by decide +kernel
theorem dM_isVariable_4 : decode bM_isVariable 4 = .ok (.iload_n 1, 1) := by decide +kernel
theorem dM_isVariable_5 : decode bM_isVariable 5 = .ok (.aload_n 0, 1) := by decide +kernel
theorem dM_isVariable_6 : decode bM_isVariable 6 = .ok (.getfield 38, 3) := by decide +kernel
theorem dM_isVariable_9 : decode bM_isVariable 9 = .ok (.if_icmp .ge 7, 3) := by decide +kernel
theorem dM_isVariable_12 : decode bM_isVariable 12 = .ok (.iconst 1, 1) := by decide +kernel
theorem dM_isVariable_13 : decode bM_isVariable 13 = .ok (.goto 4, 3) := by decide +kernel
theorem dM_isVariable_16 : decode bM_isVariable 16 = .ok (.iconst 0, 1) := by decide +kernel
theorem dM_isVariable_17 : decode bM_isVariable 17 = .ok (.ireturn, 1) := by decide +kernel
theorem dM_throwsBy_0 : decode bM_throwsBy 0 = .ok (.aload_n 0, 1) := by decide +kernel
theorem dM_throwsBy_1 : decode bM_throwsBy 1 = .ok (.iload_n 1, 1) := by decide +kernel
theorem dM_throwsBy_2 : decode bM_throwsBy 2 = .ok (.putfield 45, 3) := by decide +kernel
theorem dM_throwsBy_5 : decode bM_throwsBy 5 = .ok (.iload_n 1, 1) := by decide +kernel
theorem dM_throwsBy_6 : decode bM_throwsBy 6 = .ok (.ifCond .le 7, 3) := by decide +kernel
theorem dM_throwsBy_9 : decode bM_throwsBy 9 = .ok (.iconst 1, 1) := by decide +kernel
theorem dM_throwsBy_10 : decode bM_throwsBy 10 = .ok (.goto 4, 3) := by decide +kernel
theorem dM_throwsBy_13 : decode bM_throwsBy 13 = .ok (.iconst 0, 1) := by decide +kernel
theorem dM_throwsBy_14 : decode bM_throwsBy 14 = .ok (.ireturn, 1) := by decide +kernel
theorem dM_grammarChanged_0 : decode bM_grammarChanged 0 = .ok (.aload_n 0, 1) := by decide +kernel
theorem dM_grammarChanged_1 : decode bM_grammarChanged 1 = .ok (.iconst 0, 1) := by decide +kernel
theorem dM_grammarChanged_2 : decode bM_grammarChanged 2 = .ok (.putfield 51, 3) := by decide +kernel
theorem dM_grammarChanged_5 : decode bM_grammarChanged 5 = .ok (.aload_n 0, 1) := by decide +kernel
theorem dM_grammarChanged_6 : decode bM_grammarChanged 6 = .ok (.iconst 0, 1) := by decide +kernel
theorem dM_grammarChanged_7 : decode bM_grammarChanged 7 = .ok (.putfield 54, 3) := by decide +kernel
theorem dM_grammarChanged_10 : decode bM_grammarChanged 10 = .ok (.aload_n 0, 1) := by decide +kernel
theorem dM_grammarChanged_11 : decode bM_grammarChanged 11 = .ok (.iconst 0, 1) := by decide +kernel
theorem dM_grammarChanged_12 : decode bM_grammarChanged 12 = .ok (.invokevirtual 58, 3) := by decide +kernel
theorem dM_grammarChanged_15 : decode bM_grammarChanged 15 = .ok (.return_, 1) := by decide +kernel
theorem dM_fill_0 : decode bM_fill 0 = .ok (.iconst 0, 1) := by decide +kernel
theorem dM_fill_1 : decode bM_fill 1 = .ok (.istore_n 2, 1) := by decide +kernel
theorem dM_fill_2 : decode bM_fill 2 = .ok (.iload_n 2, 1) := by decide +kernel
theorem dM_fill_3 : decode bM_fill 3 = .ok (.sipush 360, 3) := by decide +kernel
theorem dM_fill_6 : decode bM_fill 6 = .ok (.if_icmp .ge 22, 3) := by decide +kernel
theorem dM_fill_9 : decode bM_fill 9 = .ok (.aload_n 0, 1) := by decide +kernel
theorem dM_fill_10 : decode bM_fill 10 = .ok (.getfield 22, 3) := by decide +kernel
theorem dM_fill_13 : decode bM_fill 13 = .ok (.sipush 360, 3) := by decide +kernel
theorem dM_fill_16 : decode bM_fill 16 = .ok (.iload_n 1, 1) := by decide +kernel
theorem dM_fill_17 : decode bM_fill 17 = .ok (.imul, 1) := by decide +kernel
theorem dM_fill_18 : decode bM_fill 18 = .ok (.iload_n 2, 1) := by decide +kernel
theorem dM_fill_19 : decode bM_fill 19 = .ok (.iadd, 1) := by decide +kernel
theorem dM_fill_20 : decode bM_fill 20 = .ok (.iconst 0, 1) := by decide +kernel
theorem dM_fill_21 : decode bM_fill 21 = .ok (.bastore, 1) := by decide +kernel
theorem dM_fill_22 : decode bM_fill 22 = .ok (.iinc 2 1, 3) := by decide +kernel
theorem dM_fill_25 : decode bM_fill 25 = .ok (.goto (-23), 3) := by decide +kernel
theorem dM_fill_28 : decode bM_fill 28 = .ok (.iconst 0, 1) := by decide +kernel
theorem dM_fill_29 : decode bM_fill 29 = .ok (.istore_n 2, 1) := by decide +kernel
theorem dM_fill_30 : decode bM_fill 30 = .ok (.iload_n 2, 1) := by decide +kernel
theorem dM_fill_31 : decode bM_fill 31 = .ok (.aload_n 0, 1) := by decide +kernel
theorem dM_fill_32 : decode bM_fill 32 = .ok (.getfield 48, 3) := by decide +kernel
theorem dM_fill_35 : decode bM_fill 35 = .ok (.if_icmp .ge 109, 3) := by decide +kernel
theorem dM_fill_38 : decode bM_fill 38 = .ok (.iload_n 1, 1) := by decide +kernel
theorem dM_fill_39 : decode bM_fill 39 = .ok (.ifCond .ne 26, 3) := by decide +kernel
theorem dM_fill_42 : decode bM_fill 42 = .ok (.aload_n 0, 1) := by decide +kernel
theorem dM_fill_43 : decode bM_fill 43 = .ok (.getfield 7, 3) := by decide +kernel
theorem dM_fill_46 : decode bM_fill 46 = .ok (.iload_n 2, 1) := by decide +kernel
theorem dM_fill_47 : decode bM_fill 47 = .ok (.iaload, 1) := by decide +kernel
theorem dM_fill_48 : decode bM_fill 48 = .ok (.aload_n 0, 1) := by decide +kernel
theorem dM_fill_49 : decode bM_fill 49 = .ok (.getfield 7, 3) := by decide +kernel
theorem dM_fill_52 : decode bM_fill 52 = .ok (.iconst 0, 1) := by decide +kernel
theorem dM_fill_53 : decode bM_fill 53 = .ok (.iaload, 1) := by decide +kernel
theorem dM_fill_54 : decode bM_fill 54 = .ok (.if_icmp .ne 11, 3) := by decide +kernel
theorem dM_fill_57 : decode bM_fill 57 = .ok (.aload_n 0, 1) := by decide +kernel
theorem dM_fill_58 : decode bM_fill 58 = .ok (.iconst 0, 1) := by decide +kernel
theorem dM_fill_59 : decode bM_fill 59 = .ok (.iload_n 2, 1) := by decide +kernel
theorem dM_fill_60 : decode bM_fill 60 = .ok (.iconst 0, 1) := by decide +kernel
theorem dM_fill_61 : decode bM_fill 61 = .ok (.iconst 0, 1) := by decide +kernel
theorem dM_fill_62 : decode bM_fill 62 = .ok (.invokevirtual 89, 3) := by decide +kernel
theorem dM_fill_65 : decode bM_fill 65 = .ok (.iconst 0, 1) := by decide +kernel
theorem dM_fill_66 : decode bM_fill 66 = .ok (.istore_n 3, 1) := by decide +kernel
theorem dM_fill_67 : decode bM_fill 67 = .ok (.iload_n 3, 1) := by decide +kernel
theorem dM_fill_68 : decode bM_fill 68 = .ok (.aload_n 0, 1) := by decide +kernel
theorem dM_fill_69 : decode bM_fill 69 = .ok (.getfield 13, 3) := by decide +kernel
theorem dM_fill_72 : decode bM_fill 72 = .ok (.iload_n 2, 1) := by decide +kernel
theorem dM_fill_73 : decode bM_fill 73 = .ok (.iaload, 1) := by decide +kernel
theorem dM_fill_74 : decode bM_fill 74 = .ok (.if_icmp .ge 64, 3) := by decide +kernel
theorem dM_fill_77 : decode bM_fill 77 = .ok (.iconst 0, 1) := by decide +kernel
theorem dM_fill_78 : decode bM_fill 78 = .ok (.istore 4, 2) := by decide +kernel
theorem dM_fill_80 : decode bM_fill 80 = .ok (.iload 4, 2) := by decide +kernel
theorem dM_fill_82 : decode bM_fill 82 = .ok (.iload_n 1, 1) := by decide +kernel
theorem dM_fill_83 : decode bM_fill 83 = .ok (.if_icmp .ge 49, 3) := by decide +kernel
theorem dM_fill_86 : decode bM_fill 86 = .ok (.aload_n 0, 1) := by decide +kernel
theorem dM_fill_87 : decode bM_fill 87 = .ok (.iload_n 2, 1) := by decide +kernel
theorem dM_fill_88 : decode bM_fill 88 = .ok (.iload_n 3, 1) := by decide +kernel
theorem dM_fill_89 : decode bM_fill 89 = .ok (.invokevirtual 85, 3) := by decide +kernel
theorem dM_fill_92 : decode bM_fill 92 = .ok (.aload_n 0, 1) := by decide +kernel
theorem dM_fill_93 : decode bM_fill 93 = .ok (.getfield 19, 3) := by decide +kernel
theorem dM_fill_96 : decode bM_fill 96 = .ok (.iload_n 1, 1) := by decide +kernel
theorem dM_fill_97 : decode bM_fill 97 = .ok (.iaload, 1) := by decide +kernel
theorem dM_fill_98 : decode bM_fill 98 = .ok (.if_icmp .ne 34, 3) := by decide +kernel
theorem dM_fill_101 : decode bM_fill 101 = .ok (.aload_n 0, 1) := by decide +kernel
theorem dM_fill_102 : decode bM_fill 102 = .ok (.iload_n 1, 1) := by decide +kernel
theorem dM_fill_103 : decode bM_fill 103 = .ok (.iconst 1, 1) := by decide +kernel
theorem dM_fill_104 : decode bM_fill 104 = .ok (.isub, 1) := by decide +kernel
theorem dM_fill_105 : decode bM_fill 105 = .ok (.iload_n 2, 1) := by decide +kernel
theorem dM_fill_106 : decode bM_fill 106 = .ok (.iload_n 3, 1) := by decide +kernel
theorem dM_fill_107 : decode bM_fill 107 = .ok (.iload 4, 2) := by decide +kernel
theorem dM_fill_109 : decode bM_fill 109 = .ok (.invokevirtual 93, 3) := by decide +kernel
theorem dM_fill_112 : decode bM_fill 112 = .ok (.ifCond .eq 14, 3) := by decide +kernel
theorem dM_fill_115 : decode bM_fill 115 = .ok (.aload_n 0, 1) := by decide +kernel
theorem dM_fill_116 : decode bM_fill 116 = .ok (.iload_n 1, 1) := by decide +kernel
theorem dM_fill_117 : decode bM_fill 117 = .ok (.iload_n 2, 1) := by decide +kernel
theorem dM_fill_118 : decode bM_fill 118 = .ok (.iload_n 3, 1) := by decide +kernel
theorem dM_fill_119 : decode bM_fill 119 = .ok (.iconst 1, 1) := by decide +kernel
theorem dM_fill_120 : decode bM_fill 120 = .ok (.iadd, 1) := by decide +kernel
theorem dM_fill_121 : decode bM_fill 121 = .ok (.iload 4, 2) := by decide +kernel
theorem dM_fill_123 : decode bM_fill 123 = .ok (.invokevirtual 89, 3) := by decide +kernel
theorem dM_fill_126 : decode bM_fill 126 = .ok (.iinc 4 1, 3) := by decide +kernel
theorem dM_fill_129 : decode bM_fill 129 = .ok (.goto (-49), 3) := by decide +kernel
theorem dM_fill_132 : decode bM_fill 132 = .ok (.iinc 3 1, 3) := by decide +kernel
theorem dM_fill_135 : decode bM_fill 135 = .ok (.goto (-68), 3) := by decide +kernel
theorem dM_fill_138 : decode bM_fill 138 = .ok (.iinc 2 1, 3) := by decide +kernel
theorem dM_fill_141 : decode bM_fill 141 = .ok (.goto (-111), 3) := by decide +kernel
theorem dM_fill_144 : decode bM_fill 144 = .ok (.aload_n 0, 1) := by decide +kernel
theorem dM_fill_145 : decode bM_fill 145 = .ok (.iconst 1, 1) := by decide +kernel
theorem dM_fill_146 : decode bM_fill 146 = .ok (.putfield 82, 3) := by decide +kernel
theorem dM_fill_149 : decode bM_fill 149 = .ok (.aload_n 0, 1) := by decide +kernel
theorem dM_fill_150 : decode bM_fill 150 = .ok (.getfield 82, 3) := by decide +kernel
theorem dM_fill_153 : decode bM_fill 153 = .ok (.ifCond .eq 60, 3) := by decide +kernel
theorem dM_fill_156 : decode bM_fill 156 = .ok (.aload_n 0, 1) := by decide +kernel
theorem dM_fill_157 : decode bM_fill 157 = .ok (.iconst 0, 1) := by decide +kernel
theorem dM_fill_158 : decode bM_fill 158 = .ok (.putfield 82, 3) := by decide +kernel
theorem dM_fill_161 : decode bM_fill 161 = .ok (.iconst 0, 1) := by decide +kernel
theorem dM_fill_162 : decode bM_fill 162 = .ok (.istore_n 2, 1) := by decide +kernel
theorem dM_fill_163 : decode bM_fill 163 = .ok (.iload_n 2, 1) := by decide +kernel
theorem dM_fill_164 : decode bM_fill 164 = .ok (.sipush 360, 3) := by decide +kernel
theorem dM_fill_167 : decode bM_fill 167 = .ok (.if_icmp .ge 43, 3) := by decide +kernel
theorem dM_fill_170 : decode bM_fill 170 = .ok (.aload_n 0, 1) := by decide +kernel
theorem dM_fill_171 : decode bM_fill 171 = .ok (.getfield 22, 3) := by decide +kernel
theorem dM_fill_174 : decode bM_fill 174 = .ok (.sipush 360, 3) := by decide +kernel
theorem dM_fill_177 : decode bM_fill 177 = .ok (.iload_n 1, 1) := by decide +kernel
theorem dM_fill_178 : decode bM_fill 178 = .ok (.imul, 1) := by decide +kernel
theorem dM_fill_179 : decode bM_fill 179 = .ok (.iload_n 2, 1) := by decide +kernel
theorem dM_fill_180 : decode bM_fill 180 = .ok (.iadd, 1) := by decide +kernel
theorem dM_fill_181 : decode bM_fill 181 = .ok (.baload, 1) := by decide +kernel
theorem dM_fill_182 : decode bM_fill 182 = .ok (.ifCond .eq 22, 3) := by decide +kernel
theorem dM_fill_185 : decode bM_fill 185 = .ok (.aload_n 0, 1) := by decide +kernel
theorem dM_fill_186 : decode bM_fill 186 = .ok (.iload_n 1, 1) := by decide +kernel
theorem dM_fill_187 : decode bM_fill 187 = .ok (.iload_n 2, 1) := by decide +kernel
theorem dM_fill_188 : decode bM_fill 188 = .ok (.bipush 45, 2) := by decide +kernel
theorem dM_fill_190 : decode bM_fill 190 = .ok (.idiv, 1) := by decide +kernel
theorem dM_fill_191 : decode bM_fill 191 = .ok (.iload_n 2, 1) := by decide +kernel
theorem dM_fill_192 : decode bM_fill 192 = .ok (.bipush 9, 2) := by decide +kernel
theorem dM_fill_194 : decode bM_fill 194 = .ok (.idiv, 1) := by decide +kernel
theorem dM_fill_195 : decode bM_fill 195 = .ok (.iconst 5, 1) := by decide +kernel
theorem dM_fill_196 : decode bM_fill 196 = .ok (.irem, 1) := by decide +kernel
theorem dM_fill_197 : decode bM_fill 197 = .ok (.iload_n 2, 1) := by decide +kernel
theorem dM_fill_198 : decode bM_fill 198 = .ok (.bipush 9, 2) := by decide +kernel
theorem dM_fill_200 : decode bM_fill 200 = .ok (.irem, 1) := by decide +kernel
theorem dM_fill_201 : decode bM_fill 201 = .ok (.invokevirtual 97, 3) := by decide +kernel
theorem dM_fill_204 : decode bM_fill 204 = .ok (.iinc 2 1, 3) := by decide +kernel
theorem dM_fill_207 : decode bM_fill 207 = .ok (.goto (-44), 3) := by decide +kernel
theorem dM_fill_210 : decode bM_fill 210 = .ok (.goto (-61), 3) := by decide +kernel
theorem dM_fill_213 : decode bM_fill 213 = .ok (.return_, 1) := by decide +kernel
theorem dM_put_0 : decode bM_put 0 = .ok (.sipush 360, 3) := by decide +kernel
theorem dM_put_3 : decode bM_put 3 = .ok (.iload_n 1, 1) := by decide +kernel
theorem dM_put_4 : decode bM_put 4 = .ok (.imul, 1) := by decide +kernel
theorem dM_put_5 : decode bM_put 5 = .ok (.bipush 45, 2) := by decide +kernel
theorem dM_put_7 : decode bM_put 7 = .ok (.iload_n 2, 1) := by decide +kernel
theorem dM_put_8 : decode bM_put 8 = .ok (.imul, 1) := by decide +kernel
theorem dM_put_9 : decode bM_put 9 = .ok (.iadd, 1) := by decide +kernel
theorem dM_put_10 : decode bM_put 10 = .ok (.bipush 9, 2) := by decide +kernel
theorem dM_put_12 : decode bM_put 12 = .ok (.iload_n 3, 1) := by decide +kernel
theorem dM_put_13 : decode bM_put 13 = .ok (.imul, 1) := by decide +kernel
theorem dM_put_14 : decode bM_put 14 = .ok (.iadd, 1) := by decide +kernel
theorem dM_put_15 : decode bM_put 15 = .ok (.iload 4, 2) := by decide +kernel
theorem dM_put_17 : decode bM_put 17 = .ok (.iadd, 1) := by decide +kernel
theorem dM_put_18 : decode bM_put 18 = .ok (.istore 5, 2) := by decide +kernel
theorem dM_put_20 : decode bM_put 20 = .ok (.aload_n 0, 1) := by decide +kernel
theorem dM_put_21 : decode bM_put 21 = .ok (.aload_n 0, 1) := by decide +kernel
theorem dM_put_22 : decode bM_put 22 = .ok (.getfield 82, 3) := by decide +kernel
theorem dM_put_25 : decode bM_put 25 = .ok (.ifCond .ne 13, 3) := by decide +kernel
theorem dM_put_28 : decode bM_put 28 = .ok (.aload_n 0, 1) := by decide +kernel
theorem dM_put_29 : decode bM_put 29 = .ok (.getfield 22, 3) := by decide +kernel
theorem dM_put_32 : decode bM_put 32 = .ok (.iload 5, 2) := by decide +kernel
theorem dM_put_34 : decode bM_put 34 = .ok (.baload, 1) := by decide +kernel
theorem dM_put_35 : decode bM_put 35 = .ok (.ifCond .ne 7, 3) := by decide +kernel
theorem dM_put_38 : decode bM_put 38 = .ok (.iconst 1, 1) := by decide +kernel
theorem dM_put_39 : decode bM_put 39 = .ok (.goto 4, 3) := by decide +kernel
theorem dM_put_42 : decode bM_put 42 = .ok (.iconst 0, 1) := by decide +kernel
theorem dM_put_43 : decode bM_put 43 = .ok (.putfield 82, 3) := by decide +kernel
theorem dM_put_46 : decode bM_put 46 = .ok (.aload_n 0, 1) := by decide +kernel
theorem dM_put_47 : decode bM_put 47 = .ok (.getfield 22, 3) := by decide +kernel
theorem dM_put_50 : decode bM_put 50 = .ok (.iload 5, 2) := by decide +kernel
theorem dM_put_52 : decode bM_put 52 = .ok (.iconst 1, 1) := by decide +kernel
theorem dM_put_53 : decode bM_put 53 = .ok (.bastore, 1) := by decide +kernel
theorem dM_put_54 : decode bM_put 54 = .ok (.return_, 1) := by decide +kernel
theorem dM_behind_0 : decode bM_behind 0 = .ok (.iload_n 2, 1) := by decide +kernel
theorem dM_behind_1 : decode bM_behind 1 = .ok (.aload_n 0, 1) := by decide +kernel
theorem dM_behind_2 : decode bM_behind 2 = .ok (.getfield 13, 3) := by decide +kernel
theorem dM_behind_5 : decode bM_behind 5 = .ok (.iload_n 1, 1) := by decide +kernel
theorem dM_behind_6 : decode bM_behind 6 = .ok (.iaload, 1) := by decide +kernel
theorem dM_behind_7 : decode bM_behind 7 = .ok (.if_icmp .ge 16, 3) := by decide +kernel
theorem dM_behind_10 : decode bM_behind 10 = .ok (.aload_n 0, 1) := by decide +kernel
theorem dM_behind_11 : decode bM_behind 11 = .ok (.getfield 16, 3) := by decide +kernel
theorem dM_behind_14 : decode bM_behind 14 = .ok (.iconst 4, 1) := by decide +kernel
theorem dM_behind_15 : decode bM_behind 15 = .ok (.iload_n 1, 1) := by decide +kernel
theorem dM_behind_16 : decode bM_behind 16 = .ok (.imul, 1) := by decide +kernel
theorem dM_behind_17 : decode bM_behind 17 = .ok (.iload_n 2, 1) := by decide +kernel
theorem dM_behind_18 : decode bM_behind 18 = .ok (.iadd, 1) := by decide +kernel
theorem dM_behind_19 : decode bM_behind 19 = .ok (.iaload, 1) := by decide +kernel
theorem dM_behind_20 : decode bM_behind 20 = .ok (.goto 4, 3) := by decide +kernel
theorem dM_behind_23 : decode bM_behind 23 = .ok (.iconst (-1), 1) := by decide +kernel
theorem dM_behind_24 : decode bM_behind 24 = .ok (.ireturn, 1) := by decide +kernel
theorem dM_isIn_0 : decode bM_isIn 0 = .ok (.aload_n 0, 1) := by decide +kernel
theorem dM_isIn_1 : decode bM_isIn 1 = .ok (.getfield 22, 3) := by decide +kernel
theorem dM_isIn_4 : decode bM_isIn 4 = .ok (.sipush 360, 3) := by decide +kernel
theorem dM_isIn_7 : decode bM_isIn 7 = .ok (.iload_n 1, 1) := by decide +kernel
theorem dM_isIn_8 : decode bM_isIn 8 = .ok (.imul, 1) := by decide +kernel
theorem dM_isIn_9 : decode bM_isIn 9 = .ok (.bipush 45, 2) := by decide +kernel
theorem dM_isIn_11 : decode bM_isIn 11 = .ok (.iload_n 2, 1) := by decide +kernel
theorem dM_isIn_12 : decode bM_isIn 12 = .ok (.imul, 1) := by decide +kernel
theorem dM_isIn_13 : decode bM_isIn 13 = .ok (.iadd, 1) := by decide +kernel
theorem dM_isIn_14 : decode bM_isIn 14 = .ok (.bipush 9, 2) := by decide +kernel
theorem dM_isIn_16 : decode bM_isIn 16 = .ok (.iload_n 3, 1) := by decide +kernel
theorem dM_isIn_17 : decode bM_isIn 17 = .ok (.imul, 1) := by decide +kernel
theorem dM_isIn_18 : decode bM_isIn 18 = .ok (.iadd, 1) := by decide +kernel
theorem dM_isIn_19 : decode bM_isIn 19 = .ok (.iload 4, 2) := by decide +kernel
theorem dM_isIn_21 : decode bM_isIn 21 = .ok (.iadd, 1) := by decide +kernel
theorem dM_isIn_22 : decode bM_isIn 22 = .ok (.baload, 1) := by decide +kernel
theorem dM_isIn_23 : decode bM_isIn 23 = .ok (.ireturn, 1) := by decide +kernel
theorem dM_bring_0 : decode bM_bring 0 = .ok (.aload_n 0, 1) := by decide +kernel
theorem dM_bring_1 : decode bM_bring 1 = .ok (.iload_n 2, 1) := by decide +kernel
theorem dM_bring_2 : decode bM_bring 2 = .ok (.iload_n 3, 1) := by decide +kernel
theorem dM_bring_3 : decode bM_bring 3 = .ok (.invokevirtual 85, 3) := by decide +kernel
theorem dM_bring_6 : decode bM_bring 6 = .ok (.istore 5, 2) := by decide +kernel
theorem dM_bring_8 : decode bM_bring 8 = .ok (.iload 5, 2) := by decide +kernel
theorem dM_bring_10 : decode bM_bring 10 = .ok (.ifCond .lt 49, 3) := by decide +kernel
theorem dM_bring_13 : decode bM_bring 13 = .ok (.iload 5, 2) := by decide +kernel
theorem dM_bring_15 : decode bM_bring 15 = .ok (.bipush 100, 2) := by decide +kernel
theorem dM_bring_17 : decode bM_bring 17 = .ok (.if_icmp .ge 42, 3) := by decide +kernel
theorem dM_bring_20 : decode bM_bring 20 = .ok (.iconst 0, 1) := by decide +kernel
theorem dM_bring_21 : decode bM_bring 21 = .ok (.istore 6, 2) := by decide +kernel
theorem dM_bring_23 : decode bM_bring 23 = .ok (.iload 6, 2) := by decide +kernel
theorem dM_bring_25 : decode bM_bring 25 = .ok (.aload_n 0, 1) := by decide +kernel
theorem dM_bring_26 : decode bM_bring 26 = .ok (.getfield 48, 3) := by decide +kernel
theorem dM_bring_29 : decode bM_bring 29 = .ok (.if_icmp .ge 30, 3) := by decide +kernel
theorem dM_bring_32 : decode bM_bring 32 = .ok (.aload_n 0, 1) := by decide +kernel
theorem dM_bring_33 : decode bM_bring 33 = .ok (.getfield 7, 3) := by decide +kernel
theorem dM_bring_36 : decode bM_bring 36 = .ok (.iload 6, 2) := by decide +kernel
theorem dM_bring_38 : decode bM_bring 38 = .ok (.iaload, 1) := by decide +kernel
theorem dM_bring_39 : decode bM_bring 39 = .ok (.iload 5, 2) := by decide +kernel
theorem dM_bring_41 : decode bM_bring 41 = .ok (.if_icmp .ne 12, 3) := by decide +kernel
theorem dM_bring_44 : decode bM_bring 44 = .ok (.aload_n 0, 1) := by decide +kernel
theorem dM_bring_45 : decode bM_bring 45 = .ok (.iload_n 1, 1) := by decide +kernel
theorem dM_bring_46 : decode bM_bring 46 = .ok (.iload 6, 2) := by decide +kernel
theorem dM_bring_48 : decode bM_bring 48 = .ok (.iconst 0, 1) := by decide +kernel
theorem dM_bring_49 : decode bM_bring 49 = .ok (.iload_n 1, 1) := by decide +kernel
theorem dM_bring_50 : decode bM_bring 50 = .ok (.invokevirtual 89, 3) := by decide +kernel
theorem dM_bring_53 : decode bM_bring 53 = .ok (.iinc 6 1, 3) := by decide +kernel
theorem dM_bring_56 : decode bM_bring 56 = .ok (.goto (-33), 3) := by decide +kernel
theorem dM_bring_59 : decode bM_bring 59 = .ok (.iload 5, 2) := by decide +kernel
theorem dM_bring_61 : decode bM_bring 61 = .ok (.ifCond .lt 4, 3) := by decide +kernel
theorem dM_bring_64 : decode bM_bring 64 = .ok (.return_, 1) := by decide +kernel
theorem dM_bring_65 : decode bM_bring 65 = .ok (.iconst 0, 1) := by decide +kernel
theorem dM_bring_66 : decode bM_bring 66 = .ok (.istore 6, 2) := by decide +kernel
theorem dM_bring_68 : decode bM_bring 68 = .ok (.iload 6, 2) := by decide +kernel
theorem dM_bring_70 : decode bM_bring 70 = .ok (.aload_n 0, 1) := by decide +kernel
theorem dM_bring_71 : decode bM_bring 71 = .ok (.getfield 48, 3) := by decide +kernel
theorem dM_bring_74 : decode bM_bring 74 = .ok (.if_icmp .ge 91, 3) := by decide +kernel
theorem dM_bring_77 : decode bM_bring 77 = .ok (.iconst 0, 1) := by decide +kernel
theorem dM_bring_78 : decode bM_bring 78 = .ok (.istore 7, 2) := by decide +kernel
theorem dM_bring_80 : decode bM_bring 80 = .ok (.iload 7, 2) := by decide +kernel
theorem dM_bring_82 : decode bM_bring 82 = .ok (.aload_n 0, 1) := by decide +kernel
theorem dM_bring_83 : decode bM_bring 83 = .ok (.getfield 13, 3) := by decide +kernel
theorem dM_bring_86 : decode bM_bring 86 = .ok (.iload 6, 2) := by decide +kernel
theorem dM_bring_88 : decode bM_bring 88 = .ok (.iaload, 1) := by decide +kernel
theorem dM_bring_89 : decode bM_bring 89 = .ok (.if_icmp .ge 70, 3) := by decide +kernel
theorem dM_bring_92 : decode bM_bring 92 = .ok (.iconst 0, 1) := by decide +kernel
theorem dM_bring_93 : decode bM_bring 93 = .ok (.istore 8, 2) := by decide +kernel
theorem dM_bring_95 : decode bM_bring 95 = .ok (.iload 8, 2) := by decide +kernel
theorem dM_bring_97 : decode bM_bring 97 = .ok (.iload 4, 2) := by decide +kernel
theorem dM_bring_99 : decode bM_bring 99 = .ok (.if_icmp .gt 54, 3) := by decide +kernel
theorem dM_bring_102 : decode bM_bring 102 = .ok (.aload_n 0, 1) := by decide +kernel
theorem dM_bring_103 : decode bM_bring 103 = .ok (.iload 6, 2) := by decide +kernel
theorem dM_bring_105 : decode bM_bring 105 = .ok (.iload 7, 2) := by decide +kernel
theorem dM_bring_107 : decode bM_bring 107 = .ok (.invokevirtual 85, 3) := by decide +kernel
theorem dM_bring_110 : decode bM_bring 110 = .ok (.aload_n 0, 1) := by decide +kernel
theorem dM_bring_111 : decode bM_bring 111 = .ok (.getfield 7, 3) := by decide +kernel
theorem dM_bring_114 : decode bM_bring 114 = .ok (.iload_n 2, 1) := by decide +kernel
theorem dM_bring_115 : decode bM_bring 115 = .ok (.iaload, 1) := by decide +kernel
theorem dM_bring_116 : decode bM_bring 116 = .ok (.if_icmp .ne 37, 3) := by decide +kernel
theorem dM_bring_119 : decode bM_bring 119 = .ok (.aload_n 0, 1) := by decide +kernel
theorem dM_bring_120 : decode bM_bring 120 = .ok (.iload 4, 2) := by decide +kernel
theorem dM_bring_122 : decode bM_bring 122 = .ok (.iload 6, 2) := by decide +kernel
theorem dM_bring_124 : decode bM_bring 124 = .ok (.iload 7, 2) := by decide +kernel
theorem dM_bring_126 : decode bM_bring 126 = .ok (.iload 8, 2) := by decide +kernel
theorem dM_bring_128 : decode bM_bring 128 = .ok (.invokevirtual 93, 3) := by decide +kernel
theorem dM_bring_131 : decode bM_bring 131 = .ok (.ifCond .eq 16, 3) := by decide +kernel
theorem dM_bring_134 : decode bM_bring 134 = .ok (.aload_n 0, 1) := by decide +kernel
theorem dM_bring_135 : decode bM_bring 135 = .ok (.iload_n 1, 1) := by decide +kernel
theorem dM_bring_136 : decode bM_bring 136 = .ok (.iload 6, 2) := by decide +kernel
theorem dM_bring_138 : decode bM_bring 138 = .ok (.iload 7, 2) := by decide +kernel
theorem dM_bring_140 : decode bM_bring 140 = .ok (.iconst 1, 1) := by decide +kernel
theorem dM_bring_141 : decode bM_bring 141 = .ok (.iadd, 1) := by decide +kernel
theorem dM_bring_142 : decode bM_bring 142 = .ok (.iload 8, 2) := by decide +kernel
theorem dM_bring_144 : decode bM_bring 144 = .ok (.invokevirtual 89, 3) := by decide +kernel
theorem dM_bring_147 : decode bM_bring 147 = .ok (.iinc 8 1, 3) := by decide +kernel
theorem dM_bring_150 : decode bM_bring 150 = .ok (.goto (-55), 3) := by decide +kernel
theorem dM_bring_153 : decode bM_bring 153 = .ok (.iinc 7 1, 3) := by decide +kernel
theorem dM_bring_156 : decode bM_bring 156 = .ok (.goto (-76), 3) := by decide +kernel
theorem dM_bring_159 : decode bM_bring 159 = .ok (.iinc 6 1, 3) := by decide +kernel
theorem dM_bring_162 : decode bM_bring 162 = .ok (.goto (-94), 3) := by decide +kernel
theorem dM_bring_165 : decode bM_bring 165 = .ok (.return_, 1) := by decide +kernel
theorem dM_addRhs_0 : decode bM_addRhs 0 = .ok (.aload_n 0, 1) := by decide +kernel
theorem dM_addRhs_1 : decode bM_addRhs 1 = .ok (.getfield 48, 3) := by decide +kernel
theorem dM_addRhs_4 : decode bM_addRhs 4 = .ok (.iconst 1, 1) := by decide +kernel
theorem dM_addRhs_5 : decode bM_addRhs 5 = .ok (.isub, 1) := by decide +kernel
theorem dM_addRhs_6 : decode bM_addRhs 6 = .ok (.istore_n 2, 1) := by decide +kernel
theorem dM_addRhs_7 : decode bM_addRhs 7 = .ok (.aload_n 0, 1) := by decide +kernel
theorem dM_addRhs_8 : decode bM_addRhs 8 = .ok (.getfield 62, 3) := by decide +kernel
theorem dM_addRhs_11 : decode bM_addRhs 11 = .ok (.ifCond .gt 26, 3) := by decide +kernel
theorem dM_addRhs_14 : decode bM_addRhs 14 = .ok (.iload_n 2, 1) := by decide +kernel
theorem dM_addRhs_15 : decode bM_addRhs 15 = .ok (.ifCond .lt 22, 3) := by decide +kernel
theorem dM_addRhs_18 : decode bM_addRhs 18 = .ok (.aload_n 0, 1) := by decide +kernel
theorem dM_addRhs_19 : decode bM_addRhs 19 = .ok (.getfield 13, 3) := by decide +kernel
theorem dM_addRhs_22 : decode bM_addRhs 22 = .ok (.iload_n 2, 1) := by decide +kernel
theorem dM_addRhs_23 : decode bM_addRhs 23 = .ok (.iaload, 1) := by decide +kernel
theorem dM_addRhs_24 : decode bM_addRhs 24 = .ok (.iconst 4, 1) := by decide +kernel
theorem dM_addRhs_25 : decode bM_addRhs 25 = .ok (.if_icmp .ge 12, 3) := by decide +kernel
theorem dM_addRhs_28 : decode bM_addRhs 28 = .ok (.aload_n 0, 1) := by decide +kernel
theorem dM_addRhs_29 : decode bM_addRhs 29 = .ok (.invokevirtual 75, 3) := by decide +kernel
theorem dM_addRhs_32 : decode bM_addRhs 32 = .ok (.bipush 16, 2) := by decide +kernel
theorem dM_addRhs_34 : decode bM_addRhs 34 = .ok (.if_icmp .lt 7, 3) := by decide +kernel
theorem dM_addRhs_37 : decode bM_addRhs 37 = .ok (.iconst 1, 1) := by decide +kernel
theorem dM_addRhs_38 : decode bM_addRhs 38 = .ok (.goto 4, 3) := by decide +kernel
theorem dM_addRhs_41 : decode bM_addRhs 41 = .ok (.iconst 0, 1) := by decide +kernel
theorem dM_addRhs_42 : decode bM_addRhs 42 = .ok (.istore_n 3, 1) := by decide +kernel
theorem dM_addRhs_43 : decode bM_addRhs 43 = .ok (.aload_n 0, 1) := by decide +kernel
theorem dM_addRhs_44 : decode bM_addRhs 44 = .ok (.iload_n 3, 1) := by decide +kernel
theorem dM_addRhs_45 : decode bM_addRhs 45 = .ok (.ifCond .eq 7, 3) := by decide +kernel
theorem dM_addRhs_48 : decode bM_addRhs 48 = .ok (.iconst 1, 1) := by decide +kernel
theorem dM_addRhs_49 : decode bM_addRhs 49 = .ok (.goto 24, 3) := by decide +kernel
theorem dM_addRhs_52 : decode bM_addRhs 52 = .ok (.aload_n 0, 1) := by decide +kernel
theorem dM_addRhs_53 : decode bM_addRhs 53 = .ok (.iload_n 1, 1) := by decide +kernel
theorem dM_addRhs_54 : decode bM_addRhs 54 = .ok (.invokevirtual 65, 3) := by decide +kernel
theorem dM_addRhs_57 : decode bM_addRhs 57 = .ok (.ifCond .ne 15, 3) := by decide +kernel
theorem dM_addRhs_60 : decode bM_addRhs 60 = .ok (.aload_n 0, 1) := by decide +kernel
theorem dM_addRhs_61 : decode bM_addRhs 61 = .ok (.iload_n 1, 1) := by decide +kernel
theorem dM_addRhs_62 : decode bM_addRhs 62 = .ok (.invokevirtual 79, 3) := by decide +kernel
theorem dM_addRhs_65 : decode bM_addRhs 65 = .ok (.ifCond .ne 7, 3) := by decide +kernel
theorem dM_addRhs_68 : decode bM_addRhs 68 = .ok (.iconst 2, 1) := by decide +kernel
theorem dM_addRhs_69 : decode bM_addRhs 69 = .ok (.goto 4, 3) := by decide +kernel
theorem dM_addRhs_72 : decode bM_addRhs 72 = .ok (.iconst 0, 1) := by decide +kernel
theorem dM_addRhs_73 : decode bM_addRhs 73 = .ok (.invokevirtual 69, 3) := by decide +kernel
theorem dM_addRhs_76 : decode bM_addRhs 76 = .ok (.ifCond .eq 5, 3) := by decide +kernel
theorem dM_addRhs_79 : decode bM_addRhs 79 = .ok (.iconst 0, 1) := by decide +kernel
theorem dM_addRhs_80 : decode bM_addRhs 80 = .ok (.ireturn, 1) := by decide +kernel
theorem dM_addRhs_81 : decode bM_addRhs 81 = .ok (.aload_n 0, 1) := by decide +kernel
theorem dM_addRhs_82 : decode bM_addRhs 82 = .ok (.getfield 16, 3) := by decide +kernel
theorem dM_addRhs_85 : decode bM_addRhs 85 = .ok (.iconst 4, 1) := by decide +kernel
theorem dM_addRhs_86 : decode bM_addRhs 86 = .ok (.iload_n 2, 1) := by decide +kernel
theorem dM_addRhs_87 : decode bM_addRhs 87 = .ok (.imul, 1) := by decide +kernel
theorem dM_addRhs_88 : decode bM_addRhs 88 = .ok (.aload_n 0, 1) := by decide +kernel
theorem dM_addRhs_89 : decode bM_addRhs 89 = .ok (.getfield 13, 3) := by decide +kernel
theorem dM_addRhs_92 : decode bM_addRhs 92 = .ok (.iload_n 2, 1) := by decide +kernel
theorem dM_addRhs_93 : decode bM_addRhs 93 = .ok (.iaload, 1) := by decide +kernel
theorem dM_addRhs_94 : decode bM_addRhs 94 = .ok (.iadd, 1) := by decide +kernel
theorem dM_addRhs_95 : decode bM_addRhs 95 = .ok (.iload_n 1, 1) := by decide +kernel
theorem dM_addRhs_96 : decode bM_addRhs 96 = .ok (.iastore, 1) := by decide +kernel
theorem dM_addRhs_97 : decode bM_addRhs 97 = .ok (.aload_n 0, 1) := by decide +kernel
theorem dM_addRhs_98 : decode bM_addRhs 98 = .ok (.getfield 13, 3) := by decide +kernel
theorem dM_addRhs_101 : decode bM_addRhs 101 = .ok (.iload_n 2, 1) := by decide +kernel
theorem dM_addRhs_102 : decode bM_addRhs 102 = .ok (.aload_n 0, 1) := by decide +kernel
theorem dM_addRhs_103 : decode bM_addRhs 103 = .ok (.getfield 13, 3) := by decide +kernel
theorem dM_addRhs_106 : decode bM_addRhs 106 = .ok (.iload_n 2, 1) := by decide +kernel
theorem dM_addRhs_107 : decode bM_addRhs 107 = .ok (.iaload, 1) := by decide +kernel
theorem dM_addRhs_108 : decode bM_addRhs 108 = .ok (.iconst 1, 1) := by decide +kernel
theorem dM_addRhs_109 : decode bM_addRhs 109 = .ok (.iadd, 1) := by decide +kernel
theorem dM_addRhs_110 : decode bM_addRhs 110 = .ok (.iastore, 1) := by decide +kernel
theorem dM_addRhs_111 : decode bM_addRhs 111 = .ok (.aload_n 0, 1) := by decide +kernel
theorem dM_addRhs_112 : decode bM_addRhs 112 = .ok (.invokevirtual 72, 3) := by decide +kernel
theorem dM_addRhs_115 : decode bM_addRhs 115 = .ok (.aload_n 0, 1) := by decide +kernel
theorem dM_addRhs_116 : decode bM_addRhs 116 = .ok (.getfield 13, 3) := by decide +kernel
theorem dM_addRhs_119 : decode bM_addRhs 119 = .ok (.iload_n 2, 1) := by decide +kernel
theorem dM_addRhs_120 : decode bM_addRhs 120 = .ok (.iaload, 1) := by decide +kernel
theorem dM_addRhs_121 : decode bM_addRhs 121 = .ok (.ireturn, 1) := by decide +kernel
theorem dM_allLengths_0 : decode bM_allLengths 0 = .ok (.iconst 0, 1) := by decide +kernel
theorem dM_allLengths_1 : decode bM_allLengths 1 = .ok (.istore_n 1, 1) := by decide +kernel
theorem dM_allLengths_2 : decode bM_allLengths 2 = .ok (.iconst 0, 1) := by decide +kernel
theorem dM_allLengths_3 : decode bM_allLengths 3 = .ok (.istore_n 2, 1) := by decide +kernel
theorem dM_allLengths_4 : decode bM_allLengths 4 = .ok (.iload_n 2, 1) := by decide +kernel
theorem dM_allLengths_5 : decode bM_allLengths 5 = .ok (.aload_n 0, 1) := by decide +kernel
theorem dM_allLengths_6 : decode bM_allLengths 6 = .ok (.getfield 48, 3) := by decide +kernel
theorem dM_allLengths_9 : decode bM_allLengths 9 = .ok (.if_icmp .ge 18, 3) := by decide +kernel
theorem dM_allLengths_12 : decode bM_allLengths 12 = .ok (.iload_n 1, 1) := by decide +kernel
theorem dM_allLengths_13 : decode bM_allLengths 13 = .ok (.aload_n 0, 1) := by decide +kernel
theorem dM_allLengths_14 : decode bM_allLengths 14 = .ok (.getfield 13, 3) := by decide +kernel
theorem dM_allLengths_17 : decode bM_allLengths 17 = .ok (.iload_n 2, 1) := by decide +kernel
theorem dM_allLengths_18 : decode bM_allLengths 18 = .ok (.iaload, 1) := by decide +kernel
theorem dM_allLengths_19 : decode bM_allLengths 19 = .ok (.iadd, 1) := by decide +kernel
theorem dM_allLengths_20 : decode bM_allLengths 20 = .ok (.istore_n 1, 1) := by decide +kernel
theorem dM_allLengths_21 : decode bM_allLengths 21 = .ok (.iinc 2 1, 3) := by decide +kernel
theorem dM_allLengths_24 : decode bM_allLengths 24 = .ok (.goto (-20), 3) := by decide +kernel
theorem dM_allLengths_27 : decode bM_allLengths 27 = .ok (.iload_n 1, 1) := by decide +kernel
theorem dM_allLengths_28 : decode bM_allLengths 28 = .ok (.ireturn, 1) := by decide +kernel
theorem dM_isToken_0 : decode bM_isToken 0 = .ok (.iload_n 1, 1) := by decide +kernel
theorem dM_isToken_1 : decode bM_isToken 1 = .ok (.bipush 100, 2) := by decide +kernel
theorem dM_isToken_3 : decode bM_isToken 3 = .ok (.if_icmp .lt 18, 3) := by decide +kernel
theorem dM_isToken_6 : decode bM_isToken 6 = .ok (.iload_n 1, 1) := by decide +kernel
theorem dM_isToken_7 : decode bM_isToken 7 = .ok (.bipush 100, 2) := by decide +kernel
theorem dM_isToken_9 : decode bM_isToken 9 = .ok (.aload_n 0, 1) := by decide +kernel
theorem dM_isToken_10 : decode bM_isToken 10 = .ok (.getfield 42, 3) := by decide +kernel
theorem dM_isToken_13 : decode bM_isToken 13 = .ok (.iadd, 1) := by decide +kernel
theorem dM_isToken_14 : decode bM_isToken 14 = .ok (.if_icmp .ge 7, 3) := by decide +kernel
theorem dM_isToken_17 : decode bM_isToken 17 = .ok (.iconst 1, 1) := by decide +kernel
theorem dM_isToken_18 : decode bM_isToken 18 = .ok (.goto 4, 3) := by decide +kernel
theorem dM_isToken_21 : decode bM_isToken 21 = .ok (.iconst 0, 1) := by decide +kernel
theorem dM_isToken_22 : decode bM_isToken 22 = .ok (.ireturn, 1) := by decide +kernel
theorem dM_feed_0 : decode bM_feed 0 = .ok (.aload_n 0, 1) := by decide +kernel
theorem dM_feed_1 : decode bM_feed 1 = .ok (.aload_n 0, 1) := by decide +kernel
theorem dM_feed_2 : decode bM_feed 2 = .ok (.getfield 48, 3) := by decide +kernel
theorem dM_feed_5 : decode bM_feed 5 = .ok (.ifCond .eq 12, 3) := by decide +kernel
theorem dM_feed_8 : decode bM_feed 8 = .ok (.aload_n 0, 1) := by decide +kernel
theorem dM_feed_9 : decode bM_feed 9 = .ok (.getfield 62, 3) := by decide +kernel
theorem dM_feed_12 : decode bM_feed 12 = .ok (.bipush 8, 2) := by decide +kernel
theorem dM_feed_14 : decode bM_feed 14 = .ok (.if_icmp .lt 7, 3) := by decide +kernel
theorem dM_feed_17 : decode bM_feed 17 = .ok (.iconst 1, 1) := by decide +kernel
theorem dM_feed_18 : decode bM_feed 18 = .ok (.goto 16, 3) := by decide +kernel
theorem dM_feed_21 : decode bM_feed 21 = .ok (.aload_n 0, 1) := by decide +kernel
theorem dM_feed_22 : decode bM_feed 22 = .ok (.iload_n 1, 1) := by decide +kernel
theorem dM_feed_23 : decode bM_feed 23 = .ok (.invokevirtual 79, 3) := by decide +kernel
theorem dM_feed_26 : decode bM_feed 26 = .ok (.ifCond .ne 7, 3) := by decide +kernel
theorem dM_feed_29 : decode bM_feed 29 = .ok (.iconst 2, 1) := by decide +kernel
theorem dM_feed_30 : decode bM_feed 30 = .ok (.goto 4, 3) := by decide +kernel
theorem dM_feed_33 : decode bM_feed 33 = .ok (.iconst 0, 1) := by decide +kernel
theorem dM_feed_34 : decode bM_feed 34 = .ok (.invokevirtual 69, 3) := by decide +kernel
theorem dM_feed_37 : decode bM_feed 37 = .ok (.ifCond .eq 5, 3) := by decide +kernel
theorem dM_feed_40 : decode bM_feed 40 = .ok (.iconst 0, 1) := by decide +kernel
theorem dM_feed_41 : decode bM_feed 41 = .ok (.ireturn, 1) := by decide +kernel
theorem dM_feed_42 : decode bM_feed 42 = .ok (.aload_n 0, 1) := by decide +kernel
theorem dM_feed_43 : decode bM_feed 43 = .ok (.aload_n 0, 1) := by decide +kernel
theorem dM_feed_44 : decode bM_feed 44 = .ok (.getfield 62, 3) := by decide +kernel
theorem dM_feed_47 : decode bM_feed 47 = .ok (.iconst 1, 1) := by decide +kernel
theorem dM_feed_48 : decode bM_feed 48 = .ok (.iadd, 1) := by decide +kernel
theorem dM_feed_49 : decode bM_feed 49 = .ok (.putfield 62, 3) := by decide +kernel
theorem dM_feed_52 : decode bM_feed 52 = .ok (.aload_n 0, 1) := by decide +kernel
theorem dM_feed_53 : decode bM_feed 53 = .ok (.getfield 19, 3) := by decide +kernel
theorem dM_feed_56 : decode bM_feed 56 = .ok (.aload_n 0, 1) := by decide +kernel
theorem dM_feed_57 : decode bM_feed 57 = .ok (.getfield 62, 3) := by decide +kernel
theorem dM_feed_60 : decode bM_feed 60 = .ok (.iload_n 1, 1) := by decide +kernel
theorem dM_feed_61 : decode bM_feed 61 = .ok (.iastore, 1) := by decide +kernel
theorem dM_feed_62 : decode bM_feed 62 = .ok (.aload_n 0, 1) := by decide +kernel
theorem dM_feed_63 : decode bM_feed 63 = .ok (.iconst 0, 1) := by decide +kernel
theorem dM_feed_64 : decode bM_feed 64 = .ok (.putfield 51, 3) := by decide +kernel
theorem dM_feed_67 : decode bM_feed 67 = .ok (.aload_n 0, 1) := by decide +kernel
theorem dM_feed_68 : decode bM_feed 68 = .ok (.iconst 0, 1) := by decide +kernel
theorem dM_feed_69 : decode bM_feed 69 = .ok (.putfield 54, 3) := by decide +kernel
theorem dM_feed_72 : decode bM_feed 72 = .ok (.aload_n 0, 1) := by decide +kernel
theorem dM_feed_73 : decode bM_feed 73 = .ok (.aload_n 0, 1) := by decide +kernel
theorem dM_feed_74 : decode bM_feed 74 = .ok (.getfield 62, 3) := by decide +kernel
theorem dM_feed_77 : decode bM_feed 77 = .ok (.invokevirtual 58, 3) := by decide +kernel
theorem dM_feed_80 : decode bM_feed 80 = .ok (.aload_n 0, 1) := by decide +kernel
theorem dM_feed_81 : decode bM_feed 81 = .ok (.aload_n 0, 1) := by decide +kernel
theorem dM_feed_82 : decode bM_feed 82 = .ok (.getfield 62, 3) := by decide +kernel
theorem dM_feed_85 : decode bM_feed 85 = .ok (.invokevirtual 100, 3) := by decide +kernel
theorem dM_feed_88 : decode bM_feed 88 = .ok (.ireturn, 1) := by decide +kernel
theorem dM_sizeOf_0 : decode bM_sizeOf 0 = .ok (.iconst 0, 1) := by decide +kernel
theorem dM_sizeOf_1 : decode bM_sizeOf 1 = .ok (.istore_n 2, 1) := by decide +kernel
theorem dM_sizeOf_2 : decode bM_sizeOf 2 = .ok (.iconst 0, 1) := by decide +kernel
theorem dM_sizeOf_3 : decode bM_sizeOf 3 = .ok (.istore_n 3, 1) := by decide +kernel
theorem dM_sizeOf_4 : decode bM_sizeOf 4 = .ok (.iload_n 3, 1) := by decide +kernel
theorem dM_sizeOf_5 : decode bM_sizeOf 5 = .ok (.sipush 360, 3) := by decide +kernel
theorem dM_sizeOf_8 : decode bM_sizeOf 8 = .ok (.if_icmp .ge 32, 3) := by decide +kernel
theorem dM_sizeOf_11 : decode bM_sizeOf 11 = .ok (.aload_n 0, 1) := by decide +kernel
theorem dM_sizeOf_12 : decode bM_sizeOf 12 = .ok (.getfield 22, 3) := by decide +kernel
theorem dM_sizeOf_15 : decode bM_sizeOf 15 = .ok (.sipush 360, 3) := by decide +kernel
theorem dM_sizeOf_18 : decode bM_sizeOf 18 = .ok (.iload_n 1, 1) := by decide +kernel
theorem dM_sizeOf_19 : decode bM_sizeOf 19 = .ok (.imul, 1) := by decide +kernel
theorem dM_sizeOf_20 : decode bM_sizeOf 20 = .ok (.iload_n 3, 1) := by decide +kernel
theorem dM_sizeOf_21 : decode bM_sizeOf 21 = .ok (.iadd, 1) := by decide +kernel
theorem dM_sizeOf_22 : decode bM_sizeOf 22 = .ok (.baload, 1) := by decide +kernel
theorem dM_sizeOf_23 : decode bM_sizeOf 23 = .ok (.ifCond .eq 9, 3) := by decide +kernel
theorem dM_sizeOf_26 : decode bM_sizeOf 26 = .ok (.iload_n 2, 1) := by decide +kernel
theorem dM_sizeOf_27 : decode bM_sizeOf 27 = .ok (.iconst 1, 1) := by decide +kernel
theorem dM_sizeOf_28 : decode bM_sizeOf 28 = .ok (.iadd, 1) := by decide +kernel
theorem dM_sizeOf_29 : decode bM_sizeOf 29 = .ok (.goto 4, 3) := by decide +kernel
theorem dM_sizeOf_32 : decode bM_sizeOf 32 = .ok (.iload_n 2, 1) := by decide +kernel
theorem dM_sizeOf_33 : decode bM_sizeOf 33 = .ok (.istore_n 2, 1) := by decide +kernel
theorem dM_sizeOf_34 : decode bM_sizeOf 34 = .ok (.iinc 3 1, 3) := by decide +kernel
theorem dM_sizeOf_37 : decode bM_sizeOf 37 = .ok (.goto (-33), 3) := by decide +kernel
theorem dM_sizeOf_40 : decode bM_sizeOf 40 = .ok (.iload_n 2, 1) := by decide +kernel
theorem dM_sizeOf_41 : decode bM_sizeOf 41 = .ok (.ireturn, 1) := by decide +kernel
theorem dM_alive_0 : decode bM_alive 0 = .ok (.aload_n 0, 1) := by decide +kernel
theorem dM_alive_1 : decode bM_alive 1 = .ok (.iconst 0, 1) := by decide +kernel
theorem dM_alive_2 : decode bM_alive 2 = .ok (.putfield 45, 3) := by decide +kernel
theorem dM_alive_5 : decode bM_alive 5 = .ok (.aload_n 0, 1) := by decide +kernel
theorem dM_alive_6 : decode bM_alive 6 = .ok (.aload_n 0, 1) := by decide +kernel
theorem dM_alive_7 : decode bM_alive 7 = .ok (.getfield 62, 3) := by decide +kernel
theorem dM_alive_10 : decode bM_alive 10 = .ok (.invokevirtual 100, 3) := by decide +kernel
theorem dM_alive_13 : decode bM_alive 13 = .ok (.ifCond .le 7, 3) := by decide +kernel
theorem dM_alive_16 : decode bM_alive 16 = .ok (.iconst 1, 1) := by decide +kernel
theorem dM_alive_17 : decode bM_alive 17 = .ok (.goto 4, 3) := by decide +kernel
theorem dM_alive_20 : decode bM_alive 20 = .ok (.iconst 0, 1) := by decide +kernel
theorem dM_alive_21 : decode bM_alive 21 = .ok (.ireturn, 1) := by decide +kernel
theorem dM_accepts_0 : decode bM_accepts 0 = .ok (.aload_n 0, 1) := by decide +kernel
theorem dM_accepts_1 : decode bM_accepts 1 = .ok (.iconst 0, 1) := by decide +kernel
theorem dM_accepts_2 : decode bM_accepts 2 = .ok (.putfield 45, 3) := by decide +kernel
theorem dM_accepts_5 : decode bM_accepts 5 = .ok (.aload_n 0, 1) := by decide +kernel
theorem dM_accepts_6 : decode bM_accepts 6 = .ok (.invokevirtual 104, 3) := by decide +kernel
theorem dM_accepts_9 : decode bM_accepts 9 = .ok (.ireturn, 1) := by decide +kernel
theorem dM_isAccepted_0 : decode bM_isAccepted 0 = .ok (.iconst 0, 1) := by decide +kernel
theorem dM_isAccepted_1 : decode bM_isAccepted 1 = .ok (.istore_n 1, 1) := by decide +kernel
theorem dM_isAccepted_2 : decode bM_isAccepted 2 = .ok (.iconst 0, 1) := by decide +kernel
theorem dM_isAccepted_3 : decode bM_isAccepted 3 = .ok (.istore_n 2, 1) := by decide +kernel
theorem dM_isAccepted_4 : decode bM_isAccepted 4 = .ok (.iload_n 2, 1) := by decide +kernel
theorem dM_isAccepted_5 : decode bM_isAccepted 5 = .ok (.aload_n 0, 1) := by decide +kernel
theorem dM_isAccepted_6 : decode bM_isAccepted 6 = .ok (.getfield 48, 3) := by decide +kernel
theorem dM_isAccepted_9 : decode bM_isAccepted 9 = .ok (.if_icmp .ge 53, 3) := by decide +kernel
theorem dM_isAccepted_12 : decode bM_isAccepted 12 = .ok (.iload_n 1, 1) := by decide +kernel
theorem dM_isAccepted_13 : decode bM_isAccepted 13 = .ok (.ifCond .ne 37, 3) := by decide +kernel
theorem dM_isAccepted_16 : decode bM_isAccepted 16 = .ok (.aload_n 0, 1) := by decide +kernel
theorem dM_isAccepted_17 : decode bM_isAccepted 17 = .ok (.getfield 7, 3) := by decide +kernel
theorem dM_isAccepted_20 : decode bM_isAccepted 20 = .ok (.iload_n 2, 1) := by decide +kernel
theorem dM_isAccepted_21 : decode bM_isAccepted 21 = .ok (.iaload, 1) := by decide +kernel
theorem dM_isAccepted_22 : decode bM_isAccepted 22 = .ok (.aload_n 0, 1) := by decide +kernel
theorem dM_isAccepted_23 : decode bM_isAccepted 23 = .ok (.getfield 7, 3) := by decide +kernel
theorem dM_isAccepted_26 : decode bM_isAccepted 26 = .ok (.iconst 0, 1) := by decide +kernel
theorem dM_isAccepted_27 : decode bM_isAccepted 27 = .ok (.iaload, 1) := by decide +kernel
theorem dM_isAccepted_28 : decode bM_isAccepted 28 = .ok (.if_icmp .ne 26, 3) := by decide +kernel
theorem dM_isAccepted_31 : decode bM_isAccepted 31 = .ok (.aload_n 0, 1) := by decide +kernel
theorem dM_isAccepted_32 : decode bM_isAccepted 32 = .ok (.aload_n 0, 1) := by decide +kernel
theorem dM_isAccepted_33 : decode bM_isAccepted 33 = .ok (.getfield 62, 3) := by decide +kernel
theorem dM_isAccepted_36 : decode bM_isAccepted 36 = .ok (.iload_n 2, 1) := by decide +kernel
theorem dM_isAccepted_37 : decode bM_isAccepted 37 = .ok (.aload_n 0, 1) := by decide +kernel
theorem dM_isAccepted_38 : decode bM_isAccepted 38 = .ok (.getfield 13, 3) := by decide +kernel
theorem dM_isAccepted_41 : decode bM_isAccepted 41 = .ok (.iload_n 2, 1) := by decide +kernel
theorem dM_isAccepted_42 : decode bM_isAccepted 42 = .ok (.iaload, 1) := by decide +kernel
theorem dM_isAccepted_43 : decode bM_isAccepted 43 = .ok (.iconst 0, 1) := by decide +kernel
theorem dM_isAccepted_44 : decode bM_isAccepted 44 = .ok (.invokevirtual 93, 3) := by decide +kernel
theorem dM_isAccepted_47 : decode bM_isAccepted 47 = .ok (.ifCond .eq 7, 3) := by decide +kernel
theorem dM_isAccepted_50 : decode bM_isAccepted 50 = .ok (.iconst 1, 1) := by decide +kernel
theorem dM_isAccepted_51 : decode bM_isAccepted 51 = .ok (.goto 4, 3) := by decide +kernel
theorem dM_isAccepted_54 : decode bM_isAccepted 54 = .ok (.iconst 0, 1) := by decide +kernel
theorem dM_isAccepted_55 : decode bM_isAccepted 55 = .ok (.istore_n 1, 1) := by decide +kernel
theorem dM_isAccepted_56 : decode bM_isAccepted 56 = .ok (.iinc 2 1, 3) := by decide +kernel
theorem dM_isAccepted_59 : decode bM_isAccepted 59 = .ok (.goto (-55), 3) := by decide +kernel
theorem dM_isAccepted_62 : decode bM_isAccepted 62 = .ok (.iload_n 1, 1) := by decide +kernel
theorem dM_isAccepted_63 : decode bM_isAccepted 63 = .ok (.ireturn, 1) := by decide +kernel
theorem dM_steps_0 : decode bM_steps 0 = .ok (.aload_n 0, 1) := by decide +kernel
theorem dM_steps_1 : decode bM_steps 1 = .ok (.iload_n 1, 1) := by decide +kernel
theorem dM_steps_2 : decode bM_steps 2 = .ok (.invokevirtual 65, 3) := by decide +kernel
theorem dM_steps_5 : decode bM_steps 5 = .ok (.ifCond .ne 11, 3) := by decide +kernel
theorem dM_steps_8 : decode bM_steps 8 = .ok (.aload_n 0, 1) := by decide +kernel
theorem dM_steps_9 : decode bM_steps 9 = .ok (.iload_n 1, 1) := by decide +kernel
theorem dM_steps_10 : decode bM_steps 10 = .ok (.invokevirtual 79, 3) := by decide +kernel
theorem dM_steps_13 : decode bM_steps 13 = .ok (.ifCond .eq 7, 3) := by decide +kernel
theorem dM_steps_16 : decode bM_steps 16 = .ok (.iconst 1, 1) := by decide +kernel
theorem dM_steps_17 : decode bM_steps 17 = .ok (.goto 4, 3) := by decide +kernel
theorem dM_steps_20 : decode bM_steps 20 = .ok (.iconst 0, 1) := by decide +kernel
theorem dM_steps_21 : decode bM_steps 21 = .ok (.istore 4, 2) := by decide +kernel
theorem dM_steps_23 : decode bM_steps 23 = .ok (.aload_n 0, 1) := by decide +kernel
theorem dM_steps_24 : decode bM_steps 24 = .ok (.iload 4, 2) := by decide +kernel
theorem dM_steps_26 : decode bM_steps 26 = .ok (.ifCond .ne 7, 3) := by decide +kernel
theorem dM_steps_29 : decode bM_steps 29 = .ok (.iconst 1, 1) := by decide +kernel
theorem dM_steps_30 : decode bM_steps 30 = .ok (.goto 25, 3) := by decide +kernel
theorem dM_steps_33 : decode bM_steps 33 = .ok (.iload_n 2, 1) := by decide +kernel
theorem dM_steps_34 : decode bM_steps 34 = .ok (.ifCond .lt 16, 3) := by decide +kernel
theorem dM_steps_37 : decode bM_steps 37 = .ok (.iload_n 3, 1) := by decide +kernel
theorem dM_steps_38 : decode bM_steps 38 = .ok (.iload_n 2, 1) := by decide +kernel
theorem dM_steps_39 : decode bM_steps 39 = .ok (.if_icmp .lt 11, 3) := by decide +kernel
theorem dM_steps_42 : decode bM_steps 42 = .ok (.iload_n 3, 1) := by decide +kernel
theorem dM_steps_43 : decode bM_steps 43 = .ok (.aload_n 0, 1) := by decide +kernel
theorem dM_steps_44 : decode bM_steps 44 = .ok (.getfield 62, 3) := by decide +kernel
theorem dM_steps_47 : decode bM_steps 47 = .ok (.if_icmp .le 7, 3) := by decide +kernel
theorem dM_steps_50 : decode bM_steps 50 = .ok (.iconst 2, 1) := by decide +kernel
theorem dM_steps_51 : decode bM_steps 51 = .ok (.goto 4, 3) := by decide +kernel
theorem dM_steps_54 : decode bM_steps 54 = .ok (.iconst 0, 1) := by decide +kernel
theorem dM_steps_55 : decode bM_steps 55 = .ok (.invokevirtual 69, 3) := by decide +kernel
theorem dM_steps_58 : decode bM_steps 58 = .ok (.ifCond .eq 5, 3) := by decide +kernel
theorem dM_steps_61 : decode bM_steps 61 = .ok (.iconst 0, 1) := by decide +kernel
theorem dM_steps_62 : decode bM_steps 62 = .ok (.ireturn, 1) := by decide +kernel
theorem dM_steps_63 : decode bM_steps 63 = .ok (.aload_n 0, 1) := by decide +kernel
theorem dM_steps_64 : decode bM_steps 64 = .ok (.invokevirtual 117, 3) := by decide +kernel
theorem dM_steps_67 : decode bM_steps 67 = .ok (.aload_n 0, 1) := by decide +kernel
theorem dM_steps_68 : decode bM_steps 68 = .ok (.iload_n 1, 1) := by decide +kernel
theorem dM_steps_69 : decode bM_steps 69 = .ok (.iload_n 2, 1) := by decide +kernel
theorem dM_steps_70 : decode bM_steps 70 = .ok (.iload_n 3, 1) := by decide +kernel
theorem dM_steps_71 : decode bM_steps 71 = .ok (.invokevirtual 109, 3) := by decide +kernel
theorem dM_steps_74 : decode bM_steps 74 = .ok (.istore 5, 2) := by decide +kernel
theorem dM_steps_76 : decode bM_steps 76 = .ok (.iload 5, 2) := by decide +kernel
theorem dM_steps_78 : decode bM_steps 78 = .ok (.ldc 108, 2) := by decide +kernel
theorem dM_steps_80 : decode bM_steps 80 = .ok (.if_icmp .lt 7, 3) := by decide +kernel
theorem dM_steps_83 : decode bM_steps 83 = .ok (.iconst (-1), 1) := by decide +kernel
theorem dM_steps_84 : decode bM_steps 84 = .ok (.goto 5, 3) := by decide +kernel
theorem dM_steps_87 : decode bM_steps 87 = .ok (.iload 5, 2) := by decide +kernel
theorem dM_steps_89 : decode bM_steps 89 = .ok (.ireturn, 1) := by decide +kernel
theorem dM_work_0 : decode bM_work 0 = .ok (.aload_n 0, 1) := by decide +kernel
theorem dM_work_1 : decode bM_work 1 = .ok (.getfield 54, 3) := by decide +kernel
theorem dM_work_4 : decode bM_work 4 = .ok (.ifCond .eq 4, 3) := by decide +kernel
theorem dM_work_7 : decode bM_work 7 = .ok (.return_, 1) := by decide +kernel
theorem dM_work_8 : decode bM_work 8 = .ok (.aload_n 0, 1) := by decide +kernel
theorem dM_work_9 : decode bM_work 9 = .ok (.iconst 1, 1) := by decide +kernel
theorem dM_work_10 : decode bM_work 10 = .ok (.putfield 54, 3) := by decide +kernel
theorem dM_work_13 : decode bM_work 13 = .ok (.iconst 0, 1) := by decide +kernel
theorem dM_work_14 : decode bM_work 14 = .ok (.istore_n 1, 1) := by decide +kernel
theorem dM_work_15 : decode bM_work 15 = .ok (.iload_n 1, 1) := by decide +kernel
theorem dM_work_16 : decode bM_work 16 = .ok (.sipush 486, 3) := by decide +kernel
theorem dM_work_19 : decode bM_work 19 = .ok (.if_icmp .ge 17, 3) := by decide +kernel
theorem dM_work_22 : decode bM_work 22 = .ok (.aload_n 0, 1) := by decide +kernel
theorem dM_work_23 : decode bM_work 23 = .ok (.getfield 26, 3) := by decide +kernel
theorem dM_work_26 : decode bM_work 26 = .ok (.iload_n 1, 1) := by decide +kernel
theorem dM_work_27 : decode bM_work 27 = .ok (.ldc 108, 2) := by decide +kernel
theorem dM_work_29 : decode bM_work 29 = .ok (.iastore, 1) := by decide +kernel
theorem dM_work_30 : decode bM_work 30 = .ok (.iinc 1 1, 3) := by decide +kernel
theorem dM_work_33 : decode bM_work 33 = .ok (.goto (-18), 3) := by decide +kernel
theorem dM_work_36 : decode bM_work 36 = .ok (.iconst 1, 1) := by decide +kernel
theorem dM_work_37 : decode bM_work 37 = .ok (.istore_n 1, 1) := by decide +kernel
theorem dM_work_38 : decode bM_work 38 = .ok (.iload_n 1, 1) := by decide +kernel
theorem dM_work_39 : decode bM_work 39 = .ok (.ifCond .eq 144, 3) := by decide +kernel
theorem dM_work_42 : decode bM_work 42 = .ok (.iconst 0, 1) := by decide +kernel
theorem dM_work_43 : decode bM_work 43 = .ok (.istore_n 1, 1) := by decide +kernel
theorem dM_work_44 : decode bM_work 44 = .ok (.iconst 0, 1) := by decide +kernel
theorem dM_work_45 : decode bM_work 45 = .ok (.istore_n 2, 1) := by decide +kernel
theorem dM_work_46 : decode bM_work 46 = .ok (.iload_n 2, 1) := by decide +kernel
theorem dM_work_47 : decode bM_work 47 = .ok (.aload_n 0, 1) := by decide +kernel
theorem dM_work_48 : decode bM_work 48 = .ok (.getfield 48, 3) := by decide +kernel
theorem dM_work_51 : decode bM_work 51 = .ok (.if_icmp .ge 129, 3) := by decide +kernel
theorem dM_work_54 : decode bM_work 54 = .ok (.iconst 0, 1) := by decide +kernel
theorem dM_work_55 : decode bM_work 55 = .ok (.istore_n 3, 1) := by decide +kernel
theorem dM_work_56 : decode bM_work 56 = .ok (.iload_n 3, 1) := by decide +kernel
theorem dM_work_57 : decode bM_work 57 = .ok (.aload_n 0, 1) := by decide +kernel
theorem dM_work_58 : decode bM_work 58 = .ok (.getfield 62, 3) := by decide +kernel
theorem dM_work_61 : decode bM_work 61 = .ok (.if_icmp .gt 113, 3) := by decide +kernel
theorem dM_work_64 : decode bM_work 64 = .ok (.aload_n 0, 1) := by decide +kernel
theorem dM_work_65 : decode bM_work 65 = .ok (.iload_n 2, 1) := by decide +kernel
theorem dM_work_66 : decode bM_work 66 = .ok (.iload_n 3, 1) := by decide +kernel
theorem dM_work_67 : decode bM_work 67 = .ok (.invokevirtual 113, 3) := by decide +kernel
theorem dM_work_70 : decode bM_work 70 = .ok (.iconst 0, 1) := by decide +kernel
theorem dM_work_71 : decode bM_work 71 = .ok (.istore 4, 2) := by decide +kernel
theorem dM_work_73 : decode bM_work 73 = .ok (.iload 4, 2) := by decide +kernel
theorem dM_work_75 : decode bM_work 75 = .ok (.iload_n 3, 1) := by decide +kernel
theorem dM_work_76 : decode bM_work 76 = .ok (.if_icmp .gt 92, 3) := by decide +kernel
theorem dM_work_79 : decode bM_work 79 = .ok (.bipush 81, 2) := by decide +kernel
theorem dM_work_81 : decode bM_work 81 = .ok (.aload_n 0, 1) := by decide +kernel
theorem dM_work_82 : decode bM_work 82 = .ok (.getfield 7, 3) := by decide +kernel
theorem dM_work_85 : decode bM_work 85 = .ok (.iload_n 2, 1) := by decide +kernel
theorem dM_work_86 : decode bM_work 86 = .ok (.iaload, 1) := by decide +kernel
theorem dM_work_87 : decode bM_work 87 = .ok (.imul, 1) := by decide +kernel
theorem dM_work_88 : decode bM_work 88 = .ok (.bipush 9, 2) := by decide +kernel
theorem dM_work_90 : decode bM_work 90 = .ok (.iload 4, 2) := by decide +kernel
theorem dM_work_92 : decode bM_work 92 = .ok (.imul, 1) := by decide +kernel
theorem dM_work_93 : decode bM_work 93 = .ok (.iadd, 1) := by decide +kernel
theorem dM_work_94 : decode bM_work 94 = .ok (.iload_n 3, 1) := by decide +kernel
theorem dM_work_95 : decode bM_work 95 = .ok (.iadd, 1) := by decide +kernel
theorem dM_work_96 : decode bM_work 96 = .ok (.istore 5, 2) := by decide +kernel
theorem dM_work_98 : decode bM_work 98 = .ok (.aload_n 0, 1) := by decide +kernel
theorem dM_work_99 : decode bM_work 99 = .ok (.getfield 29, 3) := by decide +kernel
theorem dM_work_102 : decode bM_work 102 = .ok (.iload 4, 2) := by decide +kernel
theorem dM_work_104 : decode bM_work 104 = .ok (.iaload, 1) := by decide +kernel
theorem dM_work_105 : decode bM_work 105 = .ok (.iconst 1, 1) := by decide +kernel
theorem dM_work_106 : decode bM_work 106 = .ok (.iadd, 1) := by decide +kernel
theorem dM_work_107 : decode bM_work 107 = .ok (.istore 6, 2) := by decide +kernel
theorem dM_work_109 : decode bM_work 109 = .ok (.iload_n 1, 1) := by decide +kernel
theorem dM_work_110 : decode bM_work 110 = .ok (.ifCond .ne 15, 3) := by decide +kernel
theorem dM_work_113 : decode bM_work 113 = .ok (.iload 6, 2) := by decide +kernel
theorem dM_work_115 : decode bM_work 115 = .ok (.aload_n 0, 1) := by decide +kernel
theorem dM_work_116 : decode bM_work 116 = .ok (.getfield 26, 3) := by decide +kernel
theorem dM_work_119 : decode bM_work 119 = .ok (.iload 5, 2) := by decide +kernel
theorem dM_work_121 : decode bM_work 121 = .ok (.iaload, 1) := by decide +kernel
theorem dM_work_122 : decode bM_work 122 = .ok (.if_icmp .ge 7, 3) := by decide +kernel
theorem dM_work_125 : decode bM_work 125 = .ok (.iconst 1, 1) := by decide +kernel
theorem dM_work_126 : decode bM_work 126 = .ok (.goto 4, 3) := by decide +kernel
theorem dM_work_129 : decode bM_work 129 = .ok (.iconst 0, 1) := by decide +kernel
theorem dM_work_130 : decode bM_work 130 = .ok (.istore_n 1, 1) := by decide +kernel
theorem dM_work_131 : decode bM_work 131 = .ok (.aload_n 0, 1) := by decide +kernel
theorem dM_work_132 : decode bM_work 132 = .ok (.getfield 26, 3) := by decide +kernel
theorem dM_work_135 : decode bM_work 135 = .ok (.iload 5, 2) := by decide +kernel
theorem dM_work_137 : decode bM_work 137 = .ok (.iload 6, 2) := by decide +kernel
theorem dM_work_139 : decode bM_work 139 = .ok (.aload_n 0, 1) := by decide +kernel
theorem dM_work_140 : decode bM_work 140 = .ok (.getfield 26, 3) := by decide +kernel
theorem dM_work_143 : decode bM_work 143 = .ok (.iload 5, 2) := by decide +kernel
theorem dM_work_145 : decode bM_work 145 = .ok (.iaload, 1) := by decide +kernel
theorem dM_work_146 : decode bM_work 146 = .ok (.if_icmp .ge 8, 3) := by decide +kernel
theorem dM_work_149 : decode bM_work 149 = .ok (.iload 6, 2) := by decide +kernel
theorem dM_work_151 : decode bM_work 151 = .ok (.goto 10, 3) := by decide +kernel
theorem dM_work_154 : decode bM_work 154 = .ok (.aload_n 0, 1) := by decide +kernel
theorem dM_work_155 : decode bM_work 155 = .ok (.getfield 26, 3) := by decide +kernel
theorem dM_work_158 : decode bM_work 158 = .ok (.iload 5, 2) := by decide +kernel
theorem dM_work_160 : decode bM_work 160 = .ok (.iaload, 1) := by decide +kernel
theorem dM_work_161 : decode bM_work 161 = .ok (.iastore, 1) := by decide +kernel
theorem dM_work_162 : decode bM_work 162 = .ok (.iinc 4 1, 3) := by decide +kernel
theorem dM_work_165 : decode bM_work 165 = .ok (.goto (-92), 3) := by decide +kernel
theorem dM_work_168 : decode bM_work 168 = .ok (.iinc 3 1, 3) := by decide +kernel
theorem dM_work_171 : decode bM_work 171 = .ok (.goto (-115), 3) := by decide +kernel
theorem dM_work_174 : decode bM_work 174 = .ok (.iinc 2 1, 3) := by decide +kernel
theorem dM_work_177 : decode bM_work 177 = .ok (.goto (-131), 3) := by decide +kernel
theorem dM_work_180 : decode bM_work 180 = .ok (.goto (-142), 3) := by decide +kernel
theorem dM_work_183 : decode bM_work 183 = .ok (.return_, 1) := by decide +kernel
theorem dM_row_0 : decode bM_row 0 = .ok (.iconst 0, 1) := by decide +kernel
theorem dM_row_1 : decode bM_row 1 = .ok (.istore_n 3, 1) := by decide +kernel
theorem dM_row_2 : decode bM_row 2 = .ok (.iload_n 3, 1) := by decide +kernel
theorem dM_row_3 : decode bM_row 3 = .ok (.iload_n 2, 1) := by decide +kernel
theorem dM_row_4 : decode bM_row 4 = .ok (.if_icmp .gt 36, 3) := by decide +kernel
theorem dM_row_7 : decode bM_row 7 = .ok (.aload_n 0, 1) := by decide +kernel
theorem dM_row_8 : decode bM_row 8 = .ok (.getfield 29, 3) := by decide +kernel
theorem dM_row_11 : decode bM_row 11 = .ok (.bipush 9, 2) := by decide +kernel
theorem dM_row_13 : decode bM_row 13 = .ok (.aload_n 0, 1) := by decide +kernel
theorem dM_row_14 : decode bM_row 14 = .ok (.getfield 13, 3) := by decide +kernel
theorem dM_row_17 : decode bM_row 17 = .ok (.iload_n 1, 1) := by decide +kernel
theorem dM_row_18 : decode bM_row 18 = .ok (.iaload, 1) := by decide +kernel
theorem dM_row_19 : decode bM_row 19 = .ok (.imul, 1) := by decide +kernel
theorem dM_row_20 : decode bM_row 20 = .ok (.iload_n 3, 1) := by decide +kernel
theorem dM_row_21 : decode bM_row 21 = .ok (.iadd, 1) := by decide +kernel
theorem dM_row_22 : decode bM_row 22 = .ok (.iload_n 3, 1) := by decide +kernel
theorem dM_row_23 : decode bM_row 23 = .ok (.iload_n 2, 1) := by decide +kernel
theorem dM_row_24 : decode bM_row 24 = .ok (.if_icmp .ne 7, 3) := by decide +kernel
theorem dM_row_27 : decode bM_row 27 = .ok (.iconst 0, 1) := by decide +kernel
theorem dM_row_28 : decode bM_row 28 = .ok (.goto 5, 3) := by decide +kernel
theorem dM_row_31 : decode bM_row 31 = .ok (.ldc 108, 2) := by decide +kernel
theorem dM_row_33 : decode bM_row 33 = .ok (.iastore, 1) := by decide +kernel
theorem dM_row_34 : decode bM_row 34 = .ok (.iinc 3 1, 3) := by decide +kernel
theorem dM_row_37 : decode bM_row 37 = .ok (.goto (-35), 3) := by decide +kernel
theorem dM_row_40 : decode bM_row 40 = .ok (.aload_n 0, 1) := by decide +kernel
theorem dM_row_41 : decode bM_row 41 = .ok (.getfield 13, 3) := by decide +kernel
theorem dM_row_44 : decode bM_row 44 = .ok (.iload_n 1, 1) := by decide +kernel
theorem dM_row_45 : decode bM_row 45 = .ok (.iaload, 1) := by decide +kernel
theorem dM_row_46 : decode bM_row 46 = .ok (.iconst 1, 1) := by decide +kernel
theorem dM_row_47 : decode bM_row 47 = .ok (.isub, 1) := by decide +kernel
theorem dM_row_48 : decode bM_row 48 = .ok (.istore_n 3, 1) := by decide +kernel
theorem dM_row_49 : decode bM_row 49 = .ok (.iload_n 3, 1) := by decide +kernel
theorem dM_row_50 : decode bM_row 50 = .ok (.ifCond .lt 109, 3) := by decide +kernel
theorem dM_row_53 : decode bM_row 53 = .ok (.iconst 0, 1) := by decide +kernel
theorem dM_row_54 : decode bM_row 54 = .ok (.istore 4, 2) := by decide +kernel
theorem dM_row_56 : decode bM_row 56 = .ok (.iload 4, 2) := by decide +kernel
theorem dM_row_58 : decode bM_row 58 = .ok (.iload_n 2, 1) := by decide +kernel
theorem dM_row_59 : decode bM_row 59 = .ok (.if_icmp .gt 94, 3) := by decide +kernel
theorem dM_row_62 : decode bM_row 62 = .ok (.ldc 108, 2) := by decide +kernel
theorem dM_row_64 : decode bM_row 64 = .ok (.istore 5, 2) := by decide +kernel
theorem dM_row_66 : decode bM_row 66 = .ok (.iload 4, 2) := by decide +kernel
theorem dM_row_68 : decode bM_row 68 = .ok (.istore 6, 2) := by decide +kernel
theorem dM_row_70 : decode bM_row 70 = .ok (.iload 6, 2) := by decide +kernel
theorem dM_row_72 : decode bM_row 72 = .ok (.iload_n 2, 1) := by decide +kernel
theorem dM_row_73 : decode bM_row 73 = .ok (.if_icmp .gt 60, 3) := by decide +kernel
theorem dM_row_76 : decode bM_row 76 = .ok (.aload_n 0, 1) := by decide +kernel
theorem dM_row_77 : decode bM_row 77 = .ok (.aload_n 0, 1) := by decide +kernel
theorem dM_row_78 : decode bM_row 78 = .ok (.getfield 16, 3) := by decide +kernel
theorem dM_row_81 : decode bM_row 81 = .ok (.iconst 4, 1) := by decide +kernel
theorem dM_row_82 : decode bM_row 82 = .ok (.iload_n 1, 1) := by decide +kernel
theorem dM_row_83 : decode bM_row 83 = .ok (.imul, 1) := by decide +kernel
theorem dM_row_84 : decode bM_row 84 = .ok (.iload_n 3, 1) := by decide +kernel
theorem dM_row_85 : decode bM_row 85 = .ok (.iadd, 1) := by decide +kernel
theorem dM_row_86 : decode bM_row 86 = .ok (.iaload, 1) := by decide +kernel
theorem dM_row_87 : decode bM_row 87 = .ok (.iload 4, 2) := by decide +kernel
theorem dM_row_89 : decode bM_row 89 = .ok (.iload 6, 2) := by decide +kernel
theorem dM_row_91 : decode bM_row 91 = .ok (.invokevirtual 109, 3) := by decide +kernel
theorem dM_row_94 : decode bM_row 94 = .ok (.aload_n 0, 1) := by decide +kernel
theorem dM_row_95 : decode bM_row 95 = .ok (.getfield 29, 3) := by decide +kernel
theorem dM_row_98 : decode bM_row 98 = .ok (.bipush 9, 2) := by decide +kernel
theorem dM_row_100 : decode bM_row 100 = .ok (.iload_n 3, 1) := by decide +kernel
theorem dM_row_101 : decode bM_row 101 = .ok (.iconst 1, 1) := by decide +kernel
theorem dM_row_102 : decode bM_row 102 = .ok (.iadd, 1) := by decide +kernel
theorem dM_row_103 : decode bM_row 103 = .ok (.imul, 1) := by decide +kernel
theorem dM_row_104 : decode bM_row 104 = .ok (.iload 6, 2) := by decide +kernel
theorem dM_row_106 : decode bM_row 106 = .ok (.iadd, 1) := by decide +kernel
theorem dM_row_107 : decode bM_row 107 = .ok (.iaload, 1) := by decide +kernel
theorem dM_row_108 : decode bM_row 108 = .ok (.iadd, 1) := by decide +kernel
theorem dM_row_109 : decode bM_row 109 = .ok (.istore 7, 2) := by decide +kernel
theorem dM_row_111 : decode bM_row 111 = .ok (.iload 7, 2) := by decide +kernel
theorem dM_row_113 : decode bM_row 113 = .ok (.iload 5, 2) := by decide +kernel
theorem dM_row_115 : decode bM_row 115 = .ok (.if_icmp .ge 8, 3) := by decide +kernel
theorem dM_row_118 : decode bM_row 118 = .ok (.iload 7, 2) := by decide +kernel
theorem dM_row_120 : decode bM_row 120 = .ok (.goto 5, 3) := by decide +kernel
theorem dM_row_123 : decode bM_row 123 = .ok (.iload 5, 2) := by decide +kernel
theorem dM_row_125 : decode bM_row 125 = .ok (.istore 5, 2) := by decide +kernel
theorem dM_row_127 : decode bM_row 127 = .ok (.iinc 6 1, 3) := by decide +kernel
theorem dM_row_130 : decode bM_row 130 = .ok (.goto (-60), 3) := by decide +kernel
theorem dM_row_133 : decode bM_row 133 = .ok (.aload_n 0, 1) := by decide +kernel
theorem dM_row_134 : decode bM_row 134 = .ok (.getfield 29, 3) := by decide +kernel
theorem dM_row_137 : decode bM_row 137 = .ok (.bipush 9, 2) := by decide +kernel
theorem dM_row_139 : decode bM_row 139 = .ok (.iload_n 3, 1) := by decide +kernel
theorem dM_row_140 : decode bM_row 140 = .ok (.imul, 1) := by decide +kernel
theorem dM_row_141 : decode bM_row 141 = .ok (.iload 4, 2) := by decide +kernel
theorem dM_row_143 : decode bM_row 143 = .ok (.iadd, 1) := by decide +kernel
theorem dM_row_144 : decode bM_row 144 = .ok (.iload 5, 2) := by decide +kernel
theorem dM_row_146 : decode bM_row 146 = .ok (.iastore, 1) := by decide +kernel
theorem dM_row_147 : decode bM_row 147 = .ok (.iinc 4 1, 3) := by decide +kernel
theorem dM_row_150 : decode bM_row 150 = .ok (.goto (-94), 3) := by decide +kernel
theorem dM_row_153 : decode bM_row 153 = .ok (.iinc 3 (-1), 3) := by decide +kernel
theorem dM_row_156 : decode bM_row 156 = .ok (.goto (-107), 3) := by decide +kernel
theorem dM_row_159 : decode bM_row 159 = .ok (.return_, 1) := by decide +kernel
theorem dM_stepsOf_0 : decode bM_stepsOf 0 = .ok (.iload_n 1, 1) := by decide +kernel
theorem dM_stepsOf_1 : decode bM_stepsOf 1 = .ok (.bipush 100, 2) := by decide +kernel
theorem dM_stepsOf_3 : decode bM_stepsOf 3 = .ok (.if_icmp .lt 27, 3) := by decide +kernel
theorem dM_stepsOf_6 : decode bM_stepsOf 6 = .ok (.iload_n 3, 1) := by decide +kernel
theorem dM_stepsOf_7 : decode bM_stepsOf 7 = .ok (.iload_n 2, 1) := by decide +kernel
theorem dM_stepsOf_8 : decode bM_stepsOf 8 = .ok (.iconst 1, 1) := by decide +kernel
theorem dM_stepsOf_9 : decode bM_stepsOf 9 = .ok (.iadd, 1) := by decide +kernel
theorem dM_stepsOf_10 : decode bM_stepsOf 10 = .ok (.if_icmp .ne 17, 3) := by decide +kernel
theorem dM_stepsOf_13 : decode bM_stepsOf 13 = .ok (.aload_n 0, 1) := by decide +kernel
theorem dM_stepsOf_14 : decode bM_stepsOf 14 = .ok (.getfield 19, 3) := by decide +kernel
theorem dM_stepsOf_17 : decode bM_stepsOf 17 = .ok (.iload_n 3, 1) := by decide +kernel
theorem dM_stepsOf_18 : decode bM_stepsOf 18 = .ok (.iaload, 1) := by decide +kernel
theorem dM_stepsOf_19 : decode bM_stepsOf 19 = .ok (.iload_n 1, 1) := by decide +kernel
theorem dM_stepsOf_20 : decode bM_stepsOf 20 = .ok (.if_icmp .ne 7, 3) := by decide +kernel
theorem dM_stepsOf_23 : decode bM_stepsOf 23 = .ok (.iconst 0, 1) := by decide +kernel
theorem dM_stepsOf_24 : decode bM_stepsOf 24 = .ok (.goto 5, 3) := by decide +kernel
theorem dM_stepsOf_27 : decode bM_stepsOf 27 = .ok (.ldc 108, 2) := by decide +kernel
theorem dM_stepsOf_29 : decode bM_stepsOf 29 = .ok (.ireturn, 1) := by decide +kernel
theorem dM_stepsOf_30 : decode bM_stepsOf 30 = .ok (.aload_n 0, 1) := by decide +kernel
theorem dM_stepsOf_31 : decode bM_stepsOf 31 = .ok (.getfield 26, 3) := by decide +kernel
theorem dM_stepsOf_34 : decode bM_stepsOf 34 = .ok (.bipush 81, 2) := by decide +kernel
theorem dM_stepsOf_36 : decode bM_stepsOf 36 = .ok (.iload_n 1, 1) := by decide +kernel
theorem dM_stepsOf_37 : decode bM_stepsOf 37 = .ok (.imul, 1) := by decide +kernel
theorem dM_stepsOf_38 : decode bM_stepsOf 38 = .ok (.bipush 9, 2) := by decide +kernel
theorem dM_stepsOf_40 : decode bM_stepsOf 40 = .ok (.iload_n 2, 1) := by decide +kernel
theorem dM_stepsOf_41 : decode bM_stepsOf 41 = .ok (.imul, 1) := by decide +kernel
theorem dM_stepsOf_42 : decode bM_stepsOf 42 = .ok (.iadd, 1) := by decide +kernel
theorem dM_stepsOf_43 : decode bM_stepsOf 43 = .ok (.iload_n 3, 1) := by decide +kernel
theorem dM_stepsOf_44 : decode bM_stepsOf 44 = .ok (.iadd, 1) := by decide +kernel
theorem dM_stepsOf_45 : decode bM_stepsOf 45 = .ok (.iaload, 1) := by decide +kernel
theorem dM_stepsOf_46 : decode bM_stepsOf 46 = .ok (.ireturn, 1) := by decide +kernel
theorem dM_nullable_0 : decode bM_nullable 0 = .ok (.aload_n 0, 1) := by decide +kernel
theorem dM_nullable_1 : decode bM_nullable 1 = .ok (.aload_n 0, 1) := by decide +kernel
theorem dM_nullable_2 : decode bM_nullable 2 = .ok (.iload_n 1, 1) := by decide +kernel
theorem dM_nullable_3 : decode bM_nullable 3 = .ok (.invokevirtual 65, 3) := by decide +kernel
theorem dM_nullable_6 : decode bM_nullable 6 = .ok (.ifCond .eq 7, 3) := by decide +kernel
theorem dM_nullable_9 : decode bM_nullable 9 = .ok (.iconst 0, 1) := by decide +kernel
theorem dM_nullable_10 : decode bM_nullable 10 = .ok (.goto 4, 3) := by decide +kernel
theorem dM_nullable_13 : decode bM_nullable 13 = .ok (.iconst 1, 1) := by decide +kernel
theorem dM_nullable_14 : decode bM_nullable 14 = .ok (.invokevirtual 69, 3) := by decide +kernel
theorem dM_nullable_17 : decode bM_nullable 17 = .ok (.ifCond .eq 5, 3) := by decide +kernel
theorem dM_nullable_20 : decode bM_nullable 20 = .ok (.iconst 0, 1) := by decide +kernel
theorem dM_nullable_21 : decode bM_nullable 21 = .ok (.ireturn, 1) := by decide +kernel
theorem dM_nullable_22 : decode bM_nullable 22 = .ok (.aload_n 0, 1) := by decide +kernel
theorem dM_nullable_23 : decode bM_nullable 23 = .ok (.invokevirtual 117, 3) := by decide +kernel
theorem dM_nullable_26 : decode bM_nullable 26 = .ok (.aload_n 0, 1) := by decide +kernel
theorem dM_nullable_27 : decode bM_nullable 27 = .ok (.iload_n 1, 1) := by decide +kernel
theorem dM_nullable_28 : decode bM_nullable 28 = .ok (.iconst 0, 1) := by decide +kernel
theorem dM_nullable_29 : decode bM_nullable 29 = .ok (.iconst 0, 1) := by decide +kernel
theorem dM_nullable_30 : decode bM_nullable 30 = .ok (.invokevirtual 109, 3) := by decide +kernel
theorem dM_nullable_33 : decode bM_nullable 33 = .ok (.ldc 108, 2) := by decide +kernel
theorem dM_nullable_35 : decode bM_nullable 35 = .ok (.if_icmp .ge 7, 3) := by decide +kernel
theorem dM_nullable_38 : decode bM_nullable 38 = .ok (.iconst 1, 1) := by decide +kernel
theorem dM_nullable_39 : decode bM_nullable 39 = .ok (.goto 4, 3) := by decide +kernel
theorem dM_nullable_42 : decode bM_nullable 42 = .ok (.iconst 0, 1) := by decide +kernel
theorem dM_nullable_43 : decode bM_nullable 43 = .ok (.ireturn, 1) := by decide +kernel
theorem dM_extract_0 : decode bM_extract 0 = .ok (.aload_n 0, 1) := by decide +kernel
theorem dM_extract_1 : decode bM_extract 1 = .ok (.aload_n 0, 1) := by decide +kernel
theorem dM_extract_2 : decode bM_extract 2 = .ok (.invokevirtual 104, 3) := by decide +kernel
theorem dM_extract_5 : decode bM_extract 5 = .ok (.ifCond .eq 7, 3) := by decide +kernel
theorem dM_extract_8 : decode bM_extract 8 = .ok (.iconst 0, 1) := by decide +kernel
theorem dM_extract_9 : decode bM_extract 9 = .ok (.goto 4, 3) := by decide +kernel
theorem dM_extract_12 : decode bM_extract 12 = .ok (.iconst 1, 1) := by decide +kernel
theorem dM_extract_13 : decode bM_extract 13 = .ok (.invokevirtual 69, 3) := by decide +kernel
theorem dM_extract_16 : decode bM_extract 16 = .ok (.ifCond .eq 5, 3) := by decide +kernel
theorem dM_extract_19 : decode bM_extract 19 = .ok (.iconst 0, 1) := by decide +kernel
theorem dM_extract_20 : decode bM_extract 20 = .ok (.ireturn, 1) := by decide +kernel
theorem dM_extract_21 : decode bM_extract 21 = .ok (.aload_n 0, 1) := by decide +kernel
theorem dM_extract_22 : decode bM_extract 22 = .ok (.invokevirtual 117, 3) := by decide +kernel
theorem dM_extract_25 : decode bM_extract 25 = .ok (.aload_n 0, 1) := by decide +kernel
theorem dM_extract_26 : decode bM_extract 26 = .ok (.iconst 0, 1) := by decide +kernel
theorem dM_extract_27 : decode bM_extract 27 = .ok (.putfield 51, 3) := by decide +kernel
theorem dM_extract_30 : decode bM_extract 30 = .ok (.iconst 1, 1) := by decide +kernel
theorem dM_extract_31 : decode bM_extract 31 = .ok (.istore_n 1, 1) := by decide +kernel
theorem dM_extract_32 : decode bM_extract 32 = .ok (.aload_n 0, 1) := by decide +kernel
theorem dM_extract_33 : decode bM_extract 33 = .ok (.getfield 35, 3) := by decide +kernel
theorem dM_extract_36 : decode bM_extract 36 = .ok (.iconst 0, 1) := by decide +kernel
theorem dM_extract_37 : decode bM_extract 37 = .ok (.bipush 100, 2) := by decide +kernel
theorem dM_extract_39 : decode bM_extract 39 = .ok (.aload_n 0, 1) := by decide +kernel
theorem dM_extract_40 : decode bM_extract 40 = .ok (.getfield 7, 3) := by decide +kernel
theorem dM_extract_43 : decode bM_extract 43 = .ok (.iconst 0, 1) := by decide +kernel
theorem dM_extract_44 : decode bM_extract 44 = .ok (.iaload, 1) := by decide +kernel
theorem dM_extract_45 : decode bM_extract 45 = .ok (.imul, 1) := by decide +kernel
theorem dM_extract_46 : decode bM_extract 46 = .ok (.aload_n 0, 1) := by decide +kernel
theorem dM_extract_47 : decode bM_extract 47 = .ok (.getfield 62, 3) := by decide +kernel
theorem dM_extract_50 : decode bM_extract 50 = .ok (.iadd, 1) := by decide +kernel
theorem dM_extract_51 : decode bM_extract 51 = .ok (.iastore, 1) := by decide +kernel
theorem dM_extract_52 : decode bM_extract 52 = .ok (.iload_n 1, 1) := by decide +kernel
theorem dM_extract_53 : decode bM_extract 53 = .ok (.ifCond .le 310, 3) := by decide +kernel
theorem dM_extract_56 : decode bM_extract 56 = .ok (.aload_n 0, 1) := by decide +kernel
theorem dM_extract_57 : decode bM_extract 57 = .ok (.getfield 51, 3) := by decide +kernel
theorem dM_extract_60 : decode bM_extract 60 = .ok (.sipush 8000, 3) := by decide +kernel
theorem dM_extract_63 : decode bM_extract 63 = .ok (.if_icmp .ge 300, 3) := by decide +kernel
theorem dM_extract_66 : decode bM_extract 66 = .ok (.iload_n 1, 1) := by decide +kernel
theorem dM_extract_67 : decode bM_extract 67 = .ok (.iconst 1, 1) := by decide +kernel
theorem dM_extract_68 : decode bM_extract 68 = .ok (.isub, 1) := by decide +kernel
theorem dM_extract_69 : decode bM_extract 69 = .ok (.istore_n 1, 1) := by decide +kernel
theorem dM_extract_70 : decode bM_extract 70 = .ok (.aload_n 0, 1) := by decide +kernel
theorem dM_extract_71 : decode bM_extract 71 = .ok (.getfield 35, 3) := by decide +kernel
theorem dM_extract_74 : decode bM_extract 74 = .ok (.iload_n 1, 1) := by decide +kernel
theorem dM_extract_75 : decode bM_extract 75 = .ok (.iaload, 1) := by decide +kernel
theorem dM_extract_76 : decode bM_extract 76 = .ok (.bipush 100, 2) := by decide +kernel
theorem dM_extract_78 : decode bM_extract 78 = .ok (.idiv, 1) := by decide +kernel
theorem dM_extract_79 : decode bM_extract 79 = .ok (.istore_n 2, 1) := by decide +kernel
theorem dM_extract_80 : decode bM_extract 80 = .ok (.aload_n 0, 1) := by decide +kernel
theorem dM_extract_81 : decode bM_extract 81 = .ok (.getfield 35, 3) := by decide +kernel
theorem dM_extract_84 : decode bM_extract 84 = .ok (.iload_n 1, 1) := by decide +kernel
theorem dM_extract_85 : decode bM_extract 85 = .ok (.iaload, 1) := by decide +kernel
theorem dM_extract_86 : decode bM_extract 86 = .ok (.bipush 10, 2) := by decide +kernel
theorem dM_extract_88 : decode bM_extract 88 = .ok (.idiv, 1) := by decide +kernel
theorem dM_extract_89 : decode bM_extract 89 = .ok (.bipush 10, 2) := by decide +kernel
theorem dM_extract_91 : decode bM_extract 91 = .ok (.irem, 1) := by decide +kernel
theorem dM_extract_92 : decode bM_extract 92 = .ok (.istore_n 3, 1) := by decide +kernel
theorem dM_extract_93 : decode bM_extract 93 = .ok (.aload_n 0, 1) := by decide +kernel
theorem dM_extract_94 : decode bM_extract 94 = .ok (.getfield 35, 3) := by decide +kernel
theorem dM_extract_97 : decode bM_extract 97 = .ok (.iload_n 1, 1) := by decide +kernel
theorem dM_extract_98 : decode bM_extract 98 = .ok (.iaload, 1) := by decide +kernel
theorem dM_extract_99 : decode bM_extract 99 = .ok (.bipush 10, 2) := by decide +kernel
theorem dM_extract_101 : decode bM_extract 101 = .ok (.irem, 1) := by decide +kernel
theorem dM_extract_102 : decode bM_extract 102 = .ok (.istore 4, 2) := by decide +kernel
theorem dM_extract_104 : decode bM_extract 104 = .ok (.aload_n 0, 1) := by decide +kernel
theorem dM_extract_105 : decode bM_extract 105 = .ok (.iload_n 2, 1) := by decide +kernel
theorem dM_extract_106 : decode bM_extract 106 = .ok (.iload_n 3, 1) := by decide +kernel
theorem dM_extract_107 : decode bM_extract 107 = .ok (.iload 4, 2) := by decide +kernel
theorem dM_extract_109 : decode bM_extract 109 = .ok (.invokevirtual 120, 3) := by decide +kernel
theorem dM_extract_112 : decode bM_extract 112 = .ok (.istore 5, 2) := by decide +kernel
theorem dM_extract_114 : decode bM_extract 114 = .ok (.aload_n 0, 1) := by decide +kernel
theorem dM_extract_115 : decode bM_extract 115 = .ok (.getfield 32, 3) := by decide +kernel
theorem dM_extract_118 : decode bM_extract 118 = .ok (.aload_n 0, 1) := by decide +kernel
theorem dM_extract_119 : decode bM_extract 119 = .ok (.getfield 51, 3) := by decide +kernel
theorem dM_extract_122 : decode bM_extract 122 = .ok (.iload 5, 2) := by decide +kernel
theorem dM_extract_124 : decode bM_extract 124 = .ok (.iastore, 1) := by decide +kernel
theorem dM_extract_125 : decode bM_extract 125 = .ok (.aload_n 0, 1) := by decide +kernel
theorem dM_extract_126 : decode bM_extract 126 = .ok (.aload_n 0, 1) := by decide +kernel
theorem dM_extract_127 : decode bM_extract 127 = .ok (.getfield 51, 3) := by decide +kernel
theorem dM_extract_130 : decode bM_extract 130 = .ok (.iconst 1, 1) := by decide +kernel
theorem dM_extract_131 : decode bM_extract 131 = .ok (.iadd, 1) := by decide +kernel
theorem dM_extract_132 : decode bM_extract 132 = .ok (.putfield 51, 3) := by decide +kernel
theorem dM_extract_135 : decode bM_extract 135 = .ok (.iconst 0, 1) := by decide +kernel
theorem dM_extract_136 : decode bM_extract 136 = .ok (.istore 6, 2) := by decide +kernel
theorem dM_extract_138 : decode bM_extract 138 = .ok (.iload_n 3, 1) := by decide +kernel
theorem dM_extract_139 : decode bM_extract 139 = .ok (.istore 7, 2) := by decide +kernel
theorem dM_extract_141 : decode bM_extract 141 = .ok (.iconst 0, 1) := by decide +kernel
theorem dM_extract_142 : decode bM_extract 142 = .ok (.istore 8, 2) := by decide +kernel
theorem dM_extract_144 : decode bM_extract 144 = .ok (.iload 8, 2) := by decide +kernel
theorem dM_extract_146 : decode bM_extract 146 = .ok (.aload_n 0, 1) := by decide +kernel
theorem dM_extract_147 : decode bM_extract 147 = .ok (.getfield 13, 3) := by decide +kernel
theorem dM_extract_150 : decode bM_extract 150 = .ok (.iload 5, 2) := by decide +kernel
theorem dM_extract_152 : decode bM_extract 152 = .ok (.iaload, 1) := by decide +kernel
theorem dM_extract_153 : decode bM_extract 153 = .ok (.if_icmp .ge 134, 3) := by decide +kernel
theorem dM_extract_156 : decode bM_extract 156 = .ok (.iload 7, 2) := by decide +kernel
theorem dM_extract_158 : decode bM_extract 158 = .ok (.istore 9, 2) := by decide +kernel
theorem dM_extract_160 : decode bM_extract 160 = .ok (.aload_n 0, 1) := by decide +kernel
theorem dM_extract_161 : decode bM_extract 161 = .ok (.aload_n 0, 1) := by decide +kernel
theorem dM_extract_162 : decode bM_extract 162 = .ok (.getfield 16, 3) := by decide +kernel
theorem dM_extract_165 : decode bM_extract 165 = .ok (.iconst 4, 1) := by decide +kernel
theorem dM_extract_166 : decode bM_extract 166 = .ok (.iload 5, 2) := by decide +kernel
theorem dM_extract_168 : decode bM_extract 168 = .ok (.imul, 1) := by decide +kernel
theorem dM_extract_169 : decode bM_extract 169 = .ok (.iload 8, 2) := by decide +kernel
theorem dM_extract_171 : decode bM_extract 171 = .ok (.iadd, 1) := by decide +kernel
theorem dM_extract_172 : decode bM_extract 172 = .ok (.iaload, 1) := by decide +kernel
theorem dM_extract_173 : decode bM_extract 173 = .ok (.iload 7, 2) := by decide +kernel
theorem dM_extract_175 : decode bM_extract 175 = .ok (.iload 9, 2) := by decide +kernel
theorem dM_extract_177 : decode bM_extract 177 = .ok (.invokevirtual 109, 3) := by decide +kernel
theorem dM_extract_180 : decode bM_extract 180 = .ok (.aload_n 0, 1) := by decide +kernel
theorem dM_extract_181 : decode bM_extract 181 = .ok (.getfield 29, 3) := by decide +kernel
theorem dM_extract_184 : decode bM_extract 184 = .ok (.bipush 9, 2) := by decide +kernel
theorem dM_extract_186 : decode bM_extract 186 = .ok (.iload 8, 2) := by decide +kernel
theorem dM_extract_188 : decode bM_extract 188 = .ok (.iconst 1, 1) := by decide +kernel
theorem dM_extract_189 : decode bM_extract 189 = .ok (.iadd, 1) := by decide +kernel
theorem dM_extract_190 : decode bM_extract 190 = .ok (.imul, 1) := by decide +kernel
theorem dM_extract_191 : decode bM_extract 191 = .ok (.iload 9, 2) := by decide +kernel
theorem dM_extract_193 : decode bM_extract 193 = .ok (.iadd, 1) := by decide +kernel
theorem dM_extract_194 : decode bM_extract 194 = .ok (.iaload, 1) := by decide +kernel
theorem dM_extract_195 : decode bM_extract 195 = .ok (.iadd, 1) := by decide +kernel
theorem dM_extract_196 : decode bM_extract 196 = .ok (.aload_n 0, 1) := by decide +kernel
theorem dM_extract_197 : decode bM_extract 197 = .ok (.getfield 29, 3) := by decide +kernel
theorem dM_extract_200 : decode bM_extract 200 = .ok (.bipush 9, 2) := by decide +kernel
theorem dM_extract_202 : decode bM_extract 202 = .ok (.iload 8, 2) := by decide +kernel
theorem dM_extract_204 : decode bM_extract 204 = .ok (.imul, 1) := by decide +kernel
theorem dM_extract_205 : decode bM_extract 205 = .ok (.iload 7, 2) := by decide +kernel
theorem dM_extract_207 : decode bM_extract 207 = .ok (.iadd, 1) := by decide +kernel
theorem dM_extract_208 : decode bM_extract 208 = .ok (.iaload, 1) := by decide +kernel
theorem dM_extract_209 : decode bM_extract 209 = .ok (.if_icmp .eq 12, 3) := by decide +kernel
theorem dM_extract_212 : decode bM_extract 212 = .ok (.iload 9, 2) := by decide +kernel
theorem dM_extract_214 : decode bM_extract 214 = .ok (.iconst 1, 1) := by decide +kernel
theorem dM_extract_215 : decode bM_extract 215 = .ok (.iadd, 1) := by decide +kernel
theorem dM_extract_216 : decode bM_extract 216 = .ok (.istore 9, 2) := by decide +kernel
theorem dM_extract_218 : decode bM_extract 218 = .ok (.goto (-58), 3) := by decide +kernel
theorem dM_extract_221 : decode bM_extract 221 = .ok (.aload_n 0, 1) := by decide +kernel
theorem dM_extract_222 : decode bM_extract 222 = .ok (.getfield 16, 3) := by decide +kernel
theorem dM_extract_225 : decode bM_extract 225 = .ok (.iconst 4, 1) := by decide +kernel
theorem dM_extract_226 : decode bM_extract 226 = .ok (.iload 5, 2) := by decide +kernel
theorem dM_extract_228 : decode bM_extract 228 = .ok (.imul, 1) := by decide +kernel
theorem dM_extract_229 : decode bM_extract 229 = .ok (.iload 8, 2) := by decide +kernel
theorem dM_extract_231 : decode bM_extract 231 = .ok (.iadd, 1) := by decide +kernel
theorem dM_extract_232 : decode bM_extract 232 = .ok (.iaload, 1) := by decide +kernel
theorem dM_extract_233 : decode bM_extract 233 = .ok (.bipush 100, 2) := by decide +kernel
theorem dM_extract_235 : decode bM_extract 235 = .ok (.if_icmp .ge 42, 3) := by decide +kernel
theorem dM_extract_238 : decode bM_extract 238 = .ok (.aload_n 0, 1) := by decide +kernel
theorem dM_extract_239 : decode bM_extract 239 = .ok (.getfield 35, 3) := by decide +kernel
theorem dM_extract_242 : decode bM_extract 242 = .ok (.iload_n 1, 1) := by decide +kernel
theorem dM_extract_243 : decode bM_extract 243 = .ok (.iload 6, 2) := by decide +kernel
theorem dM_extract_245 : decode bM_extract 245 = .ok (.iadd, 1) := by decide +kernel
theorem dM_extract_246 : decode bM_extract 246 = .ok (.bipush 100, 2) := by decide +kernel
theorem dM_extract_248 : decode bM_extract 248 = .ok (.aload_n 0, 1) := by decide +kernel
theorem dM_extract_249 : decode bM_extract 249 = .ok (.getfield 16, 3) := by decide +kernel
theorem dM_extract_252 : decode bM_extract 252 = .ok (.iconst 4, 1) := by decide +kernel
theorem dM_extract_253 : decode bM_extract 253 = .ok (.iload 5, 2) := by decide +kernel
theorem dM_extract_255 : decode bM_extract 255 = .ok (.imul, 1) := by decide +kernel
theorem dM_extract_256 : decode bM_extract 256 = .ok (.iload 8, 2) := by decide +kernel
theorem dM_extract_258 : decode bM_extract 258 = .ok (.iadd, 1) := by decide +kernel
theorem dM_extract_259 : decode bM_extract 259 = .ok (.iaload, 1) := by decide +kernel
theorem dM_extract_260 : decode bM_extract 260 = .ok (.imul, 1) := by decide +kernel
theorem dM_extract_261 : decode bM_extract 261 = .ok (.bipush 10, 2) := by decide +kernel
theorem dM_extract_263 : decode bM_extract 263 = .ok (.iload 7, 2) := by decide +kernel
theorem dM_extract_265 : decode bM_extract 265 = .ok (.imul, 1) := by decide +kernel
theorem dM_extract_266 : decode bM_extract 266 = .ok (.iadd, 1) := by decide +kernel
theorem dM_extract_267 : decode bM_extract 267 = .ok (.iload 9, 2) := by decide +kernel
theorem dM_extract_269 : decode bM_extract 269 = .ok (.iadd, 1) := by decide +kernel
theorem dM_extract_270 : decode bM_extract 270 = .ok (.iastore, 1) := by decide +kernel
theorem dM_extract_271 : decode bM_extract 271 = .ok (.iload 6, 2) := by decide +kernel
theorem dM_extract_273 : decode bM_extract 273 = .ok (.iconst 1, 1) := by decide +kernel
theorem dM_extract_274 : decode bM_extract 274 = .ok (.iadd, 1) := by decide +kernel
theorem dM_extract_275 : decode bM_extract 275 = .ok (.istore 6, 2) := by decide +kernel
theorem dM_extract_277 : decode bM_extract 277 = .ok (.iload 9, 2) := by decide +kernel
theorem dM_extract_279 : decode bM_extract 279 = .ok (.istore 7, 2) := by decide +kernel
theorem dM_extract_281 : decode bM_extract 281 = .ok (.iinc 8 1, 3) := by decide +kernel
theorem dM_extract_284 : decode bM_extract 284 = .ok (.goto (-140), 3) := by decide +kernel
theorem dM_extract_287 : decode bM_extract 287 = .ok (.iconst 0, 1) := by decide +kernel
theorem dM_extract_288 : decode bM_extract 288 = .ok (.istore 8, 2) := by decide +kernel
theorem dM_extract_290 : decode bM_extract 290 = .ok (.iload 8, 2) := by decide +kernel
theorem dM_extract_292 : decode bM_extract 292 = .ok (.iload 6, 2) := by decide +kernel
theorem dM_extract_294 : decode bM_extract 294 = .ok (.iconst 2, 1) := by decide +kernel
theorem dM_extract_295 : decode bM_extract 295 = .ok (.idiv, 1) := by decide +kernel
theorem dM_extract_296 : decode bM_extract 296 = .ok (.if_icmp .ge 59, 3) := by decide +kernel
theorem dM_extract_299 : decode bM_extract 299 = .ok (.aload_n 0, 1) := by decide +kernel
theorem dM_extract_300 : decode bM_extract 300 = .ok (.getfield 35, 3) := by decide +kernel
theorem dM_extract_303 : decode bM_extract 303 = .ok (.iload_n 1, 1) := by decide +kernel
theorem dM_extract_304 : decode bM_extract 304 = .ok (.iload 6, 2) := by decide +kernel
theorem dM_extract_306 : decode bM_extract 306 = .ok (.iadd, 1) := by decide +kernel
theorem dM_extract_307 : decode bM_extract 307 = .ok (.iconst 1, 1) := by decide +kernel
theorem dM_extract_308 : decode bM_extract 308 = .ok (.isub, 1) := by decide +kernel
theorem dM_extract_309 : decode bM_extract 309 = .ok (.iload 8, 2) := by decide +kernel
theorem dM_extract_311 : decode bM_extract 311 = .ok (.isub, 1) := by decide +kernel
theorem dM_extract_312 : decode bM_extract 312 = .ok (.iaload, 1) := by decide +kernel
theorem dM_extract_313 : decode bM_extract 313 = .ok (.istore 9, 2) := by decide +kernel
theorem dM_extract_315 : decode bM_extract 315 = .ok (.aload_n 0, 1) := by decide +kernel
theorem dM_extract_316 : decode bM_extract 316 = .ok (.getfield 35, 3) := by decide +kernel
theorem dM_extract_319 : decode bM_extract 319 = .ok (.iload_n 1, 1) := by decide +kernel
theorem dM_extract_320 : decode bM_extract 320 = .ok (.iload 6, 2) := by decide +kernel
theorem dM_extract_322 : decode bM_extract 322 = .ok (.iadd, 1) := by decide +kernel
theorem dM_extract_323 : decode bM_extract 323 = .ok (.iconst 1, 1) := by decide +kernel
theorem dM_extract_324 : decode bM_extract 324 = .ok (.isub, 1) := by decide +kernel
theorem dM_extract_325 : decode bM_extract 325 = .ok (.iload 8, 2) := by decide +kernel
theorem dM_extract_327 : decode bM_extract 327 = .ok (.isub, 1) := by decide +kernel
theorem dM_extract_328 : decode bM_extract 328 = .ok (.aload_n 0, 1) := by decide +kernel
theorem dM_extract_329 : decode bM_extract 329 = .ok (.getfield 35, 3) := by decide +kernel
theorem dM_extract_332 : decode bM_extract 332 = .ok (.iload_n 1, 1) := by decide +kernel
theorem dM_extract_333 : decode bM_extract 333 = .ok (.iload 8, 2) := by decide +kernel
theorem dM_extract_335 : decode bM_extract 335 = .ok (.iadd, 1) := by decide +kernel
theorem dM_extract_336 : decode bM_extract 336 = .ok (.iaload, 1) := by decide +kernel
theorem dM_extract_337 : decode bM_extract 337 = .ok (.iastore, 1) := by decide +kernel
theorem dM_extract_338 : decode bM_extract 338 = .ok (.aload_n 0, 1) := by decide +kernel
theorem dM_extract_339 : decode bM_extract 339 = .ok (.getfield 35, 3) := by decide +kernel
theorem dM_extract_342 : decode bM_extract 342 = .ok (.iload_n 1, 1) := by decide +kernel
theorem dM_extract_343 : decode bM_extract 343 = .ok (.iload 8, 2) := by decide +kernel
theorem dM_extract_345 : decode bM_extract 345 = .ok (.iadd, 1) := by decide +kernel
theorem dM_extract_346 : decode bM_extract 346 = .ok (.iload 9, 2) := by decide +kernel
theorem dM_extract_348 : decode bM_extract 348 = .ok (.iastore, 1) := by decide +kernel
theorem dM_extract_349 : decode bM_extract 349 = .ok (.iinc 8 1, 3) := by decide +kernel
theorem dM_extract_352 : decode bM_extract 352 = .ok (.goto (-62), 3) := by decide +kernel
theorem dM_extract_355 : decode bM_extract 355 = .ok (.iload_n 1, 1) := by decide +kernel
theorem dM_extract_356 : decode bM_extract 356 = .ok (.iload 6, 2) := by decide +kernel
theorem dM_extract_358 : decode bM_extract 358 = .ok (.iadd, 1) := by decide +kernel
theorem dM_extract_359 : decode bM_extract 359 = .ok (.istore_n 1, 1) := by decide +kernel
theorem dM_extract_360 : decode bM_extract 360 = .ok (.goto (-308), 3) := by decide +kernel
theorem dM_extract_363 : decode bM_extract 363 = .ok (.aload_n 0, 1) := by decide +kernel
theorem dM_extract_364 : decode bM_extract 364 = .ok (.getfield 51, 3) := by decide +kernel
theorem dM_extract_367 : decode bM_extract 367 = .ok (.ireturn, 1) := by decide +kernel
theorem dM_choose_0 : decode bM_choose 0 = .ok (.aload_n 0, 1) := by decide +kernel
theorem dM_choose_1 : decode bM_choose 1 = .ok (.iload_n 1, 1) := by decide +kernel
theorem dM_choose_2 : decode bM_choose 2 = .ok (.iload_n 2, 1) := by decide +kernel
theorem dM_choose_3 : decode bM_choose 3 = .ok (.iload_n 3, 1) := by decide +kernel
theorem dM_choose_4 : decode bM_choose 4 = .ok (.invokevirtual 109, 3) := by decide +kernel
theorem dM_choose_7 : decode bM_choose 7 = .ok (.istore 4, 2) := by decide +kernel
theorem dM_choose_9 : decode bM_choose 9 = .ok (.iconst 0, 1) := by decide +kernel
theorem dM_choose_10 : decode bM_choose 10 = .ok (.istore 5, 2) := by decide +kernel
theorem dM_choose_12 : decode bM_choose 12 = .ok (.iload 5, 2) := by decide +kernel
theorem dM_choose_14 : decode bM_choose 14 = .ok (.aload_n 0, 1) := by decide +kernel
theorem dM_choose_15 : decode bM_choose 15 = .ok (.getfield 48, 3) := by decide +kernel
theorem dM_choose_18 : decode bM_choose 18 = .ok (.if_icmp .ge 43, 3) := by decide +kernel
theorem dM_choose_21 : decode bM_choose 21 = .ok (.aload_n 0, 1) := by decide +kernel
theorem dM_choose_22 : decode bM_choose 22 = .ok (.getfield 7, 3) := by decide +kernel
theorem dM_choose_25 : decode bM_choose 25 = .ok (.iload 5, 2) := by decide +kernel
theorem dM_choose_27 : decode bM_choose 27 = .ok (.iaload, 1) := by decide +kernel
theorem dM_choose_28 : decode bM_choose 28 = .ok (.iload_n 1, 1) := by decide +kernel
theorem dM_choose_29 : decode bM_choose 29 = .ok (.if_icmp .ne 26, 3) := by decide +kernel
theorem dM_choose_32 : decode bM_choose 32 = .ok (.aload_n 0, 1) := by decide +kernel
theorem dM_choose_33 : decode bM_choose 33 = .ok (.iload 5, 2) := by decide +kernel
theorem dM_choose_35 : decode bM_choose 35 = .ok (.iload_n 3, 1) := by decide +kernel
theorem dM_choose_36 : decode bM_choose 36 = .ok (.invokevirtual 113, 3) := by decide +kernel
theorem dM_choose_39 : decode bM_choose 39 = .ok (.aload_n 0, 1) := by decide +kernel
theorem dM_choose_40 : decode bM_choose 40 = .ok (.getfield 29, 3) := by decide +kernel
theorem dM_choose_43 : decode bM_choose 43 = .ok (.iload_n 2, 1) := by decide +kernel
theorem dM_choose_44 : decode bM_choose 44 = .ok (.iaload, 1) := by decide +kernel
theorem dM_choose_45 : decode bM_choose 45 = .ok (.iload 4, 2) := by decide +kernel
theorem dM_choose_47 : decode bM_choose 47 = .ok (.iconst 1, 1) := by decide +kernel
theorem dM_choose_48 : decode bM_choose 48 = .ok (.isub, 1) := by decide +kernel
theorem dM_choose_49 : decode bM_choose 49 = .ok (.if_icmp .ne 6, 3) := by decide +kernel
theorem dM_choose_52 : decode bM_choose 52 = .ok (.iload 5, 2) := by decide +kernel
theorem dM_choose_54 : decode bM_choose 54 = .ok (.ireturn, 1) := by decide +kernel
theorem dM_choose_55 : decode bM_choose 55 = .ok (.iinc 5 1, 3) := by decide +kernel
theorem dM_choose_58 : decode bM_choose 58 = .ok (.goto (-46), 3) := by decide +kernel
theorem dM_choose_61 : decode bM_choose 61 = .ok (.iconst (-1), 1) := by decide +kernel
theorem dM_choose_62 : decode bM_choose 62 = .ok (.ireturn, 1) := by decide +kernel
theorem dM_witCount_0 : decode bM_witCount 0 = .ok (.aload_n 0, 1) := by decide +kernel
theorem dM_witCount_1 : decode bM_witCount 1 = .ok (.iconst 0, 1) := by decide +kernel
theorem dM_witCount_2 : decode bM_witCount 2 = .ok (.putfield 45, 3) := by decide +kernel
theorem dM_witCount_5 : decode bM_witCount 5 = .ok (.aload_n 0, 1) := by decide +kernel
theorem dM_witCount_6 : decode bM_witCount 6 = .ok (.getfield 51, 3) := by decide +kernel
theorem dM_witCount_9 : decode bM_witCount 9 = .ok (.ireturn, 1) := by decide +kernel
theorem dM_wit_0 : decode bM_wit 0 = .ok (.aload_n 0, 1) := by decide +kernel
theorem dM_wit_1 : decode bM_wit 1 = .ok (.iload_n 1, 1) := by decide +kernel
theorem dM_wit_2 : decode bM_wit 2 = .ok (.ifCond .lt 11, 3) := by decide +kernel
theorem dM_wit_5 : decode bM_wit 5 = .ok (.iload_n 1, 1) := by decide +kernel
theorem dM_wit_6 : decode bM_wit 6 = .ok (.aload_n 0, 1) := by decide +kernel
theorem dM_wit_7 : decode bM_wit 7 = .ok (.getfield 51, 3) := by decide +kernel
theorem dM_wit_10 : decode bM_wit 10 = .ok (.if_icmp .lt 7, 3) := by decide +kernel
theorem dM_wit_13 : decode bM_wit 13 = .ok (.iconst 1, 1) := by decide +kernel
theorem dM_wit_14 : decode bM_wit 14 = .ok (.goto 4, 3) := by decide +kernel
theorem dM_wit_17 : decode bM_wit 17 = .ok (.iconst 0, 1) := by decide +kernel
theorem dM_wit_18 : decode bM_wit 18 = .ok (.invokevirtual 69, 3) := by decide +kernel
theorem dM_wit_21 : decode bM_wit 21 = .ok (.ifCond .eq 7, 3) := by decide +kernel
theorem dM_wit_24 : decode bM_wit 24 = .ok (.iconst 0, 1) := by decide +kernel
theorem dM_wit_25 : decode bM_wit 25 = .ok (.goto 9, 3) := by decide +kernel
theorem dM_wit_28 : decode bM_wit 28 = .ok (.aload_n 0, 1) := by decide +kernel
theorem dM_wit_29 : decode bM_wit 29 = .ok (.getfield 32, 3) := by decide +kernel
theorem dM_wit_32 : decode bM_wit 32 = .ok (.iload_n 1, 1) := by decide +kernel
theorem dM_wit_33 : decode bM_wit 33 = .ok (.iaload, 1) := by decide +kernel
theorem dM_wit_34 : decode bM_wit 34 = .ok (.ireturn, 1) := by decide +kernel
theorem dM_clear_0 : decode bM_clear 0 = .ok (.aload_n 0, 1) := by decide +kernel
theorem dM_clear_1 : decode bM_clear 1 = .ok (.iconst 0, 1) := by decide +kernel
theorem dM_clear_2 : decode bM_clear 2 = .ok (.putfield 45, 3) := by decide +kernel
theorem dM_clear_5 : decode bM_clear 5 = .ok (.aload_n 0, 1) := by decide +kernel
theorem dM_clear_6 : decode bM_clear 6 = .ok (.getfield 62, 3) := by decide +kernel
theorem dM_clear_9 : decode bM_clear 9 = .ok (.istore_n 1, 1) := by decide +kernel
theorem dM_clear_10 : decode bM_clear 10 = .ok (.aload_n 0, 1) := by decide +kernel
theorem dM_clear_11 : decode bM_clear 11 = .ok (.iconst 0, 1) := by decide +kernel
theorem dM_clear_12 : decode bM_clear 12 = .ok (.putfield 62, 3) := by decide +kernel
theorem dM_clear_15 : decode bM_clear 15 = .ok (.aload_n 0, 1) := by decide +kernel
theorem dM_clear_16 : decode bM_clear 16 = .ok (.iconst 0, 1) := by decide +kernel
theorem dM_clear_17 : decode bM_clear 17 = .ok (.putfield 51, 3) := by decide +kernel
theorem dM_clear_20 : decode bM_clear 20 = .ok (.aload_n 0, 1) := by decide +kernel
theorem dM_clear_21 : decode bM_clear 21 = .ok (.iconst 0, 1) := by decide +kernel
theorem dM_clear_22 : decode bM_clear 22 = .ok (.putfield 54, 3) := by decide +kernel
theorem dM_clear_25 : decode bM_clear 25 = .ok (.iload_n 1, 1) := by decide +kernel
theorem dM_clear_26 : decode bM_clear 26 = .ok (.ireturn, 1) := by decide +kernel
theorem dM_erase_0 : decode bM_erase 0 = .ok (.aload_n 0, 1) := by decide +kernel
theorem dM_erase_1 : decode bM_erase 1 = .ok (.iconst 0, 1) := by decide +kernel
theorem dM_erase_2 : decode bM_erase 2 = .ok (.putfield 45, 3) := by decide +kernel
theorem dM_erase_5 : decode bM_erase 5 = .ok (.aload_n 0, 1) := by decide +kernel
theorem dM_erase_6 : decode bM_erase 6 = .ok (.getfield 48, 3) := by decide +kernel
theorem dM_erase_9 : decode bM_erase 9 = .ok (.istore_n 1, 1) := by decide +kernel
theorem dM_erase_10 : decode bM_erase 10 = .ok (.aload_n 0, 1) := by decide +kernel
theorem dM_erase_11 : decode bM_erase 11 = .ok (.iconst 0, 1) := by decide +kernel
theorem dM_erase_12 : decode bM_erase 12 = .ok (.putfield 62, 3) := by decide +kernel
theorem dM_erase_15 : decode bM_erase 15 = .ok (.aload_n 0, 1) := by decide +kernel
theorem dM_erase_16 : decode bM_erase 16 = .ok (.iconst 0, 1) := by decide +kernel
theorem dM_erase_17 : decode bM_erase 17 = .ok (.putfield 48, 3) := by decide +kernel
theorem dM_erase_20 : decode bM_erase 20 = .ok (.aload_n 0, 1) := by decide +kernel
theorem dM_erase_21 : decode bM_erase 21 = .ok (.invokevirtual 72, 3) := by decide +kernel
theorem dM_erase_24 : decode bM_erase 24 = .ok (.iload_n 1, 1) := by decide +kernel
theorem dM_erase_25 : decode bM_erase 25 = .ok (.ireturn, 1) := by decide +kernel
theorem dM_items_0 : decode bM_items 0 = .ok (.aload_n 0, 1) := by decide +kernel
theorem dM_items_1 : decode bM_items 1 = .ok (.iload_n 1, 1) := by decide +kernel
theorem dM_items_2 : decode bM_items 2 = .ok (.ifCond .lt 11, 3) := by decide +kernel
theorem dM_items_5 : decode bM_items 5 = .ok (.iload_n 1, 1) := by decide +kernel
theorem dM_items_6 : decode bM_items 6 = .ok (.aload_n 0, 1) := by decide +kernel
theorem dM_items_7 : decode bM_items 7 = .ok (.getfield 62, 3) := by decide +kernel
theorem dM_items_10 : decode bM_items 10 = .ok (.if_icmp .le 7, 3) := by decide +kernel
theorem dM_items_13 : decode bM_items 13 = .ok (.iconst 1, 1) := by decide +kernel
theorem dM_items_14 : decode bM_items 14 = .ok (.goto 4, 3) := by decide +kernel
theorem dM_items_17 : decode bM_items 17 = .ok (.iconst 0, 1) := by decide +kernel
theorem dM_items_18 : decode bM_items 18 = .ok (.invokevirtual 69, 3) := by decide +kernel
theorem dM_items_21 : decode bM_items 21 = .ok (.ifCond .eq 7, 3) := by decide +kernel
theorem dM_items_24 : decode bM_items 24 = .ok (.iconst 0, 1) := by decide +kernel
theorem dM_items_25 : decode bM_items 25 = .ok (.goto 8, 3) := by decide +kernel
theorem dM_items_28 : decode bM_items 28 = .ok (.aload_n 0, 1) := by decide +kernel
theorem dM_items_29 : decode bM_items 29 = .ok (.iload_n 1, 1) := by decide +kernel
theorem dM_items_30 : decode bM_items 30 = .ok (.invokevirtual 100, 3) := by decide +kernel
theorem dM_items_33 : decode bM_items 33 = .ok (.ireturn, 1) := by decide +kernel
theorem dM_item_0 : decode bM_item 0 = .ok (.iload_n 1, 1) := by decide +kernel
theorem dM_item_1 : decode bM_item 1 = .ok (.ifCond .lt 28, 3) := by decide +kernel
theorem dM_item_4 : decode bM_item 4 = .ok (.iload_n 1, 1) := by decide +kernel
theorem dM_item_5 : decode bM_item 5 = .ok (.aload_n 0, 1) := by decide +kernel
theorem dM_item_6 : decode bM_item 6 = .ok (.getfield 62, 3) := by decide +kernel
theorem dM_item_9 : decode bM_item 9 = .ok (.if_icmp .gt 20, 3) := by decide +kernel
theorem dM_item_12 : decode bM_item 12 = .ok (.iload_n 2, 1) := by decide +kernel
theorem dM_item_13 : decode bM_item 13 = .ok (.ifCond .lt 16, 3) := by decide +kernel
theorem dM_item_16 : decode bM_item 16 = .ok (.iload_n 2, 1) := by decide +kernel
theorem dM_item_17 : decode bM_item 17 = .ok (.aload_n 0, 1) := by decide +kernel
theorem dM_item_18 : decode bM_item 18 = .ok (.iload_n 1, 1) := by decide +kernel
theorem dM_item_19 : decode bM_item 19 = .ok (.invokevirtual 100, 3) := by decide +kernel
theorem dM_item_22 : decode bM_item 22 = .ok (.if_icmp .ge 7, 3) := by decide +kernel
theorem dM_item_25 : decode bM_item 25 = .ok (.iconst 1, 1) := by decide +kernel
theorem dM_item_26 : decode bM_item 26 = .ok (.goto 4, 3) := by decide +kernel
theorem dM_item_29 : decode bM_item 29 = .ok (.iconst 0, 1) := by decide +kernel
theorem dM_item_30 : decode bM_item 30 = .ok (.istore_n 3, 1) := by decide +kernel
theorem dM_item_31 : decode bM_item 31 = .ok (.aload_n 0, 1) := by decide +kernel
theorem dM_item_32 : decode bM_item 32 = .ok (.iload_n 3, 1) := by decide +kernel
theorem dM_item_33 : decode bM_item 33 = .ok (.ifCond .eq 7, 3) := by decide +kernel
theorem dM_item_36 : decode bM_item 36 = .ok (.iconst 0, 1) := by decide +kernel
theorem dM_item_37 : decode bM_item 37 = .ok (.goto 4, 3) := by decide +kernel
theorem dM_item_40 : decode bM_item 40 = .ok (.iconst 1, 1) := by decide +kernel
theorem dM_item_41 : decode bM_item 41 = .ok (.invokevirtual 69, 3) := by decide +kernel
theorem dM_item_44 : decode bM_item 44 = .ok (.ifCond .eq 5, 3) := by decide +kernel
theorem dM_item_47 : decode bM_item 47 = .ok (.iconst 0, 1) := by decide +kernel
theorem dM_item_48 : decode bM_item 48 = .ok (.ireturn, 1) := by decide +kernel
theorem dM_item_49 : decode bM_item 49 = .ok (.iconst (-1), 1) := by decide +kernel
theorem dM_item_50 : decode bM_item 50 = .ok (.istore 4, 2) := by decide +kernel
theorem dM_item_52 : decode bM_item 52 = .ok (.iconst (-1), 1) := by decide +kernel
theorem dM_item_53 : decode bM_item 53 = .ok (.istore 5, 2) := by decide +kernel
theorem dM_item_55 : decode bM_item 55 = .ok (.iload 4, 2) := by decide +kernel
theorem dM_item_57 : decode bM_item 57 = .ok (.iload_n 2, 1) := by decide +kernel
theorem dM_item_58 : decode bM_item 58 = .ok (.if_icmp .ge 39, 3) := by decide +kernel
theorem dM_item_61 : decode bM_item 61 = .ok (.iload 5, 2) := by decide +kernel
theorem dM_item_63 : decode bM_item 63 = .ok (.iconst 1, 1) := by decide +kernel
theorem dM_item_64 : decode bM_item 64 = .ok (.iadd, 1) := by decide +kernel
theorem dM_item_65 : decode bM_item 65 = .ok (.istore 5, 2) := by decide +kernel
theorem dM_item_67 : decode bM_item 67 = .ok (.aload_n 0, 1) := by decide +kernel
theorem dM_item_68 : decode bM_item 68 = .ok (.getfield 22, 3) := by decide +kernel
theorem dM_item_71 : decode bM_item 71 = .ok (.sipush 360, 3) := by decide +kernel
theorem dM_item_74 : decode bM_item 74 = .ok (.iload_n 1, 1) := by decide +kernel
theorem dM_item_75 : decode bM_item 75 = .ok (.imul, 1) := by decide +kernel
theorem dM_item_76 : decode bM_item 76 = .ok (.iload 5, 2) := by decide +kernel
theorem dM_item_78 : decode bM_item 78 = .ok (.iadd, 1) := by decide +kernel
theorem dM_item_79 : decode bM_item 79 = .ok (.baload, 1) := by decide +kernel
theorem dM_item_80 : decode bM_item 80 = .ok (.ifCond .eq 10, 3) := by decide +kernel
theorem dM_item_83 : decode bM_item 83 = .ok (.iload 4, 2) := by decide +kernel
theorem dM_item_85 : decode bM_item 85 = .ok (.iconst 1, 1) := by decide +kernel
theorem dM_item_86 : decode bM_item 86 = .ok (.iadd, 1) := by decide +kernel
theorem dM_item_87 : decode bM_item 87 = .ok (.goto 5, 3) := by decide +kernel
theorem dM_item_90 : decode bM_item 90 = .ok (.iload 4, 2) := by decide +kernel
theorem dM_item_92 : decode bM_item 92 = .ok (.istore 4, 2) := by decide +kernel
theorem dM_item_94 : decode bM_item 94 = .ok (.goto (-39), 3) := by decide +kernel
theorem dM_item_97 : decode bM_item 97 = .ok (.sipush 1000, 3) := by decide +kernel
theorem dM_item_100 : decode bM_item 100 = .ok (.iload 5, 2) := by decide +kernel
theorem dM_item_102 : decode bM_item 102 = .ok (.bipush 45, 2) := by decide +kernel
theorem dM_item_104 : decode bM_item 104 = .ok (.idiv, 1) := by decide +kernel
theorem dM_item_105 : decode bM_item 105 = .ok (.imul, 1) := by decide +kernel
theorem dM_item_106 : decode bM_item 106 = .ok (.bipush 100, 2) := by decide +kernel
theorem dM_item_108 : decode bM_item 108 = .ok (.iload 5, 2) := by decide +kernel
theorem dM_item_110 : decode bM_item 110 = .ok (.bipush 9, 2) := by decide +kernel
theorem dM_item_112 : decode bM_item 112 = .ok (.idiv, 1) := by decide +kernel
theorem dM_item_113 : decode bM_item 113 = .ok (.iconst 5, 1) := by decide +kernel
theorem dM_item_114 : decode bM_item 114 = .ok (.irem, 1) := by decide +kernel
theorem dM_item_115 : decode bM_item 115 = .ok (.imul, 1) := by decide +kernel
theorem dM_item_116 : decode bM_item 116 = .ok (.iadd, 1) := by decide +kernel
theorem dM_item_117 : decode bM_item 117 = .ok (.iload 5, 2) := by decide +kernel
theorem dM_item_119 : decode bM_item 119 = .ok (.bipush 9, 2) := by decide +kernel
theorem dM_item_121 : decode bM_item 121 = .ok (.irem, 1) := by decide +kernel
theorem dM_item_122 : decode bM_item 122 = .ok (.iadd, 1) := by decide +kernel
theorem dM_item_123 : decode bM_item 123 = .ok (.ireturn, 1) := by decide +kernel
theorem dM_fed_0 : decode bM_fed 0 = .ok (.aload_n 0, 1) := by decide +kernel
theorem dM_fed_1 : decode bM_fed 1 = .ok (.iconst 0, 1) := by decide +kernel
theorem dM_fed_2 : decode bM_fed 2 = .ok (.putfield 45, 3) := by decide +kernel
theorem dM_fed_5 : decode bM_fed 5 = .ok (.aload_n 0, 1) := by decide +kernel
theorem dM_fed_6 : decode bM_fed 6 = .ok (.getfield 62, 3) := by decide +kernel
theorem dM_fed_9 : decode bM_fed 9 = .ok (.ireturn, 1) := by decide +kernel
end
section
/-! the model: its has-row and its 'changed' go together -/
abbrev HC : Type := (Nat → Int32) × Int32
def mhc (σ : Mem) (x : HC) : Mem := mrow (mset σ 0 10 x.2) 5 x.1
theorem mhc_mhc {σ : Mem} {x y : HC} : mhc (mhc σ x) y = mhc σ y := by
  funext j i
  unfold mhc mset mrow upd
  by_cases h5 : j = 5
  · simp [h5]
  · by_cases h0 : j = 0
    · subst h0
      by_cases h : i = 10 <;> simp [h]
    · simp [h5, h0]
theorem mhc_id {σ : Mem} : mhc σ (σ 5, σ 0 10) = σ := by
  funext j i
  unfold mhc mset mrow upd
  by_cases h5 : j = 5
  · simp [h5]
  · by_cases h0 : j = 0
    · subst h0
      by_cases h : i = 10 <;> simp [h]
    · simp [h5, h0]
theorem mhc_5 {σ : Mem} {x : HC} : mhc σ x 5 = x.1 := mrow_s
theorem mhc_10 {σ : Mem} {x : HC} : mhc σ x 0 10 = x.2 := by simp [mhc, mset, mrow, upd]
theorem mhc_n {σ : Mem} {x : HC} {q : Nat} (h5 : q ≠ 5) (h0 : q ≠ 0) : mhc σ x q = σ q := by unfold mhc; rw [mrow_n h5, mset_n h0]
theorem mhc_0 {σ : Mem} {x : HC} {f : Nat} (h : f ≠ 10) : mhc σ x 0 f = σ 0 f := by unfold mhc; rw [mrow_n (by decide), mset_i h]
def ml (σ : Mem) (p : Nat) : Nat := (σ 1 p).toNatClampNeg
def mn (σ : Mem) (p : Nat) : Nat := (σ 2 p).toNatClampNeg
def mr (σ : Mem) (i : Nat) : Nat := (σ 3 i).toNatClampNeg
/-- the model's cells hold P productions -/
def mG (σ : Mem) (P : Nat) : Prop := P ≤ 8 ∧ σ 0 3 = nI P ∧ ∀ p, p < P → σ 1 p = nI (ml σ p) ∧ ml σ p < 6 ∧ σ 2 p = nI (mn σ p) ∧ mn σ p ≤ 4 ∧ ∀ d, d < mn σ p → σ 3 (4 * p + d) = nI (mr σ (4 * p + d)) ∧ (mr σ (4 * p + d) < 6 ∨ (100 ≤ mr σ (4 * p + d) ∧ mr σ (4 * p + d) < 106))
theorem mG_of {σ τ : Mem} {P : Nat} (h : mG σ P) (h0 : τ 0 3 = σ 0 3) (h1 : τ 1 = σ 1) (h2 : τ 2 = σ 2) (h3 : τ 3 = σ 3) : mG τ P := by
  unfold mG ml mn mr at *
  rw [h0, h1, h2, h3]
  exact h
theorem mG_mhc {σ : Mem} {P : Nat} {x : HC} (h : mG σ P) : mG (mhc σ x) P := mG_of h (mhc_0 (by decide)) (mhc_n (by decide) (by decide)) (mhc_n (by decide) (by decide)) (mhc_n (by decide) (by decide))
/-- the place of an item in the has-row -/
def ix (k p d o : Nat) : Nat := 360 * k + 45 * p + 9 * d + o
theorem ix_lt {k p d o : Nat} (hk : k < 9) (hp : p < 8) (hd : d < 5) (ho : o < 9) : ix k p d o < 3240 := by unfold ix; omega
def putH (x : HC) (i : Nat) : HC := (upd x.1 i (nI 1), zb (!decide (x.2 = 0) || decide (x.1 i = 0)))
/-- the row holds booleans, the flag is one -/
def bH (x : HC) : Prop := (∀ i, x.1 i = 0 ∨ x.1 i = 1) ∧ (x.2 = 0 ∨ x.2 = 1)
theorem bH_put {x : HC} {i : Nat} (h : bH x) : bH (putH x i) := by
  refine ⟨fun j => ?_, zb_01 _⟩
  by_cases e : j = i
  · right; simp [putH, upd, e]; rfl
  · have := h.1 j; simp [putH, upd, e]; exact this
/-- the symbol behind a dot, or -1 -/
def bhF (σ : Mem) (p d : Nat) : Int32 := if d < mn σ p then σ 3 (4 * p + d) else (-1)
/-- how many of n places from b on hold something -/
def cntH (f : Nat → Int32) (b : Nat) : Nat → Nat
  | 0 => 0
  | i + 1 => if f (b + i) = 0 then cntH f b i else cntH f b i + 1
theorem cntH_le {f : Nat → Int32} {b : Nat} : ∀ n, cntH f b n ≤ n
  | 0 => Nat.le_refl _
  | n + 1 => by
    rw [cntH]
    have := cntH_le (f := f) (b := b) n
    split <;> omega
def allN (f : Nat → Nat) : Nat → Nat
  | 0 => 0
  | i + 1 => allN f i + f i
end
section
set_option maxHeartbeats 4000000 in
set_option maxRecDepth 100000 in
theorem c_M_thrown (l : Launch) (D : va_G) (cs : Nat → ClassId) (ad : Nat → Nat) (σ : Mem)  : MetI l (wM D cs ad) cs yM_thrown bM_thrown 1 (some .int) 0 0 [.ref (ad 0)] σ (fun r τ => r = σ 0 2 ∧ τ = σ) := by
  refine MetI.start (by decide) (Nat.le_of_ble_eq_true rfl) ?_
  intro p e s m below meth c A ls C hk hA hE hl
  obtain ⟨hx, hb, hml, hown, hts, hr, hlocks⟩ := id C
  have hl : lv_has ls 1 [(0, .ref (ad 0))] := hl
  refine lv_aload_n hx hb dM_thrown_0 rfl (lv_at hl 0 rfl) ?_
  refine w_get C hk hE (K := R_M) (T := F_M) (N := 17) (ci := 6) in_M 0 (Nat.le_of_ble_eq_true rfl) rfl rfl 2 (by decide) tw_583 rfl rfl dM_thrown_1 ?_
  exact w_reti C hE (⟨rfl, rfl⟩) dM_thrown_4
set_option maxHeartbeats 4000000 in
set_option maxRecDepth 100000 in
theorem c_M_isVariable (l : Launch) (D : va_G) (cs : Nat → ClassId) (ad : Nat → Nat) (σ : Mem) (V9 : Nat) (x : Int32) (hV : σ 0 0 = nI V9) (hV6 : V9 ≤ 6) : MetI l (wM D cs ad) cs yM_isVariable bM_isVariable 2 (some .boolean) 0 0 [.ref (ad 0), .int x] σ (fun r τ => r = zb (isVn V9 x) ∧ τ = σ) := by
  refine MetI.start (by decide) (Nat.le_of_ble_eq_true rfl) ?_
  intro p e s m below meth c A ls C hk hA hE hl
  obtain ⟨hx, hb, hml, hown, hts, hr, hlocks⟩ := id C
  have hl : lv_has ls 2 [(0, .ref (ad 0)), (1, .int x)] := hl
  refine lv_iload_n hx hb dM_isVariable_0 rfl (lv_at hl 1 rfl) ?_
  refine lv_if_lt (tgt := 16) hx hb dM_isVariable_1 (by decide) (fun c1 => ?_) (fun c1 => ?_)
  · refine lv_iconst (v := nI 0) hx hb dM_isVariable_16 (by decide) ?_
    exact w_retz C hE (Or.inl rfl) (⟨by simp [zb, isVn, c1], rfl⟩) dM_isVariable_17
  · refine lv_iload_n hx hb dM_isVariable_4 rfl (lv_at hl 1 rfl) ?_
    refine lv_aload_n hx hb dM_isVariable_5 rfl (lv_at hl 0 rfl) ?_
    refine w_get C hk hE (K := R_M) (T := F_M) (N := 17) (ci := 6) in_M 0 (Nat.le_of_ble_eq_true rfl) rfl rfl 0 (by decide) tw_581 rfl rfl dM_isVariable_6 ?_
    refine w_top (y := nI V9) (hV) ?_
    refine lv_icmp_ge (tgt := 16) hx hb dM_isVariable_9 (by decide) (fun c2 => ?_) (fun c2 => ?_)
    · refine lv_iconst (v := nI 0) hx hb dM_isVariable_16 (by decide) ?_
      exact w_retz C hE (Or.inl rfl) (⟨by simp [zb, isVn, c1, c2], rfl⟩) dM_isVariable_17
    · refine lv_iconst (v := nI 1) hx hb dM_isVariable_12 (by decide) ?_
      refine lv_goto (tgt := 17) hx hb dM_isVariable_13 (by decide) ?_
      exact w_retz C hE (Or.inr rfl) (⟨by simp [zb, isVn, c1, c2], rfl⟩) dM_isVariable_17
set_option maxHeartbeats 4000000 in
set_option maxRecDepth 100000 in
theorem c_M_isToken (l : Launch) (D : va_G) (cs : Nat → ClassId) (ad : Nat → Nat) (σ : Mem) (T9 : Nat) (x : Int32) (hT : σ 0 1 = nI T9) (hT6 : T9 ≤ 6) : MetI l (wM D cs ad) cs yM_isToken bM_isToken 2 (some .boolean) 0 0 [.ref (ad 0), .int x] σ (fun r τ => r = zb (isTn T9 x) ∧ τ = σ) := by
  refine MetI.start (by decide) (Nat.le_of_ble_eq_true rfl) ?_
  intro p e s m below meth c A ls C hk hA hE hl
  obtain ⟨hx, hb, hml, hown, hts, hr, hlocks⟩ := id C
  have hl : lv_has ls 2 [(0, .ref (ad 0)), (1, .int x)] := hl
  refine lv_iload_n hx hb dM_isToken_0 rfl (lv_at hl 1 rfl) ?_
  refine lv_bipush (v := nI 100) hx hb dM_isToken_1 (by decide) ?_
  refine lv_icmp_lt (tgt := 21) hx hb dM_isToken_3 (by decide) (fun c1 => ?_) (fun c1 => ?_)
  · refine lv_iconst (v := nI 0) hx hb dM_isToken_21 (by decide) ?_
    exact w_retz C hE (Or.inl rfl) (⟨by simp [zb, isTn, c1], rfl⟩) dM_isToken_22
  · refine lv_iload_n hx hb dM_isToken_6 rfl (lv_at hl 1 rfl) ?_
    refine lv_bipush (v := nI 100) hx hb dM_isToken_7 (by decide) ?_
    refine lv_aload_n hx hb dM_isToken_9 rfl (lv_at hl 0 rfl) ?_
    refine w_get C hk hE (K := R_M) (T := F_M) (N := 17) (ci := 6) in_M 0 (Nat.le_of_ble_eq_true rfl) rfl rfl 1 (by decide) tw_582 rfl rfl dM_isToken_10 ?_
    refine w_top (y := nI T9) (hT) ?_
    refine lv_iadd hx hb dM_isToken_13 ?_
    refine w_top (y := nI (100 + T9)) (by first | exact nI_add _ _ | simp only [nI_add, Nat.add_assoc, Nat.add_zero, Nat.zero_add]) ?_
    refine lv_icmp_ge (tgt := 21) hx hb dM_isToken_14 (by decide) (fun c2 => ?_) (fun c2 => ?_)
    · refine lv_iconst (v := nI 0) hx hb dM_isToken_21 (by decide) ?_
      exact w_retz C hE (Or.inl rfl) (⟨by simp [zb, isTn, c1, c2], rfl⟩) dM_isToken_22
    · refine lv_iconst (v := nI 1) hx hb dM_isToken_17 (by decide) ?_
      refine lv_goto (tgt := 22) hx hb dM_isToken_18 (by decide) ?_
      exact w_retz C hE (Or.inr rfl) (⟨by simp [zb, isTn, c1, c2], rfl⟩) dM_isToken_22
set_option maxHeartbeats 4000000 in
set_option maxRecDepth 100000 in
theorem c_M_throwsBy (l : Launch) (D : va_G) (cs : Nat → ClassId) (ad : Nat → Nat) (σ : Mem) (x : Nat) (hx9 : x < 3) : MetI l (wM D cs ad) cs yM_throwsBy bM_throwsBy 2 (some .boolean) 0 0 [.ref (ad 0), .int (nI x)] σ (fun r τ => r = zb (decide (0 < x)) ∧ τ = mset σ 0 2 (nI x)) := by
  refine MetI.start (by decide) (Nat.le_of_ble_eq_true rfl) ?_
  intro p e s m below meth c A ls C hk hA hE hl
  obtain ⟨hx, hb, hml, hown, hts, hr, hlocks⟩ := id C
  have hl : lv_has ls 2 [(0, .ref (ad 0)), (1, .int (nI x))] := hl
  refine lv_aload_n hx hb dM_throwsBy_0 rfl (lv_at hl 0 rfl) ?_
  refine lv_iload_n hx hb dM_throwsBy_1 rfl (lv_at hl 1 rfl) ?_
  refine w_put C hk hE (K := R_M) (T := F_M) (N := 17) (ci := 6) in_M ft_M_ok fn_M 0 (Nat.le_of_ble_eq_true rfl) rfl rfl 2 (by decide) tw_583 rfl rfl (rfl) (rfl) (Nat.le_of_ble_eq_true rfl) rfl dM_throwsBy_2 (fun H locs hE => ?_)
  refine lv_iload_n hx hb dM_throwsBy_5 rfl (lv_at hl 1 rfl) ?_
  refine lv_if_le (tgt := 13) hx hb dM_throwsBy_6 (by decide) (fun c1 => ?_) (fun c1 => ?_)
  · have c1 := w_le0 (by omega) c1
    refine lv_iconst (v := nI 0) hx hb dM_throwsBy_13 (by decide) ?_
    exact w_retz C hE (Or.inl rfl) (⟨by simp [zb, c1], rfl⟩) dM_throwsBy_14
  · have c1 := w_nle0 (by omega) c1
    refine lv_iconst (v := nI 1) hx hb dM_throwsBy_9 (by decide) ?_
    refine lv_goto (tgt := 14) hx hb dM_throwsBy_10 (by decide) ?_
    exact w_retz C hE (Or.inr rfl) (⟨by simp [zb, c1], rfl⟩) dM_throwsBy_14
set_option maxHeartbeats 4000000 in
set_option maxRecDepth 100000 in
theorem c_M_put (l : Launch) (D : va_G) (cs : Nat → ClassId) (ad : Nat → Nat) (σ : Mem) (k p9 d9 o9 : Nat) (hk9 : k < 9) (hp8 : p9 < 8) (hd5 : d9 < 5) (ho9 : o9 < 9) : MetV l (wM D cs ad) cs yM_put bM_put 6 0 0 [.ref (ad 0), .int (nI k), .int (nI p9), .int (nI d9), .int (nI o9)] σ (fun τ => τ = mhc σ (putH (σ 5, σ 0 10) (ix k p9 d9 o9))) := by
  refine MetV.start (by decide) (Nat.le_of_ble_eq_true rfl) ?_
  intro p e s m below meth c A ls C hk hA hE hl
  obtain ⟨hx, hb, hml, hown, hts, hr, hlocks⟩ := id C
  have hl : lv_has ls 6 [(0, .ref (ad 0)), (1, .int (nI k)), (2, .int (nI p9)), (3, .int (nI d9)), (4, .int (nI o9))] := hl
  have hix := ix_lt hk9 hp8 hd5 ho9
  refine lv_sipush (v := nI 360) hx hb dM_put_0 (by decide) ?_
  refine lv_iload_n hx hb dM_put_3 rfl (lv_at hl 1 rfl) ?_
  refine lv_imul hx hb dM_put_4 ?_
  refine w_top (y := nI (360 * k)) (by exact pk_mul _ _) ?_
  refine lv_bipush (v := nI 45) hx hb dM_put_5 (by decide) ?_
  refine lv_iload_n hx hb dM_put_7 rfl (lv_at hl 2 rfl) ?_
  refine lv_imul hx hb dM_put_8 ?_
  refine w_top (y := nI (45 * p9)) (by exact pk_mul _ _) ?_
  refine lv_iadd hx hb dM_put_9 ?_
  refine w_top (y := nI ((360 * k) + (45 * p9))) (by first | exact nI_add _ _ | simp only [nI_add, Nat.add_assoc, Nat.add_zero, Nat.zero_add]) ?_
  refine lv_bipush (v := nI 9) hx hb dM_put_10 (by decide) ?_
  refine lv_iload_n hx hb dM_put_12 rfl (lv_at hl 3 rfl) ?_
  refine lv_imul hx hb dM_put_13 ?_
  refine w_top (y := nI (9 * d9)) (by exact pk_mul _ _) ?_
  refine lv_iadd hx hb dM_put_14 ?_
  refine w_top (y := nI (((360 * k) + (45 * p9)) + (9 * d9))) (by first | exact nI_add _ _ | simp only [nI_add, Nat.add_assoc, Nat.add_zero, Nat.zero_add]) ?_
  refine lv_iload hx hb dM_put_15 (lv_at hl 4 rfl) ?_
  refine lv_iadd hx hb dM_put_17 ?_
  refine w_top (y := nI ((((360 * k) + (45 * p9)) + (9 * d9)) + o9)) (by first | exact nI_add _ _ | simp only [nI_add, Nat.add_assoc, Nat.add_zero, Nat.zero_add]) ?_
  refine w_top (y := nI (ix k p9 d9 o9)) (by unfold ix; first | rfl | (congr 1; omega)) ?_
  refine lv_istore (lv' := [(5, .int (nI (ix k p9 d9 o9))), (0, .ref (ad 0)), (1, .int (nI k)), (2, .int (nI p9)), (3, .int (nI d9)), (4, .int (nI o9))]) hx hb dM_put_18 hl (by decide) rfl (fun ls hl => ?_)
  refine lv_aload_n hx hb dM_put_20 rfl (lv_at hl 1 rfl) ?_
  refine lv_aload_n hx hb dM_put_21 rfl (lv_at hl 1 rfl) ?_
  refine w_get C hk hE (K := R_M) (T := F_M) (N := 17) (ci := 6) in_M 0 (Nat.le_of_ble_eq_true rfl) rfl rfl 10 (by decide) tw_591 rfl rfl dM_put_22 ?_
  refine lv_if_ne (tgt := 38) hx hb dM_put_25 (by decide) (fun c1 => ?_) (fun c1 => ?_)
  · refine lv_iconst (v := nI 1) hx hb dM_put_38 (by decide) ?_
    refine lv_goto (tgt := 43) hx hb dM_put_39 (by decide) ?_
    refine w_put C hk hE (K := R_M) (T := F_M) (N := 17) (ci := 6) in_M ft_M_ok fn_M 0 (Nat.le_of_ble_eq_true rfl) rfl rfl 10 (by decide) tw_591 rfl rfl (rfl) (rfl) (Nat.le_of_ble_eq_true rfl) rfl dM_put_43 (fun H locs hE => ?_)
    refine lv_aload_n hx hb dM_put_46 rfl (lv_at hl 1 rfl) ?_
    refine w_get C hk hE (K := R_M) (T := F_M) (N := 17) (ci := 6) in_M 0 (Nat.le_of_ble_eq_true rfl) rfl rfl 9 (by decide) tw_590 rfl rfl dM_put_47 ?_
    refine lv_iload hx hb dM_put_50 (lv_at hl 0 rfl) ?_
    refine lv_iconst (v := nI 1) hx hb dM_put_52 (by decide) ?_
    refine w_zast C hk hE 5 (Nat.le_of_ble_eq_true rfl) (n := 3240) (fun _ => rfl) (by omega) (by decide) (by first | exact Or.inl rfl | exact Or.inr rfl) dM_put_53 (fun H locs hE => ?_)
    exact w_retv C hE (by simp only [putH, mhc, c1, decide_true, decide_false, Bool.not_true, Bool.not_false, Bool.or_true, Bool.true_or, Bool.or_false, Bool.false_or, zb_t, zb_f]; rw [mset_def, mset_n (by decide)]) dM_put_54
  · refine lv_aload_n hx hb dM_put_28 rfl (lv_at hl 1 rfl) ?_
    refine w_get C hk hE (K := R_M) (T := F_M) (N := 17) (ci := 6) in_M 0 (Nat.le_of_ble_eq_true rfl) rfl rfl 9 (by decide) tw_590 rfl rfl dM_put_29 ?_
    refine lv_iload hx hb dM_put_32 (lv_at hl 0 rfl) ?_
    refine w_zald C hk hE 5 (by exact Nat.le_of_ble_eq_true rfl) (n := 3240) rfl (by omega) (by first | decide | omega) dM_put_34 ?_
    refine lv_if_ne (tgt := 42) hx hb dM_put_35 (by decide) (fun c2 => ?_) (fun c2 => ?_)
    · refine lv_iconst (v := nI 0) hx hb dM_put_42 (by decide) ?_
      refine w_put C hk hE (K := R_M) (T := F_M) (N := 17) (ci := 6) in_M ft_M_ok fn_M 0 (Nat.le_of_ble_eq_true rfl) rfl rfl 10 (by decide) tw_591 rfl rfl (rfl) (rfl) (Nat.le_of_ble_eq_true rfl) rfl dM_put_43 (fun H locs hE => ?_)
      refine lv_aload_n hx hb dM_put_46 rfl (lv_at hl 1 rfl) ?_
      refine w_get C hk hE (K := R_M) (T := F_M) (N := 17) (ci := 6) in_M 0 (Nat.le_of_ble_eq_true rfl) rfl rfl 9 (by decide) tw_590 rfl rfl dM_put_47 ?_
      refine lv_iload hx hb dM_put_50 (lv_at hl 0 rfl) ?_
      refine lv_iconst (v := nI 1) hx hb dM_put_52 (by decide) ?_
      refine w_zast C hk hE 5 (Nat.le_of_ble_eq_true rfl) (n := 3240) (fun _ => rfl) (by omega) (by decide) (by first | exact Or.inl rfl | exact Or.inr rfl) dM_put_53 (fun H locs hE => ?_)
      exact w_retv C hE (by simp only [putH, mhc, c1, c2, decide_true, decide_false, Bool.not_true, Bool.not_false, Bool.or_true, Bool.true_or, Bool.or_false, Bool.false_or, zb_t, zb_f]; rw [mset_def, mset_n (by decide)]) dM_put_54
    · refine lv_iconst (v := nI 1) hx hb dM_put_38 (by decide) ?_
      refine lv_goto (tgt := 43) hx hb dM_put_39 (by decide) ?_
      refine w_put C hk hE (K := R_M) (T := F_M) (N := 17) (ci := 6) in_M ft_M_ok fn_M 0 (Nat.le_of_ble_eq_true rfl) rfl rfl 10 (by decide) tw_591 rfl rfl (rfl) (rfl) (Nat.le_of_ble_eq_true rfl) rfl dM_put_43 (fun H locs hE => ?_)
      refine lv_aload_n hx hb dM_put_46 rfl (lv_at hl 1 rfl) ?_
      refine w_get C hk hE (K := R_M) (T := F_M) (N := 17) (ci := 6) in_M 0 (Nat.le_of_ble_eq_true rfl) rfl rfl 9 (by decide) tw_590 rfl rfl dM_put_47 ?_
      refine lv_iload hx hb dM_put_50 (lv_at hl 0 rfl) ?_
      refine lv_iconst (v := nI 1) hx hb dM_put_52 (by decide) ?_
      refine w_zast C hk hE 5 (Nat.le_of_ble_eq_true rfl) (n := 3240) (fun _ => rfl) (by omega) (by decide) (by first | exact Or.inl rfl | exact Or.inr rfl) dM_put_53 (fun H locs hE => ?_)
      exact w_retv C hE (by simp only [putH, mhc, c1, c2, decide_true, decide_false, Bool.not_true, Bool.not_false, Bool.or_true, Bool.true_or, Bool.or_false, Bool.false_or, zb_t, zb_f]; rw [mset_def, mset_n (by decide)]) dM_put_54
set_option maxHeartbeats 4000000 in
set_option maxRecDepth 100000 in
theorem c_M_isIn (l : Launch) (D : va_G) (cs : Nat → ClassId) (ad : Nat → Nat) (σ : Mem) (k p9 d9 o9 : Nat) (hk9 : k < 9) (hp8 : p9 < 8) (hd5 : d9 < 5) (ho9 : o9 < 9) (hb9 : σ 5 (ix k p9 d9 o9) = 0 ∨ σ 5 (ix k p9 d9 o9) = 1) : MetI l (wM D cs ad) cs yM_isIn bM_isIn 5 (some .boolean) 0 0 [.ref (ad 0), .int (nI k), .int (nI p9), .int (nI d9), .int (nI o9)] σ (fun r τ => r = σ 5 (ix k p9 d9 o9) ∧ τ = σ) := by
  refine MetI.start (by decide) (Nat.le_of_ble_eq_true rfl) ?_
  intro p e s m below meth c A ls C hk hA hE hl
  obtain ⟨hx, hb, hml, hown, hts, hr, hlocks⟩ := id C
  have hl : lv_has ls 5 [(0, .ref (ad 0)), (1, .int (nI k)), (2, .int (nI p9)), (3, .int (nI d9)), (4, .int (nI o9))] := hl
  have hix := ix_lt hk9 hp8 hd5 ho9
  refine lv_aload_n hx hb dM_isIn_0 rfl (lv_at hl 0 rfl) ?_
  refine w_get C hk hE (K := R_M) (T := F_M) (N := 17) (ci := 6) in_M 0 (Nat.le_of_ble_eq_true rfl) rfl rfl 9 (by decide) tw_590 rfl rfl dM_isIn_1 ?_
  refine lv_sipush (v := nI 360) hx hb dM_isIn_4 (by decide) ?_
  refine lv_iload_n hx hb dM_isIn_7 rfl (lv_at hl 1 rfl) ?_
  refine lv_imul hx hb dM_isIn_8 ?_
  refine w_top (y := nI (360 * k)) (by exact pk_mul _ _) ?_
  refine lv_bipush (v := nI 45) hx hb dM_isIn_9 (by decide) ?_
  refine lv_iload_n hx hb dM_isIn_11 rfl (lv_at hl 2 rfl) ?_
  refine lv_imul hx hb dM_isIn_12 ?_
  refine w_top (y := nI (45 * p9)) (by exact pk_mul _ _) ?_
  refine lv_iadd hx hb dM_isIn_13 ?_
  refine w_top (y := nI ((360 * k) + (45 * p9))) (by first | exact nI_add _ _ | simp only [nI_add, Nat.add_assoc, Nat.add_zero, Nat.zero_add]) ?_
  refine lv_bipush (v := nI 9) hx hb dM_isIn_14 (by decide) ?_
  refine lv_iload_n hx hb dM_isIn_16 rfl (lv_at hl 3 rfl) ?_
  refine lv_imul hx hb dM_isIn_17 ?_
  refine w_top (y := nI (9 * d9)) (by exact pk_mul _ _) ?_
  refine lv_iadd hx hb dM_isIn_18 ?_
  refine w_top (y := nI (((360 * k) + (45 * p9)) + (9 * d9))) (by first | exact nI_add _ _ | simp only [nI_add, Nat.add_assoc, Nat.add_zero, Nat.zero_add]) ?_
  refine lv_iload hx hb dM_isIn_19 (lv_at hl 4 rfl) ?_
  refine lv_iadd hx hb dM_isIn_21 ?_
  refine w_top (y := nI ((((360 * k) + (45 * p9)) + (9 * d9)) + o9)) (by first | exact nI_add _ _ | simp only [nI_add, Nat.add_assoc, Nat.add_zero, Nat.zero_add]) ?_
  refine w_top (y := nI (ix k p9 d9 o9)) (by unfold ix; first | rfl | (congr 1; omega)) ?_
  refine w_zald C hk hE 5 (by exact Nat.le_of_ble_eq_true rfl) (n := 3240) rfl (by omega) (by first | decide | omega) dM_isIn_22 ?_
  exact w_retz C hE hb9 (⟨rfl, rfl⟩) dM_isIn_23
set_option maxHeartbeats 4000000 in
set_option maxRecDepth 100000 in
theorem c_M_behind (l : Launch) (D : va_G) (cs : Nat → ClassId) (ad : Nat → Nat) (σ : Mem) (P p9 d9 : Nat) (hg : mG σ P) (hp : p9 < P) (hd : d9 < 2 ^ 30) : MetI l (wM D cs ad) cs yM_behind bM_behind 3 (some .int) 0 0 [.ref (ad 0), .int (nI p9), .int (nI d9)] σ (fun r τ => r = bhF σ p9 d9 ∧ τ = σ) := by
  refine MetI.start (by decide) (Nat.le_of_ble_eq_true rfl) ?_
  intro p e s m below meth c A ls C hk hA hE hl
  obtain ⟨hx, hb, hml, hown, hts, hr, hlocks⟩ := id C
  have hl : lv_has ls 3 [(0, .ref (ad 0)), (1, .int (nI p9)), (2, .int (nI d9))] := hl
  have hP8 := hg.1
  obtain ⟨h1, h1b, h2, h2b, h3⟩ := hg.2.2 p9 hp
  refine lv_iload_n hx hb dM_behind_0 rfl (lv_at hl 2 rfl) ?_
  refine lv_aload_n hx hb dM_behind_1 rfl (lv_at hl 0 rfl) ?_
  refine w_get C hk hE (K := R_M) (T := F_M) (N := 17) (ci := 6) in_M 0 (Nat.le_of_ble_eq_true rfl) rfl rfl 5 (by decide) tw_586 rfl rfl dM_behind_2 ?_
  refine lv_iload_n hx hb dM_behind_5 rfl (lv_at hl 1 rfl) ?_
  refine w_iald C hk hE 2 (by exact Nat.le_of_ble_eq_true rfl) (n := 8) rfl (by omega) (by first | decide | omega) dM_behind_6 ?_
  refine w_top (y := nI (mn σ p9)) (h2) ?_
  refine lv_icmp_ge (tgt := 23) hx hb dM_behind_7 (by decide) (fun c1 => ?_) (fun c1 => ?_)
  · have c1 : (mn σ p9) ≤ d9 := (nI_leI (by omega) (by omega)).mp c1
    refine lv_iconst (v := (-1)) hx hb dM_behind_23 (by decide) ?_
    exact w_reti C hE (⟨by rw [bhF]; first | rw [if_pos (by omega)] | rw [if_neg (by omega)], rfl⟩) dM_behind_24
  · have c1 : ¬ ((mn σ p9) ≤ d9) := fun h => c1 ((nI_leI (by omega) (by omega)).mpr h)
    refine lv_aload_n hx hb dM_behind_10 rfl (lv_at hl 0 rfl) ?_
    refine w_get C hk hE (K := R_M) (T := F_M) (N := 17) (ci := 6) in_M 0 (Nat.le_of_ble_eq_true rfl) rfl rfl 6 (by decide) tw_587 rfl rfl dM_behind_11 ?_
    refine lv_iconst (v := nI 4) hx hb dM_behind_14 (by decide) ?_
    refine lv_iload_n hx hb dM_behind_15 rfl (lv_at hl 1 rfl) ?_
    refine lv_imul hx hb dM_behind_16 ?_
    refine w_top (y := nI (4 * p9)) (by exact pk_mul _ _) ?_
    refine lv_iload_n hx hb dM_behind_17 rfl (lv_at hl 2 rfl) ?_
    refine lv_iadd hx hb dM_behind_18 ?_
    refine w_top (y := nI ((4 * p9) + d9)) (by first | exact nI_add _ _ | simp only [nI_add, Nat.add_assoc, Nat.add_zero, Nat.zero_add]) ?_
    refine w_iald C hk hE 3 (by exact Nat.le_of_ble_eq_true rfl) (n := 32) rfl (by omega) (by first | decide | omega) dM_behind_19 ?_
    refine lv_goto (tgt := 24) hx hb dM_behind_20 (by decide) ?_
    exact w_reti C hE (⟨by rw [bhF]; first | rw [if_pos (by omega)] | rw [if_neg (by omega)], rfl⟩) dM_behind_24
set_option maxHeartbeats 4000000 in
set_option maxRecDepth 100000 in
theorem lp_M_sizeOf {p : Program} {l : Launch} {e : Env} {s : State} {m : MethodId} {below : List Frame} {meth : Method} {c : Code} {D : va_G} {cs : Nat → ClassId} {ad : Nat → Nat} {A : Nat → Prop} {σ : Mem} {k : Nat} (C : bC p s m ([.ref (ad 0), .int (nI k)] : List Value).toArray meth c bM_sizeOf 4 "EarleyChartModel" (some .int)) (hk : wk D cs s) (hA : ∀ q : Nat, s.heap.size ≤ q → A q) (hk9 : k < 9)   :
    ∀ (n : Nat) (i : Nat), (360 - i) < n → (i ≤ 360) → ∀ (H : Heap) (locs : List Loc) (ls : Array Slot), wS (wM D cs ad) A s.heap σ H locs → lv_has ls 4 [(0, .ref (ad 0)), (1, .int (nI k)), (2, .int (nI (cntH (σ 5) (360 * k) i))), (3, .int (nI i))] → W p l e (rmF 0 0) s m ([.ref (ad 0), .int (nI k)] : List Value).toArray below meth c H locs 0 0 (wQi (wM D cs ad) A (fun r τ => r = nI (cntH (σ 5) (360 * k) 360) ∧ τ = σ) s below ([.ref (ad 0), .int (nI k)] : List Value).toArray) (F0 m 4 ls []) := by
  obtain ⟨hx, hb, hml, hown, hts, hr, hlocks⟩ := id C
  intro n
  induction n with
  | zero => intro i h; exact absurd h (Nat.not_lt_zero _)
  | succ n ih =>
    intro i hn hi H locs ls hE hl
    refine lv_iload_n hx hb dM_sizeOf_4 rfl (lv_at hl 3 rfl) ?_
    refine lv_sipush (v := nI 360) hx hb dM_sizeOf_5 (by decide) ?_
    refine lv_icmp_ge (tgt := 40) hx hb dM_sizeOf_8 (by decide) (fun c1 => ?_) (fun c1 => ?_)
    · have c1 : 360 ≤ i := (nI_leI (by omega) (by omega)).mp c1
      refine lv_iload_n hx hb dM_sizeOf_40 rfl (lv_at hl 2 rfl) ?_
      exact w_reti C hE (⟨by rw [show 360 = i by omega], rfl⟩) dM_sizeOf_41
    · have c1 : ¬ (360 ≤ i) := fun h => c1 ((nI_leI (by omega) (by omega)).mpr h)
      refine lv_aload_n hx hb dM_sizeOf_11 rfl (lv_at hl 0 rfl) ?_
      refine w_get C hk hE (K := R_M) (T := F_M) (N := 17) (ci := 6) in_M 0 (Nat.le_of_ble_eq_true rfl) rfl rfl 9 (by decide) tw_590 rfl rfl dM_sizeOf_12 ?_
      refine lv_sipush (v := nI 360) hx hb dM_sizeOf_15 (by decide) ?_
      refine lv_iload_n hx hb dM_sizeOf_18 rfl (lv_at hl 1 rfl) ?_
      refine lv_imul hx hb dM_sizeOf_19 ?_
      refine w_top (y := nI (360 * k)) (by exact pk_mul _ _) ?_
      refine lv_iload_n hx hb dM_sizeOf_20 rfl (lv_at hl 3 rfl) ?_
      refine lv_iadd hx hb dM_sizeOf_21 ?_
      refine w_top (y := nI ((360 * k) + i)) (by first | exact nI_add _ _ | simp only [nI_add, Nat.add_assoc, Nat.add_zero, Nat.zero_add]) ?_
      refine w_zald C hk hE 5 (by exact Nat.le_of_ble_eq_true rfl) (n := 3240) rfl (by omega) (by first | decide | omega) dM_sizeOf_22 ?_
      refine lv_if_eq (tgt := 32) hx hb dM_sizeOf_23 (by decide) (fun c2 => ?_) (fun c2 => ?_)
      · refine lv_iload_n hx hb dM_sizeOf_32 rfl (lv_at hl 2 rfl) ?_
        refine lv_istore_n (lv' := [(2, .int (nI (cntH (σ 5) (360 * k) i))), (0, .ref (ad 0)), (1, .int (nI k)), (3, .int (nI i))]) hx hb dM_sizeOf_33 rfl hl (by decide) rfl (fun ls hl => ?_)
        refine lv_iinc (v := nI (i + 1)) (lv' := [(3, .int (nI (i + 1))), (2, .int (nI (cntH (σ 5) (360 * k) i))), (0, .ref (ad 0)), (1, .int (nI k))]) hx hb dM_sizeOf_34 hl (k := 3) rfl (by exact nI_1 _) (by decide) rfl (fun ls hl => ?_)
        refine lv_goto (tgt := 4) hx hb dM_sizeOf_37 (by decide) ?_
        have ev3 : (nI (cntH (σ 5) (360 * k) i) : Int32) = nI (cntH (σ 5) (360 * k) (i + 1)) := by simp only [cntH, c2, if_true, if_false]
        rw [ev3] at hl
        exact ih (i + 1) (by omega) (by omega) _ _ ls hE (lv_sub hl [2, 3, 1, 0] rfl)
      · refine lv_iload_n hx hb dM_sizeOf_26 rfl (lv_at hl 2 rfl) ?_
        refine lv_iconst (v := nI 1) hx hb dM_sizeOf_27 (by decide) ?_
        refine lv_iadd hx hb dM_sizeOf_28 ?_
        refine w_top (y := nI ((cntH (σ 5) (360 * k) i) + 1)) (by first | exact nI_add _ _ | simp only [nI_add, Nat.add_assoc, Nat.add_zero, Nat.zero_add]) ?_
        refine lv_goto (tgt := 33) hx hb dM_sizeOf_29 (by decide) ?_
        refine lv_istore_n (lv' := [(2, .int (nI ((cntH (σ 5) (360 * k) i) + 1))), (0, .ref (ad 0)), (1, .int (nI k)), (3, .int (nI i))]) hx hb dM_sizeOf_33 rfl hl (by decide) rfl (fun ls hl => ?_)
        refine lv_iinc (v := nI (i + 1)) (lv' := [(3, .int (nI (i + 1))), (2, .int (nI ((cntH (σ 5) (360 * k) i) + 1))), (0, .ref (ad 0)), (1, .int (nI k))]) hx hb dM_sizeOf_34 hl (k := 3) rfl (by exact nI_1 _) (by decide) rfl (fun ls hl => ?_)
        refine lv_goto (tgt := 4) hx hb dM_sizeOf_37 (by decide) ?_
        have ev4 : (nI ((cntH (σ 5) (360 * k) i) + 1) : Int32) = nI (cntH (σ 5) (360 * k) (i + 1)) := by simp only [cntH, c2, if_true, if_false]
        rw [ev4] at hl
        exact ih (i + 1) (by omega) (by omega) _ _ ls hE (lv_sub hl [2, 3, 1, 0] rfl)
set_option maxHeartbeats 4000000 in
set_option maxRecDepth 100000 in
theorem c_M_sizeOf (l : Launch) (D : va_G) (cs : Nat → ClassId) (ad : Nat → Nat) (σ : Mem) (k : Nat) (hk9 : k < 9) : MetI l (wM D cs ad) cs yM_sizeOf bM_sizeOf 4 (some .int) 0 0 [.ref (ad 0), .int (nI k)] σ (fun r τ => r = nI (cntH (σ 5) (360 * k) 360) ∧ τ = σ) := by
  refine MetI.start (by decide) (Nat.le_of_ble_eq_true rfl) ?_
  intro p e s m below meth c A ls C hk hA hE hl
  obtain ⟨hx, hb, hml, hown, hts, hr, hlocks⟩ := id C
  have hl : lv_has ls 4 [(0, .ref (ad 0)), (1, .int (nI k))] := hl
  refine lv_iconst (v := nI 0) hx hb dM_sizeOf_0 (by decide) ?_
  refine lv_istore_n (lv' := [(2, .int (nI 0)), (0, .ref (ad 0)), (1, .int (nI k))]) hx hb dM_sizeOf_1 rfl hl (by decide) rfl (fun ls hl => ?_)
  refine lv_iconst (v := nI 0) hx hb dM_sizeOf_2 (by decide) ?_
  refine lv_istore_n (lv' := [(3, .int (nI 0)), (2, .int (nI 0)), (0, .ref (ad 0)), (1, .int (nI k))]) hx hb dM_sizeOf_3 rfl hl (by decide) rfl (fun ls hl => ?_)
  have ev1 : (nI 0 : Int32) = nI (cntH (σ 5) (360 * k) 0) := by rfl
  rw [ev1] at hl
  exact lp_M_sizeOf C hk hA hk9 _ 0 (Nat.lt_succ_self _) (by decide) _ _ ls hE (lv_sub hl [2, 3, 1, 0] rfl)
set_option maxHeartbeats 4000000 in
set_option maxRecDepth 100000 in
theorem lp_M_allLengths {p : Program} {l : Launch} {e : Env} {s : State} {m : MethodId} {below : List Frame} {meth : Method} {c : Code} {D : va_G} {cs : Nat → ClassId} {ad : Nat → Nat} {A : Nat → Prop} {σ : Mem} {P : Nat} (C : bC p s m ([.ref (ad 0)] : List Value).toArray meth c bM_allLengths 3 "EarleyChartModel" (some .int)) (hk : wk D cs s) (hA : ∀ q : Nat, s.heap.size ≤ q → A q) (hg : mG σ P)   :
    ∀ (n : Nat) (i : Nat), (P - i) < n → (i ≤ P) → ∀ (H : Heap) (locs : List Loc) (ls : Array Slot), wS (wM D cs ad) A s.heap σ H locs → lv_has ls 3 [(0, .ref (ad 0)), (1, .int (nI (allN (mn σ) i))), (2, .int (nI i))] → W p l e (rmF 0 0) s m ([.ref (ad 0)] : List Value).toArray below meth c H locs 0 0 (wQi (wM D cs ad) A (fun r τ => r = nI (allN (mn σ) P) ∧ τ = σ) s below ([.ref (ad 0)] : List Value).toArray) (F0 m 4 ls []) := by
  obtain ⟨hx, hb, hml, hown, hts, hr, hlocks⟩ := id C
  have hP8 := hg.1
  intro n
  induction n with
  | zero => intro i h; exact absurd h (Nat.not_lt_zero _)
  | succ n ih =>
    intro i hn hi H locs ls hE hl
    refine lv_iload_n hx hb dM_allLengths_4 rfl (lv_at hl 2 rfl) ?_
    refine lv_aload_n hx hb dM_allLengths_5 rfl (lv_at hl 0 rfl) ?_
    refine w_get C hk hE (K := R_M) (T := F_M) (N := 17) (ci := 6) in_M 0 (Nat.le_of_ble_eq_true rfl) rfl rfl 3 (by decide) tw_584 rfl rfl dM_allLengths_6 ?_
    refine w_top (y := nI P) (hg.2.1) ?_
    refine lv_icmp_ge (tgt := 27) hx hb dM_allLengths_9 (by decide) (fun c1 => ?_) (fun c1 => ?_)
    · have c1 : P ≤ i := (nI_leI (by omega) (by omega)).mp c1
      refine lv_iload_n hx hb dM_allLengths_27 rfl (lv_at hl 1 rfl) ?_
      exact w_reti C hE (⟨by rw [show P = i by omega], rfl⟩) dM_allLengths_28
    · have c1 : ¬ (P ≤ i) := fun h => c1 ((nI_leI (by omega) (by omega)).mpr h)
      refine lv_iload_n hx hb dM_allLengths_12 rfl (lv_at hl 1 rfl) ?_
      refine lv_aload_n hx hb dM_allLengths_13 rfl (lv_at hl 0 rfl) ?_
      refine w_get C hk hE (K := R_M) (T := F_M) (N := 17) (ci := 6) in_M 0 (Nat.le_of_ble_eq_true rfl) rfl rfl 5 (by decide) tw_586 rfl rfl dM_allLengths_14 ?_
      refine lv_iload_n hx hb dM_allLengths_17 rfl (lv_at hl 2 rfl) ?_
      refine w_iald C hk hE 2 (by exact Nat.le_of_ble_eq_true rfl) (n := 8) rfl (by omega) (by first | decide | omega) dM_allLengths_18 ?_
      refine w_top (y := nI (mn σ i)) ((hg.2.2 i (by omega)).2.2.1) ?_
      refine lv_iadd hx hb dM_allLengths_19 ?_
      refine w_top (y := nI ((allN (mn σ) i) + (mn σ i))) (by first | exact nI_add _ _ | simp only [nI_add, Nat.add_assoc, Nat.add_zero, Nat.zero_add]) ?_
      refine lv_istore_n (lv' := [(1, .int (nI ((allN (mn σ) i) + (mn σ i)))), (0, .ref (ad 0)), (2, .int (nI i))]) hx hb dM_allLengths_20 rfl hl (by decide) rfl (fun ls hl => ?_)
      refine lv_iinc (v := nI (i + 1)) (lv' := [(2, .int (nI (i + 1))), (1, .int (nI ((allN (mn σ) i) + (mn σ i)))), (0, .ref (ad 0))]) hx hb dM_allLengths_21 hl (k := 2) rfl (by exact nI_1 _) (by decide) rfl (fun ls hl => ?_)
      refine lv_goto (tgt := 4) hx hb dM_allLengths_24 (by decide) ?_
      have ev2 : (nI ((allN (mn σ) i) + (mn σ i)) : Int32) = nI (allN (mn σ) (i + 1)) := by rfl
      rw [ev2] at hl
      exact ih (i + 1) (by omega) (by omega) _ _ ls hE (lv_sub hl [2, 1, 0] rfl)
set_option maxHeartbeats 4000000 in
set_option maxRecDepth 100000 in
theorem c_M_allLengths (l : Launch) (D : va_G) (cs : Nat → ClassId) (ad : Nat → Nat) (σ : Mem) (P : Nat) (hg : mG σ P) : MetI l (wM D cs ad) cs yM_allLengths bM_allLengths 3 (some .int) 0 0 [.ref (ad 0)] σ (fun r τ => r = nI (allN (mn σ) P) ∧ τ = σ) := by
  refine MetI.start (by decide) (Nat.le_of_ble_eq_true rfl) ?_
  intro p e s m below meth c A ls C hk hA hE hl
  obtain ⟨hx, hb, hml, hown, hts, hr, hlocks⟩ := id C
  have hl : lv_has ls 3 [(0, .ref (ad 0))] := hl
  have hP8 := hg.1
  refine lv_iconst (v := nI 0) hx hb dM_allLengths_0 (by decide) ?_
  refine lv_istore_n (lv' := [(1, .int (nI 0)), (0, .ref (ad 0))]) hx hb dM_allLengths_1 rfl hl (by decide) rfl (fun ls hl => ?_)
  refine lv_iconst (v := nI 0) hx hb dM_allLengths_2 (by decide) ?_
  refine lv_istore_n (lv' := [(2, .int (nI 0)), (1, .int (nI 0)), (0, .ref (ad 0))]) hx hb dM_allLengths_3 rfl hl (by decide) rfl (fun ls hl => ?_)
  have ev1 : (nI 0 : Int32) = nI (allN (mn σ) 0) := by rfl
  rw [ev1] at hl
  exact lp_M_allLengths C hk hA hg _ 0 (Nat.lt_succ_self _) (Nat.zero_le _) _ _ ls hE (lv_sub hl [2, 1, 0] rfl)
set_option maxHeartbeats 4000000 in
set_option maxRecDepth 100000 in
theorem c_M_witCount (l : Launch) (D : va_G) (cs : Nat → ClassId) (ad : Nat → Nat) (σ : Mem)  : MetI l (wM D cs ad) cs yM_witCount bM_witCount 1 (some .int) 0 0 [.ref (ad 0)] σ (fun r τ => r = σ 0 14 ∧ τ = mset σ 0 2 (nI 0)) := by
  refine MetI.start (by decide) (Nat.le_of_ble_eq_true rfl) ?_
  intro p e s m below meth c A ls C hk hA hE hl
  obtain ⟨hx, hb, hml, hown, hts, hr, hlocks⟩ := id C
  have hl : lv_has ls 1 [(0, .ref (ad 0))] := hl
  refine lv_aload_n hx hb dM_witCount_0 rfl (lv_at hl 0 rfl) ?_
  refine lv_iconst (v := nI 0) hx hb dM_witCount_1 (by decide) ?_
  refine w_put C hk hE (K := R_M) (T := F_M) (N := 17) (ci := 6) in_M ft_M_ok fn_M 0 (Nat.le_of_ble_eq_true rfl) rfl rfl 2 (by decide) tw_583 rfl rfl (rfl) (rfl) (Nat.le_of_ble_eq_true rfl) rfl dM_witCount_2 (fun H locs hE => ?_)
  refine lv_aload_n hx hb dM_witCount_5 rfl (lv_at hl 0 rfl) ?_
  refine w_get C hk hE (K := R_M) (T := F_M) (N := 17) (ci := 6) in_M 0 (Nat.le_of_ble_eq_true rfl) rfl rfl 14 (by decide) tw_595 rfl rfl dM_witCount_6 ?_
  refine w_top (y := σ 0 14) (by simp [mset, mrow, upd, mhc]) ?_
  exact w_reti C hE (⟨rfl, rfl⟩) dM_witCount_9
set_option maxHeartbeats 4000000 in
set_option maxRecDepth 100000 in
theorem c_M_fed (l : Launch) (D : va_G) (cs : Nat → ClassId) (ad : Nat → Nat) (σ : Mem)  : MetI l (wM D cs ad) cs yM_fed bM_fed 1 (some .int) 0 0 [.ref (ad 0)] σ (fun r τ => r = σ 0 7 ∧ τ = mset σ 0 2 (nI 0)) := by
  refine MetI.start (by decide) (Nat.le_of_ble_eq_true rfl) ?_
  intro p e s m below meth c A ls C hk hA hE hl
  obtain ⟨hx, hb, hml, hown, hts, hr, hlocks⟩ := id C
  have hl : lv_has ls 1 [(0, .ref (ad 0))] := hl
  refine lv_aload_n hx hb dM_fed_0 rfl (lv_at hl 0 rfl) ?_
  refine lv_iconst (v := nI 0) hx hb dM_fed_1 (by decide) ?_
  refine w_put C hk hE (K := R_M) (T := F_M) (N := 17) (ci := 6) in_M ft_M_ok fn_M 0 (Nat.le_of_ble_eq_true rfl) rfl rfl 2 (by decide) tw_583 rfl rfl (rfl) (rfl) (Nat.le_of_ble_eq_true rfl) rfl dM_fed_2 (fun H locs hE => ?_)
  refine lv_aload_n hx hb dM_fed_5 rfl (lv_at hl 0 rfl) ?_
  refine w_get C hk hE (K := R_M) (T := F_M) (N := 17) (ci := 6) in_M 0 (Nat.le_of_ble_eq_true rfl) rfl rfl 7 (by decide) tw_588 rfl rfl dM_fed_6 ?_
  refine w_top (y := σ 0 7) (by simp [mset, mrow, upd, mhc]) ?_
  exact w_reti C hE (⟨rfl, rfl⟩) dM_fed_9
set_option maxHeartbeats 4000000 in
set_option maxRecDepth 100000 in
theorem c_M_clear (l : Launch) (D : va_G) (cs : Nat → ClassId) (ad : Nat → Nat) (σ : Mem)  : MetI l (wM D cs ad) cs yM_clear bM_clear 2 (some .int) 0 0 [.ref (ad 0)] σ (fun r τ => r = σ 0 7 ∧ τ = mset (mset (mset (mset σ 0 2 (nI 0)) 0 7 (nI 0)) 0 14 (nI 0)) 0 12 (nI 0)) := by
  refine MetI.start (by decide) (Nat.le_of_ble_eq_true rfl) ?_
  intro p e s m below meth c A ls C hk hA hE hl
  obtain ⟨hx, hb, hml, hown, hts, hr, hlocks⟩ := id C
  have hl : lv_has ls 2 [(0, .ref (ad 0))] := hl
  refine lv_aload_n hx hb dM_clear_0 rfl (lv_at hl 0 rfl) ?_
  refine lv_iconst (v := nI 0) hx hb dM_clear_1 (by decide) ?_
  refine w_put C hk hE (K := R_M) (T := F_M) (N := 17) (ci := 6) in_M ft_M_ok fn_M 0 (Nat.le_of_ble_eq_true rfl) rfl rfl 2 (by decide) tw_583 rfl rfl (rfl) (rfl) (Nat.le_of_ble_eq_true rfl) rfl dM_clear_2 (fun H locs hE => ?_)
  refine lv_aload_n hx hb dM_clear_5 rfl (lv_at hl 0 rfl) ?_
  refine w_get C hk hE (K := R_M) (T := F_M) (N := 17) (ci := 6) in_M 0 (Nat.le_of_ble_eq_true rfl) rfl rfl 7 (by decide) tw_588 rfl rfl dM_clear_6 ?_
  refine w_top (y := σ 0 7) (by simp [mset, mrow, upd, mhc]) ?_
  refine lv_istore_n (lv' := [(1, .int (σ 0 7)), (0, .ref (ad 0))]) hx hb dM_clear_9 rfl hl (by decide) rfl (fun ls hl => ?_)
  refine lv_aload_n hx hb dM_clear_10 rfl (lv_at hl 1 rfl) ?_
  refine lv_iconst (v := nI 0) hx hb dM_clear_11 (by decide) ?_
  refine w_put C hk hE (K := R_M) (T := F_M) (N := 17) (ci := 6) in_M ft_M_ok fn_M 0 (Nat.le_of_ble_eq_true rfl) rfl rfl 7 (by decide) tw_588 rfl rfl (rfl) (rfl) (Nat.le_of_ble_eq_true rfl) rfl dM_clear_12 (fun H locs hE => ?_)
  refine lv_aload_n hx hb dM_clear_15 rfl (lv_at hl 1 rfl) ?_
  refine lv_iconst (v := nI 0) hx hb dM_clear_16 (by decide) ?_
  refine w_put C hk hE (K := R_M) (T := F_M) (N := 17) (ci := 6) in_M ft_M_ok fn_M 0 (Nat.le_of_ble_eq_true rfl) rfl rfl 14 (by decide) tw_595 rfl rfl (rfl) (rfl) (Nat.le_of_ble_eq_true rfl) rfl dM_clear_17 (fun H locs hE => ?_)
  refine lv_aload_n hx hb dM_clear_20 rfl (lv_at hl 1 rfl) ?_
  refine lv_iconst (v := nI 0) hx hb dM_clear_21 (by decide) ?_
  refine w_put C hk hE (K := R_M) (T := F_M) (N := 17) (ci := 6) in_M ft_M_ok fn_M 0 (Nat.le_of_ble_eq_true rfl) rfl rfl 12 (by decide) tw_593 rfl rfl (rfl) (rfl) (Nat.le_of_ble_eq_true rfl) rfl dM_clear_22 (fun H locs hE => ?_)
  refine lv_iload_n hx hb dM_clear_25 rfl (lv_at hl 0 rfl) ?_
  exact w_reti C hE (⟨rfl, rfl⟩) dM_clear_26
set_option maxHeartbeats 4000000 in
set_option maxRecDepth 100000 in
theorem c_M_alive (l : Launch) (D : va_G) (cs : Nat → ClassId) (ad : Nat → Nat) (σ : Mem) (n9 : Nat) (hn : σ 0 7 = nI n9) (hn8 : n9 ≤ 8) : MetI l (wM D cs ad) cs yM_alive bM_alive 1 (some .boolean) 1 23 [.ref (ad 0)] σ (fun r τ => r = zb (decide (0 < cntH (σ 5) (360 * n9) 360)) ∧ τ = mset σ 0 2 (nI 0)) := by
  refine MetI.start (by decide) (Nat.le_of_ble_eq_true rfl) ?_
  intro p e s m below meth c A ls C hk hA hE hl
  obtain ⟨hx, hb, hml, hown, hts, hr, hlocks⟩ := id C
  have hl : lv_has ls 1 [(0, .ref (ad 0))] := hl
  refine lv_aload_n hx hb dM_alive_0 rfl (lv_at hl 0 rfl) ?_
  refine lv_iconst (v := nI 0) hx hb dM_alive_1 (by decide) ?_
  refine w_put C hk hE (K := R_M) (T := F_M) (N := 17) (ci := 6) in_M ft_M_ok fn_M 0 (Nat.le_of_ble_eq_true rfl) rfl rfl 2 (by decide) tw_583 rfl rfl (rfl) (rfl) (Nat.le_of_ble_eq_true rfl) rfl dM_alive_2 (fun H locs hE => ?_)
  refine lv_aload_n hx hb dM_alive_5 rfl (lv_at hl 0 rfl) ?_
  refine lv_aload_n hx hb dM_alive_6 rfl (lv_at hl 0 rfl) ?_
  refine w_get C hk hE (K := R_M) (T := F_M) (N := 17) (ci := 6) in_M 0 (Nat.le_of_ble_eq_true rfl) rfl rfl 7 (by decide) tw_588 rfl rfl dM_alive_7 ?_
  refine w_top (y := σ 0 7) (by simp [mset, mrow, upd, mhc]) ?_
  refine w_top (y := nI n9) (hn) ?_
  refine w_ci hE hA (w_runV C hk hE hl.1 (As := [.int (nI n9)]) (rest := []) (q := 0) (c_M_sizeOf l D cs ad (mset σ 0 2 (nI 0)) n9 (by omega) _) (Nat.le_of_ble_eq_true rfl) (ci := 6) (N := 17) (T := F_M) rfl rfl tw_690 tw_692 ts_28 tw_9 tw_693 (n := 1) (by decide +kernel) rfl rfl (Nat.le_of_ble_eq_true rfl) dM_alive_10 ⟨Nat.le_of_ble_eq_true rfl, Nat.le_of_ble_eq_true rfl⟩ ⟨Nat.zero_le _, Nat.zero_le _⟩) (fun r1 τ2 H locs hp hE _ _ => ?_)
  refine w_top (y := nI (cntH (σ 5) (360 * n9) 360)) (hp.1.trans (by rw [mset_n (by decide)])) ?_
  have hE := wS_eq hp.2 hE
  have hcn := cntH_le (f := σ 5) (b := 360 * n9) 360
  refine lv_if_le (tgt := 20) hx hb dM_alive_13 (by decide) (fun c3 => ?_) (fun c3 => ?_)
  · have c3 := w_le0 (by omega) c3
    refine lv_iconst (v := nI 0) hx hb dM_alive_20 (by decide) ?_
    exact w_retz C hE (Or.inl rfl) (⟨by simp [zb, c3], rfl⟩) dM_alive_21
  · have c3 := w_nle0 (by omega) c3
    refine lv_iconst (v := nI 1) hx hb dM_alive_16 (by decide) ?_
    refine lv_goto (tgt := 21) hx hb dM_alive_17 (by decide) ?_
    exact w_retz C hE (Or.inr rfl) (⟨by simp [zb, c3], rfl⟩) dM_alive_21
end
section
def stH (x : HC) (i : Nat) (v : Int32) : HC := (upd x.1 i v, x.2)
def flH (x : HC) (v : Int32) : HC := (x.1, v)
theorem mset_mhc {σ : Mem} {x : HC} {i : Nat} {v : Int32} : mset (mhc σ x) 5 i v = mhc σ (stH x i v) := by
  unfold mhc stH; rw [mset_mrow]
theorem mset_mhc0 {σ : Mem} {x : HC} {v : Int32} : mset (mhc σ x) 0 10 v = mhc σ (flH x v) := by
  funext j i
  unfold mhc flH mset mrow upd
  by_cases h0 : j = 0
  · subst h0
    by_cases h : i = 10 <;> simp [h]
  · simp [h0]
theorem bhF_mhc {σ : Mem} {x : HC} {p d : Nat} : bhF (mhc σ x) p d = bhF σ p d := by
  unfold bhF mn; rw [mhc_n (by decide) (by decide), mhc_n (by decide) (by decide)]
/-- a place where an item of set k may stand -/
def GI (σ : Mem) (P k j : Nat) : Prop := ∃ p d o, p < P ∧ d ≤ mn σ p ∧ o ≤ k ∧ j = ix k p d o
def vH (σ : Mem) (P k : Nat) (x : HC) : Prop := bH x ∧ ∀ j, 360 * k ≤ j → j < 360 * k + 360 → ¬ x.1 j = 0 → GI σ P k j
theorem vH_put {σ : Mem} {P k i : Nat} {x : HC} (h : vH σ P k x) (hi : GI σ P k i) : vH σ P k (putH x i) := by
  refine ⟨bH_put h.1, fun j h1 h2 h3 => ?_⟩
  by_cases e : j = i
  · rw [e]; exact hi
  · refine h.2 j h1 h2 (fun q => h3 ?_)
    simp [putH, upd, e]; exact q
/-- y has grown out of x: nothing is lost, and the flag tells a growth -/
def gH (k : Nat) (x y : HC) : Prop := (∀ j, ¬ x.1 j = 0 → ¬ y.1 j = 0) ∧ (¬ y.2 = 0 → ¬ x.2 = 0 ∨ ∃ j, 360 * k ≤ j ∧ j < 360 * k + 360 ∧ x.1 j = 0 ∧ ¬ y.1 j = 0)
theorem gH_rf {k : Nat} {x : HC} : gH k x x := ⟨fun _ h => h, fun h => Or.inl h⟩
theorem gH_tr {k : Nat} {x y z : HC} (h1 : gH k x y) (h2 : gH k y z) : gH k x z := by
  refine ⟨fun j h => h2.1 j (h1.1 j h), fun h => ?_⟩
  rcases h2.2 h with q | ⟨j, a, b, q, r⟩
  · rcases h1.2 q with q | ⟨j, a, b, q, r⟩
    · exact Or.inl q
    · exact Or.inr ⟨j, a, b, q, h2.1 j r⟩
  · refine Or.inr ⟨j, a, b, ?_, r⟩
    exact Decidable.byContradiction fun hx => h1.1 j hx q
theorem gH_put {σ : Mem} {P k i : Nat} {x : HC} (hk : P ≤ 8) (hm : ∀ p, p < P → mn σ p ≤ 4) (hk9 : k < 9) (hi : GI σ P k i) : gH k x (putH x i) := by
  have hin : 360 * k ≤ i ∧ i < 360 * k + 360 := by
    obtain ⟨p, d, o, h1, h2, h3, rfl⟩ := hi
    have := hm p h1
    unfold ix; omega
  refine ⟨fun j h => ?_, fun h => ?_⟩
  · by_cases e : j = i
    · simp [putH, upd, e]; decide
    · simp [putH, upd, e]; exact h
  · by_cases e : x.2 = 0
    · refine Or.inr ⟨i, hin.1, hin.2, ?_, by simp [putH, upd]; decide⟩
      exact Decidable.byContradiction fun q => h (by simp [putH, e, q]; rfl)
    · exact Or.inl e
/-- what a step of the model's filling keeps -/
def okH (σ : Mem) (P k : Nat) (x y : HC) : Prop := (vH σ P k x → vH σ P k y) ∧ gH k x y ∧ ∀ j, (j < 360 * k ∨ 360 * k + 360 ≤ j) → y.1 j = x.1 j
theorem okH_rf {σ : Mem} {P k : Nat} {x : HC} : okH σ P k x x := ⟨id, gH_rf, fun _ _ => rfl⟩
theorem okH_tr {σ : Mem} {P k : Nat} {x y z : HC} (h1 : okH σ P k x y) (h2 : okH σ P k y z) : okH σ P k x z := ⟨fun h => h2.1 (h1.1 h), gH_tr h1.2.1 h2.2.1, fun j hj => (h2.2.2 j hj).trans (h1.2.2 j hj)⟩
theorem okH_put {σ : Mem} {P k i : Nat} {x : HC} (hP : P ≤ 8) (hm : ∀ p, p < P → mn σ p ≤ 4) (hk9 : k < 9) (hi : GI σ P k i) : okH σ P k x (putH x i) := by
  refine ⟨fun h => vH_put h hi, gH_put hP hm hk9 hi, fun j hj => ?_⟩
  have : j ≠ i := by
    obtain ⟨p, d, o, h1, h2, h3, rfl⟩ := hi
    have := hm p h1
    unfold ix; omega
  simp [putH, upd, this]
/-! bring -/
def prH (σ : Mem) (k : Nat) (y : Int32) (x : HC) : Nat → HC
  | 0 => x
  | q + 1 => if σ 1 q = y then putH (prH σ k y x q) (ix k q 0 k) else prH σ k y x q
def coH (k q e o : Nat) (x : HC) : Nat → HC
  | 0 => x
  | w + 1 => if (coH k q e o x w).1 (ix o q e w) = 0 then coH k q e o x w else putH (coH k q e o x w) (ix k q (e + 1) w)
def cdH (σ : Mem) (k p q o : Nat) (x : HC) : Nat → HC
  | 0 => x
  | e + 1 => if bhF σ q e = σ 1 p then coH k q e o (cdH σ k p q o x e) (o + 1) else cdH σ k p q o x e
def cqH (σ : Mem) (k p o : Nat) (x : HC) : Nat → HC
  | 0 => x
  | q + 1 => cdH σ k p q o (cqH σ k p o x q) (mn σ q)
def brH (σ : Mem) (P k p d o : Nat) (x : HC) : HC := if bhF σ p d < 0 then cqH σ k p o x P else if nI 100 ≤ bhF σ p d then x else prH σ k (bhF σ p d) x P
section OKH
variable {σ : Mem} {P k : Nat} (hg : mG σ P) (hk9 : k < 9)
theorem mG_m {p : Nat} (hg : mG σ P) (h : p < P) : mn σ p ≤ 4 := (hg.2.2 p h).2.2.2.1
theorem ok_prH {y : Int32} {x : HC} (hg : mG σ P) (hk9 : k < 9) : ∀ q, q ≤ P → okH σ P k x (prH σ k y x q)
  | 0, _ => okH_rf
  | q + 1, h => by
    rw [prH]
    split
    · exact okH_tr (ok_prH hg hk9 q (by omega)) (okH_put hg.1 (fun p h => mG_m hg h) hk9 ⟨q, 0, k, by omega, Nat.zero_le _, Nat.le_refl _, rfl⟩)
    · exact ok_prH hg hk9 q (by omega)
theorem ok_coH {q e o : Nat} {x : HC} (hg : mG σ P) (hk9 : k < 9) (hq : q < P) (he : e < mn σ q) (ho : o ≤ k) : ∀ w, w ≤ o + 1 → okH σ P k x (coH k q e o x w)
  | 0, _ => okH_rf
  | w + 1, h => by
    rw [coH]
    split
    · exact ok_coH hg hk9 hq he ho w (by omega)
    · exact okH_tr (ok_coH hg hk9 hq he ho w (by omega)) (okH_put hg.1 (fun p h => mG_m hg h) hk9 ⟨q, e + 1, w, hq, by omega, by omega, rfl⟩)
theorem ok_cdH {p q o : Nat} {x : HC} (hg : mG σ P) (hk9 : k < 9) (hq : q < P) (ho : o ≤ k) : ∀ e, e ≤ mn σ q → okH σ P k x (cdH σ k p q o x e)
  | 0, _ => okH_rf
  | e + 1, h => by
    rw [cdH]
    split
    · exact okH_tr (ok_cdH hg hk9 hq ho e (by omega)) (ok_coH hg hk9 hq (by omega) ho _ (Nat.le_refl _))
    · exact ok_cdH hg hk9 hq ho e (by omega)
theorem ok_cqH {p o : Nat} {x : HC} (hg : mG σ P) (hk9 : k < 9) (ho : o ≤ k) : ∀ q, q ≤ P → okH σ P k x (cqH σ k p o x q)
  | 0, _ => okH_rf
  | q + 1, h => by rw [cqH]; exact okH_tr (ok_cqH hg hk9 ho q (by omega)) (ok_cdH hg hk9 (by omega) ho _ (Nat.le_refl _))
theorem ok_brH {p d o : Nat} {x : HC} (hg : mG σ P) (hk9 : k < 9) (ho : o ≤ k) : okH σ P k x (brH σ P k p d o x) := by
  unfold brH
  split
  · exact ok_cqH hg hk9 ho P (Nat.le_refl _)
  · split
    · exact okH_rf
    · exact ok_prH hg hk9 P (Nat.le_refl _)
end OKH
/-! fill -/
def clH (k : Nat) (x : HC) : Nat → HC
  | 0 => x
  | i + 1 => stH (clH k x i) (360 * k + i) (nI 0)
def scH (k p d : Nat) (x : HC) : Nat → HC
  | 0 => x
  | o + 1 => if (scH k p d x o).1 (ix (k - 1) p d o) = 0 then scH k p d x o else putH (scH k p d x o) (ix k p (d + 1) o)
def sdH (σ : Mem) (k p : Nat) (x : HC) : Nat → HC
  | 0 => x
  | d + 1 => if bhF σ p d = σ 4 k then scH k p d (sdH σ k p x d) k else sdH σ k p x d
def s0H (σ : Mem) (k p : Nat) (x : HC) : HC := if k = 0 then (if σ 1 p = σ 1 0 then putH x (ix 0 p 0 0) else x) else x
def spH (σ : Mem) (k : Nat) (x : HC) : Nat → HC
  | 0 => x
  | p + 1 => sdH σ k p (s0H σ k p (spH σ k x p)) (mn σ p)
def swH (σ : Mem) (P k : Nat) (x : HC) : Nat → HC
  | 0 => x
  | i + 1 => if (swH σ P k x i).1 (360 * k + i) = 0 then swH σ P k x i else brH σ P k (i / 45) (i / 9 % 5) (i % 9) (swH σ P k x i)
def whH (σ : Mem) (P k : Nat) : Nat → HC → HC
  | 0, x => x
  | n + 1, x => if x.2 = 0 then x else whH σ P k n (swH σ P k (flH x (nI 0)) 360)
theorem ok_scH {σ : Mem} {P k p d : Nat} {x : HC} (hg : mG σ P) (hk9 : k < 9) (hp : p < P) (hd : d < mn σ p) : ∀ o, o ≤ k → okH σ P k x (scH k p d x o)
  | 0, _ => okH_rf
  | o + 1, h => by
    rw [scH]
    split
    · exact ok_scH hg hk9 hp hd o (by omega)
    · exact okH_tr (ok_scH hg hk9 hp hd o (by omega)) (okH_put hg.1 (fun p h => mG_m hg h) hk9 ⟨p, d + 1, o, hp, by omega, by omega, rfl⟩)
theorem ok_sdH {σ : Mem} {P k p : Nat} {x : HC} (hg : mG σ P) (hk9 : k < 9) (hp : p < P) : ∀ d, d ≤ mn σ p → okH σ P k x (sdH σ k p x d)
  | 0, _ => okH_rf
  | d + 1, h => by
    rw [sdH]
    split
    · exact okH_tr (ok_sdH hg hk9 hp d (by omega)) (ok_scH hg hk9 hp (by omega) _ (Nat.le_refl _))
    · exact ok_sdH hg hk9 hp d (by omega)
theorem ok_s0H {σ : Mem} {P k p : Nat} {x : HC} (hg : mG σ P) (hk9 : k < 9) (hp : p < P) : okH σ P k x (s0H σ k p x) := by
  unfold s0H
  by_cases h : k = 0
  · subst h
    rw [if_pos rfl]
    split
    · exact okH_put hg.1 (fun p h => mG_m hg h) hk9 ⟨p, 0, 0, hp, Nat.zero_le _, Nat.le_refl _, rfl⟩
    · exact okH_rf
  · rw [if_neg h]; exact okH_rf
theorem ok_spH {σ : Mem} {P k : Nat} {x : HC} (hg : mG σ P) (hk9 : k < 9) : ∀ p, p ≤ P → okH σ P k x (spH σ k x p)
  | 0, _ => okH_rf
  | p + 1, h => by rw [spH]; exact okH_tr (okH_tr (ok_spH hg hk9 p (by omega)) (ok_s0H hg hk9 (by omega))) (ok_sdH hg hk9 (by omega) _ (Nat.le_refl _))
theorem GI_of {σ : Mem} {P k i : Nat} (hg : mG σ P) (hk9 : k < 9) (hi : i < 360) (h : GI σ P k (360 * k + i)) : i / 45 < P ∧ i / 9 % 5 ≤ mn σ (i / 45) ∧ i % 9 ≤ k := by
  obtain ⟨p, d, o, h1, h2, h3, h4⟩ := h
  have hm := mG_m hg h1
  have hP := hg.1
  unfold ix at h4
  have e1 : i = 45 * p + 9 * d + o := by omega
  have e2 : i / 45 = p := by omega
  have e3 : i / 9 % 5 = d := by omega
  have e4 : i % 9 = o := by omega
  rw [e2, e3, e4]
  exact ⟨h1, h2, h3⟩
theorem ok_swH {σ : Mem} {P k : Nat} {x : HC} (hg : mG σ P) (hk9 : k < 9) (hv : vH σ P k x) : ∀ i, i ≤ 360 → okH σ P k x (swH σ P k x i)
  | 0, _ => okH_rf
  | i + 1, h => by
    rw [swH]
    split
    · exact ok_swH hg hk9 hv i (by omega)
    · rename_i hne
      have hb := ok_swH hg hk9 hv i (by omega)
      exact okH_tr hb (ok_brH hg hk9 (GI_of hg hk9 (by omega) ((hb.1 hv).2 _ (by omega) (by omega) hne)).2.2)
theorem vH_cl {σ : Mem} {P k : Nat} {x : HC} (hb : bH x) : vH σ P k (clH k x 360) := by
  have h1 : ∀ i, bH (clH k x i) ∧ ∀ j, 360 * k ≤ j → j < 360 * k + i → (clH k x i).1 j = 0 := by
    intro i
    induction i with
    | zero => exact ⟨hb, fun j h1 h2 => absurd h2 (by omega)⟩
    | succ i ih =>
      refine ⟨⟨fun j => ?_, ih.1.2⟩, fun j h1 h2 => ?_⟩
      · by_cases e : j = 360 * k + i
        · left; simp [clH, stH, upd, e]; rfl
        · have := ih.1.1 j; simp [clH, stH, upd, e]; exact this
      · by_cases e : j = 360 * k + i
        · simp [clH, stH, upd, e]; rfl
        · simp [clH, stH, upd, e]; exact ih.2 j h1 (by omega)
  exact ⟨(h1 360).1, fun j a b c => absurd ((h1 360).2 j a b) c⟩
theorem vH_fl {σ : Mem} {P k : Nat} {x : HC} {v : Int32} (h : vH σ P k x) (hv : v = 0 ∨ v = 1) : vH σ P k (flH x v) := ⟨⟨h.1.1, hv⟩, h.2⟩
/-- the empty places of block k, and the flag: falls along the while -/
def zeH (k : Nat) (x : HC) : Nat := 2 * (360 - cntH x.1 (360 * k) 360) + (if x.2 = 0 then 0 else 1)
theorem cntH_mono {f g : Nat → Int32} {b : Nat} (h : ∀ j, ¬ f j = 0 → ¬ g j = 0) : ∀ n, cntH f b n ≤ cntH g b n
  | 0 => Nat.le_refl _
  | n + 1 => by
    have ih := cntH_mono (b := b) h n
    rw [cntH, cntH]
    by_cases e : f (b + n) = 0
    · rw [if_pos e]; split <;> omega
    · rw [if_neg e, if_neg (h _ e)]; omega
theorem cntH_lt {f g : Nat → Int32} {b j : Nat} (h : ∀ j, ¬ f j = 0 → ¬ g j = 0) (h0 : f (b + j) = 0) (h1 : ¬ g (b + j) = 0) : ∀ n, j < n → cntH f b n < cntH g b n
  | 0, hj => absurd hj (Nat.not_lt_zero _)
  | n + 1, hj => by
    rw [cntH, cntH]
    by_cases e : j = n
    · subst e
      rw [if_pos h0, if_neg h1]
      have := cntH_mono (b := b) h j
      omega
    · have ih := cntH_lt h h0 h1 n (by omega)
      by_cases e2 : f (b + n) = 0
      · rw [if_pos e2]; split <;> omega
      · rw [if_neg e2, if_neg (h _ e2)]; omega
theorem zeH_lt {σ : Mem} {P k : Nat} {x y : HC} (hx : ¬ x.2 = 0) (h : okH σ P k (flH x (nI 0)) y) : zeH k y < zeH k x := by
  have hm : ∀ j, ¬ x.1 j = 0 → ¬ y.1 j = 0 := h.2.1.1
  have h1 := cntH_mono (b := 360 * k) hm 360
  have h2 := cntH_le (f := y.1) (b := 360 * k) 360
  unfold zeH
  rw [if_neg hx]
  by_cases hy : y.2 = 0
  · rw [if_pos hy]; omega
  · rw [if_neg hy]
    rcases h.2.1.2 hy with q | ⟨j, a, b, q, r⟩
    · exact absurd rfl q
    · have h3 := cntH_lt (b := 360 * k) (j := j - 360 * k) hm (by rw [show 360 * k + (j - 360 * k) = j by omega]; exact q) (by rw [show 360 * k + (j - 360 * k) = j by omega]; exact r) 360 (by omega)
      omega
end
section
set_option maxHeartbeats 4000000 in
set_option maxRecDepth 100000 in
theorem lp_M_br4 {p : Program} {l : Launch} {e : Env} {s : State} {m : MethodId} {below : List Frame} {meth : Method} {c : Code} {D : va_G} {cs : Nat → ClassId} {ad : Nat → Nat} {A : Nat → Prop} {Q : State → Prop} {σ : Mem} {P k p9 d9 o9 : Nat} (C : bC p s m ([.ref (ad 0), .int (nI k), .int (nI p9), .int (nI d9), .int (nI o9)] : List Value).toArray meth c bM_bring 9 "EarleyChartModel" none) (hk : wk D cs s) (hA : ∀ q : Nat, s.heap.size ≤ q → A q) (hg : mG σ P) (hk9 : k < 9) (hpP : p9 < P) (hd5 : d9 < 5) (hok : o9 ≤ k) (hvb : vH σ P k (σ 5, σ 0 10)) (q : Nat) (e9 : Nat) (x : HC) (hq : q < P) (he : e9 < mn σ q) (hvx : vH σ P k x) (K : ∀ (H : Heap) (locs : List Loc) (ls : Array Slot), wS (wM D cs ad) A s.heap (mhc σ (if bhF σ q e9 = σ 1 p9 then coH k q e9 o9 x (o9 + 1) else x)) H locs → lv_has ls 9 [(0, .ref (ad 0)), (1, .int (nI k)), (2, .int (nI p9)), (3, .int (nI d9)), (4, .int (nI o9)), (5, .int (bhF σ p9 d9)), (6, .int (nI q)), (7, .int (nI e9))] → W p l e (rmF 1 25) s m ([.ref (ad 0), .int (nI k), .int (nI p9), .int (nI d9), .int (nI o9)] : List Value).toArray below meth c H locs 0 0 Q (F0 m 153 ls [])) :
    ∀ (n : Nat) (w : Nat), (o9 + 1 - w) < n → (w ≤ o9 + 1) → (w = 0 ∨ bhF σ q e9 = σ 1 p9) → ∀ (H : Heap) (locs : List Loc) (ls : Array Slot), wS (wM D cs ad) A s.heap (mhc σ (coH k q e9 o9 x w)) H locs → lv_has ls 9 [(0, .ref (ad 0)), (1, .int (nI k)), (2, .int (nI p9)), (3, .int (nI d9)), (4, .int (nI o9)), (5, .int (bhF σ p9 d9)), (6, .int (nI q)), (7, .int (nI e9)), (8, .int (nI w))] → W p l e (rmF 1 25) s m ([.ref (ad 0), .int (nI k), .int (nI p9), .int (nI d9), .int (nI o9)] : List Value).toArray below meth c H locs 0 0 Q (F0 m 95 ls []) := by
  obtain ⟨hx, hb, hml, hown, hts, hr, hlocks⟩ := id C
  have hP8 := hg.1
  have hb9 : vH σ P k (σ 5, σ 0 10) := hvb
  intro n
  induction n with
  | zero => intro w h; exact absurd h (Nat.not_lt_zero _)
  | succ n ih =>
    intro w hn hw9 hc9 H locs ls hE hl
    have hmq := mG_m hg hq
    refine lv_iload hx hb dM_bring_95 (lv_at hl 8 rfl) ?_
    refine lv_iload hx hb dM_bring_97 (lv_at hl 4 rfl) ?_
    refine lv_icmp_gt (tgt := 153) hx hb dM_bring_99 (by decide) (fun c1 => ?_) (fun c1 => ?_)
    · have c1 : o9 < w := (nI_ltI (by omega) (by omega)).mp c1
      exact K _ _ ls (wS_eq (show mhc σ (coH k q e9 o9 x w) = mhc σ (if bhF σ q e9 = σ 1 p9 then coH k q e9 o9 x (o9 + 1) else x) by first | rw [if_pos (hc9.resolve_left (by omega)), show o9 + 1 = w by omega] | rw [hc9.resolve_right (by assumption), if_neg (by assumption), coH]) hE) (lv_sub hl [0, 1, 2, 3, 4, 5, 6, 7] rfl)
    · have c1 : ¬ (o9 < w) := fun h => c1 ((nI_ltI (by omega) (by omega)).mpr h)
      refine lv_aload_n hx hb dM_bring_102 rfl (lv_at hl 0 rfl) ?_
      refine lv_iload hx hb dM_bring_103 (lv_at hl 6 rfl) ?_
      refine lv_iload hx hb dM_bring_105 (lv_at hl 7 rfl) ?_
      refine w_ci hE hA (w_runV C hk hE hl.1 (As := [.int (nI q), .int (nI e9)]) (rest := []) (q := 0) (c_M_behind l D cs ad (mhc σ (coH k q e9 o9 x w)) P q e9 (mG_mhc hg) (hq) (by omega) _) (Nat.le_of_ble_eq_true rfl) (ci := 6) (N := 17) (T := F_M) rfl rfl tw_662 tw_664 ts_23 tw_9 tw_665 (n := 2) (by decide +kernel) rfl rfl (Nat.le_of_ble_eq_true rfl) dM_bring_107 ⟨Nat.le_of_ble_eq_true rfl, Nat.le_of_ble_eq_true rfl⟩ ⟨Nat.zero_le _, Nat.zero_le _⟩) (fun r2 τ3 H locs hp hE _ _ => ?_)
      refine w_top (y := bhF σ q e9) (hp.1.trans bhF_mhc) ?_
      have hE := wS_eq hp.2 hE
      refine lv_aload_n hx hb dM_bring_110 rfl (lv_at hl 0 rfl) ?_
      refine w_get C hk hE (K := R_M) (T := F_M) (N := 17) (ci := 6) in_M 0 (Nat.le_of_ble_eq_true rfl) rfl rfl 4 (by decide) tw_585 rfl rfl dM_bring_111 ?_
      refine lv_iload_n hx hb dM_bring_114 rfl (lv_at hl 2 rfl) ?_
      refine w_iald C hk hE 1 (by exact Nat.le_of_ble_eq_true rfl) (n := 8) rfl (by omega) (by first | decide | omega) dM_bring_115 ?_
      refine w_top (y := σ 1 p9) (by simp [mset, mrow, upd, mhc]) ?_
      refine lv_icmp_ne (tgt := 153) hx hb dM_bring_116 (by decide) (fun c4 => ?_) (fun c4 => ?_)
      · exact K _ _ ls (wS_eq (show mhc σ (coH k q e9 o9 x w) = mhc σ (if bhF σ q e9 = σ 1 p9 then coH k q e9 o9 x (o9 + 1) else x) by first | rw [if_pos (hc9.resolve_left (by omega)), show o9 + 1 = w by omega] | rw [hc9.resolve_right (by assumption), if_neg (by assumption), coH]) hE) (lv_sub hl [0, 1, 2, 3, 4, 5, 6, 7] rfl)
      · refine lv_aload_n hx hb dM_bring_119 rfl (lv_at hl 0 rfl) ?_
        refine lv_iload hx hb dM_bring_120 (lv_at hl 4 rfl) ?_
        refine lv_iload hx hb dM_bring_122 (lv_at hl 6 rfl) ?_
        refine lv_iload hx hb dM_bring_124 (lv_at hl 7 rfl) ?_
        refine lv_iload hx hb dM_bring_126 (lv_at hl 8 rfl) ?_
        refine w_ci hE hA (w_runV C hk hE hl.1 (As := [.int (nI o9), .int (nI q), .int (nI e9), .int (nI w)]) (rest := []) (q := 0) (c_M_isIn l D cs ad (mhc σ (coH k q e9 o9 x w)) o9 q e9 w (by omega) (by omega) (by omega) (by omega) (by rw [mhc_5]; exact (((ok_coH (x := x) hg hk9 hq he hok w (by omega)).1 hvx).1).1 _) _) (Nat.le_of_ble_eq_true rfl) (ci := 6) (N := 17) (T := F_M) rfl rfl tw_666 tw_668 ts_24 tw_9 tw_669 (n := 4) (by decide +kernel) rfl rfl (Nat.le_of_ble_eq_true rfl) dM_bring_128 ⟨Nat.le_of_ble_eq_true rfl, Nat.le_of_ble_eq_true rfl⟩ ⟨Nat.zero_le _, Nat.zero_le _⟩) (fun r5 τ6 H locs hp hE _ _ => ?_)
        refine w_top (y := (coH k q e9 o9 x w).1 (ix o9 q e9 w)) (hp.1.trans (by rw [mhc_5])) ?_
        have hE := wS_eq hp.2 hE
        refine lv_if_eq (tgt := 147) hx hb dM_bring_131 (by decide) (fun c7 => ?_) (fun c7 => ?_)
        · refine lv_iinc (v := nI (w + 1)) (lv' := [(8, .int (nI (w + 1))), (0, .ref (ad 0)), (1, .int (nI k)), (2, .int (nI p9)), (3, .int (nI d9)), (4, .int (nI o9)), (5, .int (bhF σ p9 d9)), (6, .int (nI q)), (7, .int (nI e9))]) hx hb dM_bring_147 hl (k := 8) rfl (by exact nI_1 _) (by decide) rfl (fun ls hl => ?_)
          refine lv_goto (tgt := 95) hx hb dM_bring_150 (by decide) ?_
          exact ih (w + 1) (by omega) (by omega) (Or.inr c4) _ _ ls (wS_eq (show mhc σ (coH k q e9 o9 x w) = mhc σ (coH k q e9 o9 x (w + 1)) by simp only [coH, c7, if_true, if_false]) hE) (lv_sub hl [1, 2, 3, 4, 5, 6, 7, 8, 0] rfl)
        · refine lv_aload_n hx hb dM_bring_134 rfl (lv_at hl 0 rfl) ?_
          refine lv_iload_n hx hb dM_bring_135 rfl (lv_at hl 1 rfl) ?_
          refine lv_iload hx hb dM_bring_136 (lv_at hl 6 rfl) ?_
          refine lv_iload hx hb dM_bring_138 (lv_at hl 7 rfl) ?_
          refine lv_iconst (v := nI 1) hx hb dM_bring_140 (by decide) ?_
          refine lv_iadd hx hb dM_bring_141 ?_
          refine w_top (y := nI (e9 + 1)) (by first | exact nI_add _ _ | simp only [nI_add, Nat.add_assoc, Nat.add_zero, Nat.zero_add]) ?_
          refine lv_iload hx hb dM_bring_142 (lv_at hl 8 rfl) ?_
          refine w_cv hE hA (w_runV C hk hE hl.1 (As := [.int (nI k), .int (nI q), .int (nI (e9 + 1)), .int (nI w)]) (rest := []) (q := 0) (c_M_put l D cs ad (mhc σ (coH k q e9 o9 x w)) k q (e9 + 1) w (hk9) (by omega) (by omega) (by omega) _) (Nat.le_of_ble_eq_true rfl) (ci := 6) (N := 17) (T := F_M) rfl rfl tw_658 tw_660 ts_22 tw_9 tw_661 (n := 4) (by decide +kernel) rfl rfl (Nat.le_of_ble_eq_true rfl) dM_bring_144 ⟨Nat.le_of_ble_eq_true rfl, Nat.le_of_ble_eq_true rfl⟩ ⟨Nat.zero_le _, Nat.zero_le _⟩) (fun τ9 H locs hp hE _ _ => ?_)
          have hE : wS (wM D cs ad) A s.heap (mhc σ (putH (coH k q e9 o9 x w) (ix k q (e9 + 1) w))) H locs := wS_eq (hp.trans (by rw [mhc_mhc, mhc_5, mhc_10])) hE
          refine lv_iinc (v := nI (w + 1)) (lv' := [(8, .int (nI (w + 1))), (0, .ref (ad 0)), (1, .int (nI k)), (2, .int (nI p9)), (3, .int (nI d9)), (4, .int (nI o9)), (5, .int (bhF σ p9 d9)), (6, .int (nI q)), (7, .int (nI e9))]) hx hb dM_bring_147 hl (k := 8) rfl (by exact nI_1 _) (by decide) rfl (fun ls hl => ?_)
          refine lv_goto (tgt := 95) hx hb dM_bring_150 (by decide) ?_
          exact ih (w + 1) (by omega) (by omega) (Or.inr c4) _ _ ls (wS_eq (show mhc σ (putH (coH k q e9 o9 x w) (ix k q (e9 + 1) w)) = mhc σ (coH k q e9 o9 x (w + 1)) by simp only [coH, c7, if_true, if_false]) hE) (lv_sub hl [1, 2, 3, 4, 5, 6, 7, 8, 0] rfl)
set_option maxHeartbeats 4000000 in
set_option maxRecDepth 100000 in
theorem lp_M_br3 {p : Program} {l : Launch} {e : Env} {s : State} {m : MethodId} {below : List Frame} {meth : Method} {c : Code} {D : va_G} {cs : Nat → ClassId} {ad : Nat → Nat} {A : Nat → Prop} {Q : State → Prop} {σ : Mem} {P k p9 d9 o9 : Nat} (C : bC p s m ([.ref (ad 0), .int (nI k), .int (nI p9), .int (nI d9), .int (nI o9)] : List Value).toArray meth c bM_bring 9 "EarleyChartModel" none) (hk : wk D cs s) (hA : ∀ q : Nat, s.heap.size ≤ q → A q) (hg : mG σ P) (hk9 : k < 9) (hpP : p9 < P) (hd5 : d9 < 5) (hok : o9 ≤ k) (hvb : vH σ P k (σ 5, σ 0 10)) (q : Nat) (x : HC) (hq : q < P) (hvx : vH σ P k x) (K : ∀ (H : Heap) (locs : List Loc) (ls : Array Slot), wS (wM D cs ad) A s.heap (mhc σ (cdH σ k p9 q o9 x (mn σ q))) H locs → lv_has ls 9 [(0, .ref (ad 0)), (1, .int (nI k)), (2, .int (nI p9)), (3, .int (nI d9)), (4, .int (nI o9)), (5, .int (bhF σ p9 d9)), (6, .int (nI q))] → W p l e (rmF 1 25) s m ([.ref (ad 0), .int (nI k), .int (nI p9), .int (nI d9), .int (nI o9)] : List Value).toArray below meth c H locs 0 0 Q (F0 m 159 ls [])) :
    ∀ (n : Nat) (e9 : Nat), (mn σ q - e9) < n → (e9 ≤ mn σ q) → ∀ (H : Heap) (locs : List Loc) (ls : Array Slot), wS (wM D cs ad) A s.heap (mhc σ (cdH σ k p9 q o9 x e9)) H locs → lv_has ls 9 [(0, .ref (ad 0)), (1, .int (nI k)), (2, .int (nI p9)), (3, .int (nI d9)), (4, .int (nI o9)), (5, .int (bhF σ p9 d9)), (6, .int (nI q)), (7, .int (nI e9))] → W p l e (rmF 1 25) s m ([.ref (ad 0), .int (nI k), .int (nI p9), .int (nI d9), .int (nI o9)] : List Value).toArray below meth c H locs 0 0 Q (F0 m 80 ls []) := by
  obtain ⟨hx, hb, hml, hown, hts, hr, hlocks⟩ := id C
  have hP8 := hg.1
  have hb9 : vH σ P k (σ 5, σ 0 10) := hvb
  intro n
  induction n with
  | zero => intro e9 h; exact absurd h (Nat.not_lt_zero _)
  | succ n ih =>
    intro e9 hn he9 H locs ls hE hl
    have hmq := mG_m hg hq
    refine lv_iload hx hb dM_bring_80 (lv_at hl 7 rfl) ?_
    refine lv_aload_n hx hb dM_bring_82 rfl (lv_at hl 0 rfl) ?_
    refine w_get C hk hE (K := R_M) (T := F_M) (N := 17) (ci := 6) in_M 0 (Nat.le_of_ble_eq_true rfl) rfl rfl 5 (by decide) tw_586 rfl rfl dM_bring_83 ?_
    refine lv_iload hx hb dM_bring_86 (lv_at hl 6 rfl) ?_
    refine w_iald C hk hE 2 (by exact Nat.le_of_ble_eq_true rfl) (n := 8) rfl (by omega) (by first | decide | omega) dM_bring_88 ?_
    refine w_top (y := σ 2 q) (by simp [mset, mrow, upd, mhc]) ?_
    refine w_top (y := nI (mn σ q)) ((hg.2.2 q (by omega)).2.2.1) ?_
    refine lv_icmp_ge (tgt := 159) hx hb dM_bring_89 (by decide) (fun c1 => ?_) (fun c1 => ?_)
    · have c1 : (mn σ q) ≤ e9 := (nI_leI (by omega) (by omega)).mp c1
      exact K _ _ ls (wS_eq (show mhc σ (cdH σ k p9 q o9 x e9) = mhc σ (cdH σ k p9 q o9 x (mn σ q)) by rw [show mn σ q = e9 by omega]) hE) (lv_sub hl [0, 1, 2, 3, 4, 5, 6] rfl)
    · have c1 : ¬ ((mn σ q) ≤ e9) := fun h => c1 ((nI_leI (by omega) (by omega)).mpr h)
      refine lv_iconst (v := nI 0) hx hb dM_bring_92 (by decide) ?_
      refine lv_istore (lv' := [(8, .int (nI 0)), (0, .ref (ad 0)), (1, .int (nI k)), (2, .int (nI p9)), (3, .int (nI d9)), (4, .int (nI o9)), (5, .int (bhF σ p9 d9)), (6, .int (nI q)), (7, .int (nI e9))]) hx hb dM_bring_93 hl (by decide) rfl (fun ls hl => ?_)
      refine lp_M_br4 C hk hA hg hk9 hpP hd5 hok hvb q e9 (cdH σ k p9 q o9 x e9) (hq) (by omega) ((ok_cdH (x := x) hg hk9 hq hok e9 (by omega)).1 hvx) (fun H locs ls hE hl => ?_) _ 0 (Nat.lt_succ_self _) (Nat.zero_le _) (Or.inl rfl) _ _ ls (wS_eq (show mhc σ (cdH σ k p9 q o9 x e9) = mhc σ (coH k q e9 o9 (cdH σ k p9 q o9 x e9) 0) by rfl) hE) (lv_sub hl [1, 2, 3, 4, 5, 6, 7, 8, 0] rfl)
      refine lv_iinc (v := nI (e9 + 1)) (lv' := [(7, .int (nI (e9 + 1))), (0, .ref (ad 0)), (1, .int (nI k)), (2, .int (nI p9)), (3, .int (nI d9)), (4, .int (nI o9)), (5, .int (bhF σ p9 d9)), (6, .int (nI q))]) hx hb dM_bring_153 hl (k := 7) rfl (by exact nI_1 _) (by decide) rfl (fun ls hl => ?_)
      refine lv_goto (tgt := 80) hx hb dM_bring_156 (by decide) ?_
      exact ih (e9 + 1) (by omega) (by omega) _ _ ls (wS_eq (show mhc σ (if bhF σ q e9 = σ 1 p9 then coH k q e9 o9 (cdH σ k p9 q o9 x e9) (o9 + 1) else (cdH σ k p9 q o9 x e9)) = mhc σ (cdH σ k p9 q o9 x (e9 + 1)) by rfl) hE) (lv_sub hl [1, 2, 3, 4, 5, 6, 7, 0] rfl)
set_option maxHeartbeats 4000000 in
set_option maxRecDepth 100000 in
theorem lp_M_br2 {p : Program} {l : Launch} {e : Env} {s : State} {m : MethodId} {below : List Frame} {meth : Method} {c : Code} {D : va_G} {cs : Nat → ClassId} {ad : Nat → Nat} {A : Nat → Prop} {σ : Mem} {P k p9 d9 o9 : Nat} (C : bC p s m ([.ref (ad 0), .int (nI k), .int (nI p9), .int (nI d9), .int (nI o9)] : List Value).toArray meth c bM_bring 9 "EarleyChartModel" none) (hk : wk D cs s) (hA : ∀ q : Nat, s.heap.size ≤ q → A q) (hg : mG σ P) (hk9 : k < 9) (hpP : p9 < P) (hd5 : d9 < 5) (hok : o9 ≤ k) (hvb : vH σ P k (σ 5, σ 0 10))   :
    ∀ (n : Nat) (q : Nat), (P - q) < n → (q ≤ P) → (bhF σ p9 d9 < 0) → ∀ (H : Heap) (locs : List Loc) (ls : Array Slot), wS (wM D cs ad) A s.heap (mhc σ (cqH σ k p9 o9 (σ 5, σ 0 10) q)) H locs → lv_has ls 9 [(0, .ref (ad 0)), (1, .int (nI k)), (2, .int (nI p9)), (3, .int (nI d9)), (4, .int (nI o9)), (5, .int (bhF σ p9 d9)), (6, .int (nI q))] → W p l e (rmF 1 25) s m ([.ref (ad 0), .int (nI k), .int (nI p9), .int (nI d9), .int (nI o9)] : List Value).toArray below meth c H locs 0 0 (wQv (wM D cs ad) A (fun τ => τ = mhc σ (brH σ P k p9 d9 o9 (σ 5, σ 0 10))) s below ([.ref (ad 0), .int (nI k), .int (nI p9), .int (nI d9), .int (nI o9)] : List Value).toArray) (F0 m 68 ls []) := by
  obtain ⟨hx, hb, hml, hown, hts, hr, hlocks⟩ := id C
  have hP8 := hg.1
  have hb9 : vH σ P k (σ 5, σ 0 10) := hvb
  intro n
  induction n with
  | zero => intro q h; exact absurd h (Nat.not_lt_zero _)
  | succ n ih =>
    intro q hn hq9 h65 H locs ls hE hl
    refine lv_iload hx hb dM_bring_68 (lv_at hl 6 rfl) ?_
    refine lv_aload_n hx hb dM_bring_70 rfl (lv_at hl 0 rfl) ?_
    refine w_get C hk hE (K := R_M) (T := F_M) (N := 17) (ci := 6) in_M 0 (Nat.le_of_ble_eq_true rfl) rfl rfl 3 (by decide) tw_584 rfl rfl dM_bring_71 ?_
    refine w_top (y := σ 0 3) (by simp [mset, mrow, upd, mhc]) ?_
    refine w_top (y := nI P) (hg.2.1) ?_
    refine lv_icmp_ge (tgt := 165) hx hb dM_bring_74 (by decide) (fun c1 => ?_) (fun c1 => ?_)
    · have c1 : P ≤ q := (nI_leI (by omega) (by omega)).mp c1
      exact w_retv C hE (by rw [brH, if_pos h65, show P = q by omega]) dM_bring_165
    · have c1 : ¬ (P ≤ q) := fun h => c1 ((nI_leI (by omega) (by omega)).mpr h)
      refine lv_iconst (v := nI 0) hx hb dM_bring_77 (by decide) ?_
      refine lv_istore (lv' := [(7, .int (nI 0)), (0, .ref (ad 0)), (1, .int (nI k)), (2, .int (nI p9)), (3, .int (nI d9)), (4, .int (nI o9)), (5, .int (bhF σ p9 d9)), (6, .int (nI q))]) hx hb dM_bring_78 hl (by decide) rfl (fun ls hl => ?_)
      refine lp_M_br3 C hk hA hg hk9 hpP hd5 hok hvb q (cqH σ k p9 o9 (σ 5, σ 0 10) q) (by omega) ((ok_cqH (x := (σ 5, σ 0 10)) hg hk9 hok q (by omega)).1 hb9) (fun H locs ls hE hl => ?_) _ 0 (Nat.lt_succ_self _) (Nat.zero_le _) _ _ ls (wS_eq (show mhc σ (cqH σ k p9 o9 (σ 5, σ 0 10) q) = mhc σ (cdH σ k p9 q o9 (cqH σ k p9 o9 (σ 5, σ 0 10) q) 0) by rfl) hE) (lv_sub hl [1, 2, 3, 4, 5, 6, 7, 0] rfl)
      refine lv_iinc (v := nI (q + 1)) (lv' := [(6, .int (nI (q + 1))), (0, .ref (ad 0)), (1, .int (nI k)), (2, .int (nI p9)), (3, .int (nI d9)), (4, .int (nI o9)), (5, .int (bhF σ p9 d9))]) hx hb dM_bring_159 hl (k := 6) rfl (by exact nI_1 _) (by decide) rfl (fun ls hl => ?_)
      refine lv_goto (tgt := 68) hx hb dM_bring_162 (by decide) ?_
      exact ih (q + 1) (by omega) (by omega) (h65) _ _ ls (wS_eq (show mhc σ (cdH σ k p9 q o9 (cqH σ k p9 o9 (σ 5, σ 0 10) q) (mn σ q)) = mhc σ (cqH σ k p9 o9 (σ 5, σ 0 10) (q + 1)) by rfl) hE) (lv_sub hl [1, 2, 3, 4, 5, 6, 0] rfl)
set_option maxHeartbeats 4000000 in
set_option maxRecDepth 100000 in
theorem lp_M_br1 {p : Program} {l : Launch} {e : Env} {s : State} {m : MethodId} {below : List Frame} {meth : Method} {c : Code} {D : va_G} {cs : Nat → ClassId} {ad : Nat → Nat} {A : Nat → Prop} {Q : State → Prop} {σ : Mem} {P k p9 d9 o9 : Nat} (C : bC p s m ([.ref (ad 0), .int (nI k), .int (nI p9), .int (nI d9), .int (nI o9)] : List Value).toArray meth c bM_bring 9 "EarleyChartModel" none) (hk : wk D cs s) (hA : ∀ q : Nat, s.heap.size ≤ q → A q) (hg : mG σ P) (hk9 : k < 9) (hpP : p9 < P) (hd5 : d9 < 5) (hok : o9 ≤ k) (hvb : vH σ P k (σ 5, σ 0 10))   (K : ∀ (H : Heap) (locs : List Loc) (ls : Array Slot), wS (wM D cs ad) A s.heap (mhc σ (prH σ k (bhF σ p9 d9) (σ 5, σ 0 10) P)) H locs → lv_has ls 9 [(0, .ref (ad 0)), (1, .int (nI k)), (2, .int (nI p9)), (3, .int (nI d9)), (4, .int (nI o9)), (5, .int (bhF σ p9 d9))] → W p l e (rmF 1 25) s m ([.ref (ad 0), .int (nI k), .int (nI p9), .int (nI d9), .int (nI o9)] : List Value).toArray below meth c H locs 0 0 Q (F0 m 59 ls [])) :
    ∀ (n : Nat) (q : Nat), (P - q) < n → (q ≤ P) → ∀ (H : Heap) (locs : List Loc) (ls : Array Slot), wS (wM D cs ad) A s.heap (mhc σ (prH σ k (bhF σ p9 d9) (σ 5, σ 0 10) q)) H locs → lv_has ls 9 [(0, .ref (ad 0)), (1, .int (nI k)), (2, .int (nI p9)), (3, .int (nI d9)), (4, .int (nI o9)), (5, .int (bhF σ p9 d9)), (6, .int (nI q))] → W p l e (rmF 1 25) s m ([.ref (ad 0), .int (nI k), .int (nI p9), .int (nI d9), .int (nI o9)] : List Value).toArray below meth c H locs 0 0 Q (F0 m 23 ls []) := by
  obtain ⟨hx, hb, hml, hown, hts, hr, hlocks⟩ := id C
  have hP8 := hg.1
  have hb9 : vH σ P k (σ 5, σ 0 10) := hvb
  intro n
  induction n with
  | zero => intro q h; exact absurd h (Nat.not_lt_zero _)
  | succ n ih =>
    intro q hn hq9 H locs ls hE hl
    refine lv_iload hx hb dM_bring_23 (lv_at hl 6 rfl) ?_
    refine lv_aload_n hx hb dM_bring_25 rfl (lv_at hl 0 rfl) ?_
    refine w_get C hk hE (K := R_M) (T := F_M) (N := 17) (ci := 6) in_M 0 (Nat.le_of_ble_eq_true rfl) rfl rfl 3 (by decide) tw_584 rfl rfl dM_bring_26 ?_
    refine w_top (y := σ 0 3) (by simp [mset, mrow, upd, mhc]) ?_
    refine w_top (y := nI P) (hg.2.1) ?_
    refine lv_icmp_ge (tgt := 59) hx hb dM_bring_29 (by decide) (fun c1 => ?_) (fun c1 => ?_)
    · have c1 : P ≤ q := (nI_leI (by omega) (by omega)).mp c1
      exact K _ _ ls (wS_eq (show mhc σ (prH σ k (bhF σ p9 d9) (σ 5, σ 0 10) q) = mhc σ (prH σ k (bhF σ p9 d9) (σ 5, σ 0 10) P) by rw [show P = q by omega]) hE) (lv_sub hl [0, 1, 2, 3, 4, 5] rfl)
    · have c1 : ¬ (P ≤ q) := fun h => c1 ((nI_leI (by omega) (by omega)).mpr h)
      refine lv_aload_n hx hb dM_bring_32 rfl (lv_at hl 0 rfl) ?_
      refine w_get C hk hE (K := R_M) (T := F_M) (N := 17) (ci := 6) in_M 0 (Nat.le_of_ble_eq_true rfl) rfl rfl 4 (by decide) tw_585 rfl rfl dM_bring_33 ?_
      refine lv_iload hx hb dM_bring_36 (lv_at hl 6 rfl) ?_
      refine w_iald C hk hE 1 (by exact Nat.le_of_ble_eq_true rfl) (n := 8) rfl (by omega) (by first | decide | omega) dM_bring_38 ?_
      refine w_top (y := σ 1 q) (by simp [mset, mrow, upd, mhc]) ?_
      refine lv_iload hx hb dM_bring_39 (lv_at hl 5 rfl) ?_
      refine lv_icmp_ne (tgt := 53) hx hb dM_bring_41 (by decide) (fun c2 => ?_) (fun c2 => ?_)
      · refine lv_iinc (v := nI (q + 1)) (lv' := [(6, .int (nI (q + 1))), (0, .ref (ad 0)), (1, .int (nI k)), (2, .int (nI p9)), (3, .int (nI d9)), (4, .int (nI o9)), (5, .int (bhF σ p9 d9))]) hx hb dM_bring_53 hl (k := 6) rfl (by exact nI_1 _) (by decide) rfl (fun ls hl => ?_)
        refine lv_goto (tgt := 23) hx hb dM_bring_56 (by decide) ?_
        exact ih (q + 1) (by omega) (by omega) _ _ ls (wS_eq (show mhc σ (prH σ k (bhF σ p9 d9) (σ 5, σ 0 10) q) = mhc σ (prH σ k (bhF σ p9 d9) (σ 5, σ 0 10) (q + 1)) by simp only [prH, c2, if_true, if_false]) hE) (lv_sub hl [1, 2, 3, 4, 5, 6, 0] rfl)
      · refine lv_aload_n hx hb dM_bring_44 rfl (lv_at hl 0 rfl) ?_
        refine lv_iload_n hx hb dM_bring_45 rfl (lv_at hl 1 rfl) ?_
        refine lv_iload hx hb dM_bring_46 (lv_at hl 6 rfl) ?_
        refine lv_iconst (v := nI 0) hx hb dM_bring_48 (by decide) ?_
        refine lv_iload_n hx hb dM_bring_49 rfl (lv_at hl 1 rfl) ?_
        refine w_cv hE hA (w_runV C hk hE hl.1 (As := [.int (nI k), .int (nI q), .int (nI 0), .int (nI k)]) (rest := []) (q := 0) (c_M_put l D cs ad (mhc σ (prH σ k (bhF σ p9 d9) (σ 5, σ 0 10) q)) k q 0 k (hk9) (by omega) (by decide) (hk9) _) (Nat.le_of_ble_eq_true rfl) (ci := 6) (N := 17) (T := F_M) rfl rfl tw_658 tw_660 ts_22 tw_9 tw_661 (n := 4) (by decide +kernel) rfl rfl (Nat.le_of_ble_eq_true rfl) dM_bring_50 ⟨Nat.le_of_ble_eq_true rfl, Nat.le_of_ble_eq_true rfl⟩ ⟨Nat.zero_le _, Nat.zero_le _⟩) (fun τ4 H locs hp hE _ _ => ?_)
        have hE : wS (wM D cs ad) A s.heap (mhc σ (putH (prH σ k (bhF σ p9 d9) (σ 5, σ 0 10) q) (ix k q 0 k))) H locs := wS_eq (hp.trans (by rw [mhc_mhc, mhc_5, mhc_10])) hE
        refine lv_iinc (v := nI (q + 1)) (lv' := [(6, .int (nI (q + 1))), (0, .ref (ad 0)), (1, .int (nI k)), (2, .int (nI p9)), (3, .int (nI d9)), (4, .int (nI o9)), (5, .int (bhF σ p9 d9))]) hx hb dM_bring_53 hl (k := 6) rfl (by exact nI_1 _) (by decide) rfl (fun ls hl => ?_)
        refine lv_goto (tgt := 23) hx hb dM_bring_56 (by decide) ?_
        exact ih (q + 1) (by omega) (by omega) _ _ ls (wS_eq (show mhc σ (putH (prH σ k (bhF σ p9 d9) (σ 5, σ 0 10) q) (ix k q 0 k)) = mhc σ (prH σ k (bhF σ p9 d9) (σ 5, σ 0 10) (q + 1)) by simp only [prH, c2, if_true, if_false]) hE) (lv_sub hl [1, 2, 3, 4, 5, 6, 0] rfl)
set_option maxHeartbeats 4000000 in
set_option maxRecDepth 100000 in
theorem c_M_bring (l : Launch) (D : va_G) (cs : Nat → ClassId) (ad : Nat → Nat) (σ : Mem) (P k p9 d9 o9 : Nat) (hg : mG σ P) (hk9 : k < 9) (hpP : p9 < P) (hd5 : d9 < 5) (hok : o9 ≤ k) (hvb : vH σ P k (σ 5, σ 0 10)) : MetV l (wM D cs ad) cs yM_bring bM_bring 9 1 25 [.ref (ad 0), .int (nI k), .int (nI p9), .int (nI d9), .int (nI o9)] σ (fun τ => τ = mhc σ (brH σ P k p9 d9 o9 (σ 5, σ 0 10))) := by
  refine MetV.start (by decide) (Nat.le_of_ble_eq_true rfl) ?_
  intro p e s m below meth c A ls C hk hA hE hl
  obtain ⟨hx, hb, hml, hown, hts, hr, hlocks⟩ := id C
  have hl : lv_has ls 9 [(0, .ref (ad 0)), (1, .int (nI k)), (2, .int (nI p9)), (3, .int (nI d9)), (4, .int (nI o9))] := hl
  have hP8 := hg.1
  have hb9 : vH σ P k (σ 5, σ 0 10) := hvb
  refine lv_aload_n hx hb dM_bring_0 rfl (lv_at hl 0 rfl) ?_
  refine lv_iload_n hx hb dM_bring_1 rfl (lv_at hl 2 rfl) ?_
  refine lv_iload_n hx hb dM_bring_2 rfl (lv_at hl 3 rfl) ?_
  refine w_ci hE hA (w_runV C hk hE hl.1 (As := [.int (nI p9), .int (nI d9)]) (rest := []) (q := 0) (c_M_behind l D cs ad σ P p9 d9 hg hpP (by omega) _) (Nat.le_of_ble_eq_true rfl) (ci := 6) (N := 17) (T := F_M) rfl rfl tw_662 tw_664 ts_23 tw_9 tw_665 (n := 2) (by decide +kernel) rfl rfl (Nat.le_of_ble_eq_true rfl) dM_bring_3 ⟨Nat.le_of_ble_eq_true rfl, Nat.le_of_ble_eq_true rfl⟩ ⟨Nat.zero_le _, Nat.zero_le _⟩) (fun r1 τ2 H locs hp hE _ _ => ?_)
  refine w_top hp.1 ?_
  have hE := wS_eq hp.2 hE
  refine lv_istore (lv' := [(5, .int (bhF σ p9 d9)), (0, .ref (ad 0)), (1, .int (nI k)), (2, .int (nI p9)), (3, .int (nI d9)), (4, .int (nI o9))]) hx hb dM_bring_6 hl (by decide) rfl (fun ls hl => ?_)
  refine lv_iload hx hb dM_bring_8 (lv_at hl 0 rfl) ?_
  refine lv_if_lt (tgt := 59) hx hb dM_bring_10 (by decide) (fun c3 => ?_) (fun c3 => ?_)
  · have h65 := c3
    refine lv_iload hx hb dM_bring_59 (lv_at hl 0 rfl) ?_
    refine lv_if_lt (tgt := 65) hx hb dM_bring_61 (by decide) (fun c4 => ?_) (fun c4 => ?_)
    · refine lv_iconst (v := nI 0) hx hb dM_bring_65 (by decide) ?_
      refine lv_istore (lv' := [(6, .int (nI 0)), (5, .int (bhF σ p9 d9)), (0, .ref (ad 0)), (1, .int (nI k)), (2, .int (nI p9)), (3, .int (nI d9)), (4, .int (nI o9))]) hx hb dM_bring_66 hl (by decide) rfl (fun ls hl => ?_)
      exact lp_M_br2 C hk hA hg hk9 hpP hd5 hok hvb _ 0 (Nat.lt_succ_self _) (Nat.zero_le _) (h65) _ _ ls (wS_eq (show σ = mhc σ (cqH σ k p9 o9 (σ 5, σ 0 10) 0) by rw [cqH, mhc_id]) hE) (lv_sub hl [2, 3, 4, 5, 6, 1, 0] rfl)
    · exact absurd h65 c4
  · have h59 := c3
    refine lv_iload hx hb dM_bring_13 (lv_at hl 0 rfl) ?_
    refine lv_bipush (v := nI 100) hx hb dM_bring_15 (by decide) ?_
    refine lv_icmp_ge (tgt := 59) hx hb dM_bring_17 (by decide) (fun c5 => ?_) (fun c5 => ?_)
    · have h59c := c5
      refine lv_iload hx hb dM_bring_59 (lv_at hl 0 rfl) ?_
      refine lv_if_lt (tgt := 65) hx hb dM_bring_61 (by decide) (fun c6 => ?_) (fun c6 => ?_)
      · exact absurd c6 h59
      · exact w_retv C hE (by first | (rw [brH, if_neg h59, if_neg h59b]; done) | (rw [brH, if_neg h59, if_pos h59c, mhc_id]; done)) dM_bring_64
    · have h59b := c5
      refine lv_iconst (v := nI 0) hx hb dM_bring_20 (by decide) ?_
      refine lv_istore (lv' := [(6, .int (nI 0)), (5, .int (bhF σ p9 d9)), (0, .ref (ad 0)), (1, .int (nI k)), (2, .int (nI p9)), (3, .int (nI d9)), (4, .int (nI o9))]) hx hb dM_bring_21 hl (by decide) rfl (fun ls hl => ?_)
      refine lp_M_br1 C hk hA hg hk9 hpP hd5 hok hvb   (fun H locs ls hE hl => ?_) _ 0 (Nat.lt_succ_self _) (Nat.zero_le _) _ _ ls (wS_eq (show σ = mhc σ (prH σ k (bhF σ p9 d9) (σ 5, σ 0 10) 0) by rw [prH, mhc_id]) hE) (lv_sub hl [2, 3, 4, 5, 6, 1, 0] rfl)
      refine lv_iload hx hb dM_bring_59 (lv_at hl 5 rfl) ?_
      refine lv_if_lt (tgt := 65) hx hb dM_bring_61 (by decide) (fun c7 => ?_) (fun c7 => ?_)
      · exact absurd c7 h59
      · exact w_retv C hE (by first | (rw [brH, if_neg h59, if_neg h59b]; done) | (rw [brH, if_neg h59, if_pos h59c, mhc_id]; done)) dM_bring_64
end
section
theorem mn_mhc {σ : Mem} {x : HC} : mn (mhc σ x) = mn σ := by funext p; unfold mn; rw [mhc_n (by decide) (by decide)]
theorem vH_mhc {σ : Mem} {P k : Nat} {x y : HC} (h : vH σ P k x) : vH (mhc σ y) P k x := by
  refine ⟨h.1, fun j a b c => ?_⟩
  obtain ⟨p, d, o, h1, h2, h3, h4⟩ := h.2 j a b c
  exact ⟨p, d, o, h1, by rw [mn_mhc]; exact h2, h3, h4⟩
theorem prH_mhc {σ : Mem} {k : Nat} {v : Int32} {x y : HC} : ∀ q, prH (mhc σ y) k v x q = prH σ k v x q
  | 0 => rfl
  | q + 1 => by rw [prH, prH, prH_mhc q, mhc_n (by decide) (by decide)]
theorem cdH_mhc {σ : Mem} {k p q o : Nat} {x y : HC} : ∀ e, cdH (mhc σ y) k p q o x e = cdH σ k p q o x e
  | 0 => rfl
  | e + 1 => by rw [cdH, cdH, cdH_mhc e, bhF_mhc, mhc_n (by decide) (by decide)]
theorem cqH_mhc {σ : Mem} {k p o : Nat} {x y : HC} : ∀ q, cqH (mhc σ y) k p o x q = cqH σ k p o x q
  | 0 => rfl
  | q + 1 => by rw [cqH, cqH, cqH_mhc q, cdH_mhc, mn_mhc]
theorem brH_mhc {σ : Mem} {P k p d o : Nat} {x y : HC} : brH (mhc σ y) P k p d o x = brH σ P k p d o x := by
  unfold brH; rw [bhF_mhc, cqH_mhc, prH_mhc]
theorem wh_back {σ : Mem} {P k : Nat} {x0 x : HC} (hx : ¬ x.2 = 0) (h : ∃ N0, ∀ N, whH σ P k (N0 + N) x0 = whH σ P k N x) : ∃ N0, ∀ N, whH σ P k (N0 + N) x0 = whH σ P k N (swH σ P k (flH x (nI 0)) 360) := by
  obtain ⟨N0, h⟩ := h
  refine ⟨N0 + 1, fun N => ?_⟩
  rw [show N0 + 1 + N = N0 + (N + 1) by omega, h, whH, if_neg hx]
theorem wh_exit {σ : Mem} {P k : Nat} {x0 x : HC} (hx : x.2 = 0) (h : ∃ N0, ∀ N, whH σ P k (N0 + N) x0 = whH σ P k N x) : ∃ N, mhc σ x = mhc σ (whH σ P k N x0) ∧ (whH σ P k N x0).2 = 0 := by
  obtain ⟨N0, h⟩ := h
  have h0 := h 0
  rw [Nat.add_zero, whH] at h0
  exact ⟨N0, by rw [h0], by rw [h0]; exact hx⟩
/-- set k made anew by the model: τ is what its loops come to -/
def filP (σ : Mem) (P k : Nat) (τ : Mem) : Prop := ∃ N, τ = mhc σ (whH σ P k N (flH (spH σ k (clH k (σ 5, σ 0 10) 360) P) (nI 1))) ∧ (whH σ P k N (flH (spH σ k (clH k (σ 5, σ 0 10) 360) P) (nI 1))).2 = 0
end
section
set_option maxHeartbeats 4000000 in
set_option maxRecDepth 100000 in
theorem lp_M_fi6 {p : Program} {l : Launch} {e : Env} {s : State} {m : MethodId} {below : List Frame} {meth : Method} {c : Code} {D : va_G} {cs : Nat → ClassId} {ad : Nat → Nat} {A : Nat → Prop} {Q : State → Prop} {σ : Mem} {P k : Nat} (C : bC p s m ([.ref (ad 0), .int (nI k)] : List Value).toArray meth c bM_fill 5 "EarleyChartModel" none) (hk : wk D cs s) (hA : ∀ q : Nat, s.heap.size ≤ q → A q) (hg : mG σ P) (hk9 : k < 9) (hvb : bH (σ 5, σ 0 10)) (x : HC) (hvx : vH σ P k x) (K : ∀ (H : Heap) (locs : List Loc) (ls : Array Slot), wS (wM D cs ad) A s.heap (mhc σ (swH σ P k x 360)) H locs → lv_has ls 5 [(0, .ref (ad 0)), (1, .int (nI k))] → W p l e (rmF 2 53) s m ([.ref (ad 0), .int (nI k)] : List Value).toArray below meth c H locs 0 0 Q (F0 m 210 ls [])) :
    ∀ (n : Nat) (i : Nat), (360 - i) < n → (i ≤ 360) → ∀ (H : Heap) (locs : List Loc) (ls : Array Slot), wS (wM D cs ad) A s.heap (mhc σ (swH σ P k x i)) H locs → lv_has ls 5 [(0, .ref (ad 0)), (1, .int (nI k)), (2, .int (nI i))] → W p l e (rmF 2 53) s m ([.ref (ad 0), .int (nI k)] : List Value).toArray below meth c H locs 0 0 Q (F0 m 163 ls []) := by
  obtain ⟨hx, hb, hml, hown, hts, hr, hlocks⟩ := id C
  have hP8 := hg.1
  intro n
  induction n with
  | zero => intro i h; exact absurd h (Nat.not_lt_zero _)
  | succ n ih =>
    intro i hn hi H locs ls hE hl
    refine lv_iload_n hx hb dM_fill_163 rfl (lv_at hl 2 rfl) ?_
    refine lv_sipush (v := nI 360) hx hb dM_fill_164 (by decide) ?_
    refine lv_icmp_ge (tgt := 210) hx hb dM_fill_167 (by decide) (fun c1 => ?_) (fun c1 => ?_)
    · have c1 : 360 ≤ i := (nI_leI (by omega) (by omega)).mp c1
      exact K _ _ ls (wS_eq (show mhc σ (swH σ P k x i) = mhc σ (swH σ P k x 360) by rw [show 360 = i by omega]) hE) (lv_sub hl [0, 1] rfl)
    · have c1 : ¬ (360 ≤ i) := fun h => c1 ((nI_leI (by omega) (by omega)).mpr h)
      refine lv_aload_n hx hb dM_fill_170 rfl (lv_at hl 0 rfl) ?_
      refine w_get C hk hE (K := R_M) (T := F_M) (N := 17) (ci := 6) in_M 0 (Nat.le_of_ble_eq_true rfl) rfl rfl 9 (by decide) tw_590 rfl rfl dM_fill_171 ?_
      refine lv_sipush (v := nI 360) hx hb dM_fill_174 (by decide) ?_
      refine lv_iload_n hx hb dM_fill_177 rfl (lv_at hl 1 rfl) ?_
      refine lv_imul hx hb dM_fill_178 ?_
      refine w_top (y := nI (360 * k)) (by exact pk_mul _ _) ?_
      refine lv_iload_n hx hb dM_fill_179 rfl (lv_at hl 2 rfl) ?_
      refine lv_iadd hx hb dM_fill_180 ?_
      refine w_top (y := nI ((360 * k) + i)) (by first | exact nI_add _ _ | simp only [nI_add, Nat.add_assoc, Nat.add_zero, Nat.zero_add]) ?_
      refine w_zald C hk hE 5 (by exact Nat.le_of_ble_eq_true rfl) (n := 3240) rfl (by omega) (by first | decide | omega) dM_fill_181 ?_
      refine w_top (y := (swH σ P k x i).1 ((360 * k) + i)) (by simp [mset, mrow, upd, mhc]) ?_
      refine lv_if_eq (tgt := 204) hx hb dM_fill_182 (by decide) (fun c2 => ?_) (fun c2 => ?_)
      · refine lv_iinc (v := nI (i + 1)) (lv' := [(2, .int (nI (i + 1))), (0, .ref (ad 0)), (1, .int (nI k))]) hx hb dM_fill_204 hl (k := 2) rfl (by exact nI_1 _) (by decide) rfl (fun ls hl => ?_)
        refine lv_goto (tgt := 163) hx hb dM_fill_207 (by decide) ?_
        exact ih (i + 1) (by omega) (by omega) _ _ ls (wS_eq (show mhc σ (swH σ P k x i) = mhc σ (swH σ P k x (i + 1)) by simp only [swH, c2, if_true, if_false]) hE) (lv_sub hl [1, 2, 0] rfl)
      · obtain ⟨g1, g2, g3⟩ := GI_of hg hk9 (by omega) (((ok_swH hg hk9 hvx i (by omega)).1 hvx).2 _ (by omega) (by omega) c2)
        refine lv_aload_n hx hb dM_fill_185 rfl (lv_at hl 0 rfl) ?_
        refine lv_iload_n hx hb dM_fill_186 rfl (lv_at hl 1 rfl) ?_
        refine lv_iload_n hx hb dM_fill_187 rfl (lv_at hl 2 rfl) ?_
        refine lv_bipush (v := nI 45) hx hb dM_fill_188 (by decide) ?_
        refine lv_idiv hx hb dM_fill_190 (by decide) ?_
        refine w_top (y := nI (i / 45)) (by exact pk_div (by omega) (by decide) (by decide)) ?_
        refine lv_iload_n hx hb dM_fill_191 rfl (lv_at hl 2 rfl) ?_
        refine lv_bipush (v := nI 9) hx hb dM_fill_192 (by decide) ?_
        refine lv_idiv hx hb dM_fill_194 (by decide) ?_
        refine w_top (y := nI (i / 9)) (by exact pk_div (by omega) (by decide) (by decide)) ?_
        refine lv_iconst (v := nI 5) hx hb dM_fill_195 (by decide) ?_
        refine lv_irem hx hb dM_fill_196 (by decide) ?_
        refine w_top (y := nI ((i / 9) % 5)) (by exact pk_rem (by omega) (by decide) (by decide)) ?_
        refine lv_iload_n hx hb dM_fill_197 rfl (lv_at hl 2 rfl) ?_
        refine lv_bipush (v := nI 9) hx hb dM_fill_198 (by decide) ?_
        refine lv_irem hx hb dM_fill_200 (by decide) ?_
        refine w_top (y := nI (i % 9)) (by exact pk_rem (by omega) (by decide) (by decide)) ?_
        refine w_cv hE hA (w_runV C hk hE hl.1 (As := [.int (nI k), .int (nI (i / 45)), .int (nI ((i / 9) % 5)), .int (nI (i % 9))]) (rest := []) (q := 0) (c_M_bring l D cs ad (mhc σ (swH σ P k x i)) P k (i / 45) (i / 9 % 5) (i % 9) (mG_mhc hg) hk9 g1 (by omega) g3 (by rw [mhc_5, mhc_10]; exact vH_mhc ((ok_swH hg hk9 hvx i (by omega)).1 hvx)) _) (Nat.le_of_ble_eq_true rfl) (ci := 6) (N := 17) (T := F_M) rfl rfl tw_670 tw_672 ts_25 tw_9 tw_673 (n := 4) (by decide +kernel) rfl rfl (Nat.le_of_ble_eq_true rfl) dM_fill_201 ⟨Nat.le_of_ble_eq_true rfl, Nat.le_of_ble_eq_true rfl⟩ ⟨Nat.zero_le _, Nat.zero_le _⟩) (fun τ4 H locs hp hE _ _ => ?_)
        have hE : wS (wM D cs ad) A s.heap (mhc σ (brH σ P k (i / 45) (i / 9 % 5) (i % 9) (swH σ P k x i))) H locs := wS_eq (hp.trans (by rw [mhc_mhc, mhc_5, mhc_10, brH_mhc])) hE
        refine lv_iinc (v := nI (i + 1)) (lv' := [(2, .int (nI (i + 1))), (0, .ref (ad 0)), (1, .int (nI k))]) hx hb dM_fill_204 hl (k := 2) rfl (by exact nI_1 _) (by decide) rfl (fun ls hl => ?_)
        refine lv_goto (tgt := 163) hx hb dM_fill_207 (by decide) ?_
        exact ih (i + 1) (by omega) (by omega) _ _ ls (wS_eq (show mhc σ (brH σ P k (i / 45) (i / 9 % 5) (i % 9) (swH σ P k x i)) = mhc σ (swH σ P k x (i + 1)) by simp only [swH, c2, if_true, if_false]) hE) (lv_sub hl [1, 2, 0] rfl)
set_option maxHeartbeats 4000000 in
set_option maxRecDepth 100000 in
theorem lp_M_fi5 {p : Program} {l : Launch} {e : Env} {s : State} {m : MethodId} {below : List Frame} {meth : Method} {c : Code} {D : va_G} {cs : Nat → ClassId} {ad : Nat → Nat} {A : Nat → Prop} {σ : Mem} {P k : Nat} (C : bC p s m ([.ref (ad 0), .int (nI k)] : List Value).toArray meth c bM_fill 5 "EarleyChartModel" none) (hk : wk D cs s) (hA : ∀ q : Nat, s.heap.size ≤ q → A q) (hg : mG σ P) (hk9 : k < 9) (hvb : bH (σ 5, σ 0 10))   :
    ∀ (n : Nat) (x : HC), (zeH k x) < n → (vH σ P k x) → (∃ N0, ∀ N, whH σ P k (N0 + N) (flH (spH σ k (clH k (σ 5, σ 0 10) 360) P) (nI 1)) = whH σ P k N x) → ∀ (H : Heap) (locs : List Loc) (ls : Array Slot), wS (wM D cs ad) A s.heap (mhc σ x) H locs → lv_has ls 5 [(0, .ref (ad 0)), (1, .int (nI k))] → W p l e (rmF 2 53) s m ([.ref (ad 0), .int (nI k)] : List Value).toArray below meth c H locs 0 0 (wQv (wM D cs ad) A (filP σ P k) s below ([.ref (ad 0), .int (nI k)] : List Value).toArray) (F0 m 149 ls []) := by
  obtain ⟨hx, hb, hml, hown, hts, hr, hlocks⟩ := id C
  have hP8 := hg.1
  intro n
  induction n with
  | zero => intro x h; exact absurd h (Nat.not_lt_zero _)
  | succ n ih =>
    intro x hn hvx hres H locs ls hE hl
    refine lv_aload_n hx hb dM_fill_149 rfl (lv_at hl 0 rfl) ?_
    refine w_get C hk hE (K := R_M) (T := F_M) (N := 17) (ci := 6) in_M 0 (Nat.le_of_ble_eq_true rfl) rfl rfl 10 (by decide) tw_591 rfl rfl dM_fill_150 ?_
    refine w_top (y := x.2) (by simp [mset, mrow, upd, mhc]) ?_
    refine lv_if_eq (tgt := 213) hx hb dM_fill_153 (by decide) (fun c1 => ?_) (fun c1 => ?_)
    · exact w_retv C hE (wh_exit c1 hres) dM_fill_213
    · refine lv_aload_n hx hb dM_fill_156 rfl (lv_at hl 0 rfl) ?_
      refine lv_iconst (v := nI 0) hx hb dM_fill_157 (by decide) ?_
      refine w_put C hk hE (K := R_M) (T := F_M) (N := 17) (ci := 6) in_M ft_M_ok fn_M 0 (Nat.le_of_ble_eq_true rfl) rfl rfl 10 (by decide) tw_591 rfl rfl (rfl) (rfl) (Nat.le_of_ble_eq_true rfl) rfl dM_fill_158 (fun H locs hE => ?_)
      rw [mset_mhc0] at hE
      refine lv_iconst (v := nI 0) hx hb dM_fill_161 (by decide) ?_
      refine lv_istore_n (lv' := [(2, .int (nI 0)), (0, .ref (ad 0)), (1, .int (nI k))]) hx hb dM_fill_162 rfl hl (by decide) rfl (fun ls hl => ?_)
      refine lp_M_fi6 C hk hA hg hk9 hvb (flH x (nI 0)) (vH_fl hvx (Or.inl rfl)) (fun H locs ls hE hl => ?_) _ 0 (Nat.lt_succ_self _) (by decide) _ _ ls (wS_eq (show mhc σ (flH x (nI 0)) = mhc σ (swH σ P k (flH x (nI 0)) 0) by rfl) hE) (lv_sub hl [1, 2, 0] rfl)
      refine lv_goto (tgt := 149) hx hb dM_fill_210 (by decide) ?_
      exact ih (swH σ P k (flH x (nI 0)) 360) (Nat.lt_of_lt_of_le (zeH_lt c1 (ok_swH hg hk9 (vH_fl hvx (Or.inl rfl)) 360 (Nat.le_refl _))) (Nat.le_of_lt_succ hn)) ((ok_swH hg hk9 (vH_fl hvx (Or.inl rfl)) 360 (Nat.le_refl _)).1 (vH_fl hvx (Or.inl rfl))) (wh_back c1 hres) _ _ ls hE (lv_sub hl [0, 1] rfl)
set_option maxHeartbeats 4000000 in
set_option maxRecDepth 100000 in
theorem lp_M_fi4 {p : Program} {l : Launch} {e : Env} {s : State} {m : MethodId} {below : List Frame} {meth : Method} {c : Code} {D : va_G} {cs : Nat → ClassId} {ad : Nat → Nat} {A : Nat → Prop} {Q : State → Prop} {σ : Mem} {P k : Nat} (C : bC p s m ([.ref (ad 0), .int (nI k)] : List Value).toArray meth c bM_fill 5 "EarleyChartModel" none) (hk : wk D cs s) (hA : ∀ q : Nat, s.heap.size ≤ q → A q) (hg : mG σ P) (hk9 : k < 9) (hvb : bH (σ 5, σ 0 10)) (p9 : Nat) (d9 : Nat) (x : HC) (hpp : p9 < P) (hd : d9 < mn σ p9) (hvx : vH σ P k x) (K : ∀ (H : Heap) (locs : List Loc) (ls : Array Slot), wS (wM D cs ad) A s.heap (mhc σ (if bhF σ p9 d9 = σ 4 k then scH k p9 d9 x k else x)) H locs → lv_has ls 5 [(0, .ref (ad 0)), (1, .int (nI k)), (2, .int (nI p9)), (3, .int (nI d9))] → W p l e (rmF 2 53) s m ([.ref (ad 0), .int (nI k)] : List Value).toArray below meth c H locs 0 0 Q (F0 m 132 ls [])) :
    ∀ (n : Nat) (o : Nat), (k - o) < n → (o ≤ k) → (o = 0 ∨ bhF σ p9 d9 = σ 4 k) → ∀ (H : Heap) (locs : List Loc) (ls : Array Slot), wS (wM D cs ad) A s.heap (mhc σ (scH k p9 d9 x o)) H locs → lv_has ls 5 [(0, .ref (ad 0)), (1, .int (nI k)), (2, .int (nI p9)), (3, .int (nI d9)), (4, .int (nI o))] → W p l e (rmF 2 53) s m ([.ref (ad 0), .int (nI k)] : List Value).toArray below meth c H locs 0 0 Q (F0 m 80 ls []) := by
  obtain ⟨hx, hb, hml, hown, hts, hr, hlocks⟩ := id C
  have hP8 := hg.1
  intro n
  induction n with
  | zero => intro o h; exact absurd h (Nat.not_lt_zero _)
  | succ n ih =>
    intro o hn ho9 hc9 H locs ls hE hl
    have hmq := mG_m hg hpp
    refine lv_iload hx hb dM_fill_80 (lv_at hl 4 rfl) ?_
    refine lv_iload_n hx hb dM_fill_82 rfl (lv_at hl 1 rfl) ?_
    refine lv_icmp_ge (tgt := 132) hx hb dM_fill_83 (by decide) (fun c1 => ?_) (fun c1 => ?_)
    · have c1 : k ≤ o := (nI_leI (by omega) (by omega)).mp c1
      exact K _ _ ls (wS_eq (show mhc σ (scH k p9 d9 x o) = mhc σ (if bhF σ p9 d9 = σ 4 k then scH k p9 d9 x k else x) by first | (rw [hc9.resolve_right (by assumption), if_neg (by assumption), scH]; done) | (rw [if_pos (hc9.resolve_left (by omega)), show k = o by omega]; done) | (rcases hc9 with h | h; (rw [h, show k = 0 by omega, scH, ite_self]); (rw [if_pos h, show k = o by omega]))) hE) (lv_sub hl [0, 1, 2, 3] rfl)
    · have c1 : ¬ (k ≤ o) := fun h => c1 ((nI_leI (by omega) (by omega)).mpr h)
      refine lv_aload_n hx hb dM_fill_86 rfl (lv_at hl 0 rfl) ?_
      refine lv_iload_n hx hb dM_fill_87 rfl (lv_at hl 2 rfl) ?_
      refine lv_iload_n hx hb dM_fill_88 rfl (lv_at hl 3 rfl) ?_
      refine w_ci hE hA (w_runV C hk hE hl.1 (As := [.int (nI p9), .int (nI d9)]) (rest := []) (q := 0) (c_M_behind l D cs ad (mhc σ (scH k p9 d9 x o)) P p9 d9 (mG_mhc hg) (hpp) (by omega) _) (Nat.le_of_ble_eq_true rfl) (ci := 6) (N := 17) (T := F_M) rfl rfl tw_662 tw_664 ts_23 tw_9 tw_665 (n := 2) (by decide +kernel) rfl rfl (Nat.le_of_ble_eq_true rfl) dM_fill_89 ⟨Nat.le_of_ble_eq_true rfl, Nat.le_of_ble_eq_true rfl⟩ ⟨Nat.zero_le _, Nat.zero_le _⟩) (fun r2 τ3 H locs hp hE _ _ => ?_)
      refine w_top (y := bhF σ p9 d9) (hp.1.trans bhF_mhc) ?_
      have hE := wS_eq hp.2 hE
      refine lv_aload_n hx hb dM_fill_92 rfl (lv_at hl 0 rfl) ?_
      refine w_get C hk hE (K := R_M) (T := F_M) (N := 17) (ci := 6) in_M 0 (Nat.le_of_ble_eq_true rfl) rfl rfl 8 (by decide) tw_589 rfl rfl dM_fill_93 ?_
      refine lv_iload_n hx hb dM_fill_96 rfl (lv_at hl 1 rfl) ?_
      refine w_iald C hk hE 4 (by exact Nat.le_of_ble_eq_true rfl) (n := 9) rfl (by omega) (by first | decide | omega) dM_fill_97 ?_
      refine w_top (y := σ 4 k) (by simp [mset, mrow, upd, mhc]) ?_
      refine lv_icmp_ne (tgt := 132) hx hb dM_fill_98 (by decide) (fun c4 => ?_) (fun c4 => ?_)
      · exact K _ _ ls (wS_eq (show mhc σ (scH k p9 d9 x o) = mhc σ (if bhF σ p9 d9 = σ 4 k then scH k p9 d9 x k else x) by first | (rw [hc9.resolve_right (by assumption), if_neg (by assumption), scH]; done) | (rw [if_pos (hc9.resolve_left (by omega)), show k = o by omega]; done) | (rcases hc9 with h | h; (rw [h, show k = 0 by omega, scH, ite_self]); (rw [if_pos h, show k = o by omega]))) hE) (lv_sub hl [0, 1, 2, 3] rfl)
      · refine lv_aload_n hx hb dM_fill_101 rfl (lv_at hl 0 rfl) ?_
        refine lv_iload_n hx hb dM_fill_102 rfl (lv_at hl 1 rfl) ?_
        refine lv_iconst (v := nI 1) hx hb dM_fill_103 (by decide) ?_
        refine lv_isub hx hb dM_fill_104 ?_
        refine w_top (y := nI (k - 1)) (w_sub (by omega) (by omega)) ?_
        refine lv_iload_n hx hb dM_fill_105 rfl (lv_at hl 2 rfl) ?_
        refine lv_iload_n hx hb dM_fill_106 rfl (lv_at hl 3 rfl) ?_
        refine lv_iload hx hb dM_fill_107 (lv_at hl 4 rfl) ?_
        refine w_ci hE hA (w_runV C hk hE hl.1 (As := [.int (nI (k - 1)), .int (nI p9), .int (nI d9), .int (nI o)]) (rest := []) (q := 0) (c_M_isIn l D cs ad (mhc σ (scH k p9 d9 x o)) (k - 1) p9 d9 o (by omega) (by omega) (by omega) (by omega) (by rw [mhc_5]; exact (((ok_scH (x := x) hg hk9 hpp hd o (by omega)).1 hvx).1).1 _) _) (Nat.le_of_ble_eq_true rfl) (ci := 6) (N := 17) (T := F_M) rfl rfl tw_666 tw_668 ts_24 tw_9 tw_669 (n := 4) (by decide +kernel) rfl rfl (Nat.le_of_ble_eq_true rfl) dM_fill_109 ⟨Nat.le_of_ble_eq_true rfl, Nat.le_of_ble_eq_true rfl⟩ ⟨Nat.zero_le _, Nat.zero_le _⟩) (fun r5 τ6 H locs hp hE _ _ => ?_)
        refine w_top (y := (scH k p9 d9 x o).1 (ix (k - 1) p9 d9 o)) (hp.1.trans (by rw [mhc_5])) ?_
        have hE := wS_eq hp.2 hE
        refine lv_if_eq (tgt := 126) hx hb dM_fill_112 (by decide) (fun c7 => ?_) (fun c7 => ?_)
        · refine lv_iinc (v := nI (o + 1)) (lv' := [(4, .int (nI (o + 1))), (0, .ref (ad 0)), (1, .int (nI k)), (2, .int (nI p9)), (3, .int (nI d9))]) hx hb dM_fill_126 hl (k := 4) rfl (by exact nI_1 _) (by decide) rfl (fun ls hl => ?_)
          refine lv_goto (tgt := 80) hx hb dM_fill_129 (by decide) ?_
          exact ih (o + 1) (by omega) (by omega) (Or.inr c4) _ _ ls (wS_eq (show mhc σ (scH k p9 d9 x o) = mhc σ (scH k p9 d9 x (o + 1)) by simp only [scH, c7, if_true, if_false]) hE) (lv_sub hl [1, 2, 3, 4, 0] rfl)
        · refine lv_aload_n hx hb dM_fill_115 rfl (lv_at hl 0 rfl) ?_
          refine lv_iload_n hx hb dM_fill_116 rfl (lv_at hl 1 rfl) ?_
          refine lv_iload_n hx hb dM_fill_117 rfl (lv_at hl 2 rfl) ?_
          refine lv_iload_n hx hb dM_fill_118 rfl (lv_at hl 3 rfl) ?_
          refine lv_iconst (v := nI 1) hx hb dM_fill_119 (by decide) ?_
          refine lv_iadd hx hb dM_fill_120 ?_
          refine w_top (y := nI (d9 + 1)) (by first | exact nI_add _ _ | simp only [nI_add, Nat.add_assoc, Nat.add_zero, Nat.zero_add]) ?_
          refine lv_iload hx hb dM_fill_121 (lv_at hl 4 rfl) ?_
          refine w_cv hE hA (w_runV C hk hE hl.1 (As := [.int (nI k), .int (nI p9), .int (nI (d9 + 1)), .int (nI o)]) (rest := []) (q := 0) (c_M_put l D cs ad (mhc σ (scH k p9 d9 x o)) k p9 (d9 + 1) o (hk9) (by omega) (by omega) (by omega) _) (Nat.le_of_ble_eq_true rfl) (ci := 6) (N := 17) (T := F_M) rfl rfl tw_658 tw_660 ts_22 tw_9 tw_661 (n := 4) (by decide +kernel) rfl rfl (Nat.le_of_ble_eq_true rfl) dM_fill_123 ⟨Nat.le_of_ble_eq_true rfl, Nat.le_of_ble_eq_true rfl⟩ ⟨Nat.zero_le _, Nat.zero_le _⟩) (fun τ9 H locs hp hE _ _ => ?_)
          have hE : wS (wM D cs ad) A s.heap (mhc σ (putH (scH k p9 d9 x o) (ix k p9 (d9 + 1) o))) H locs := wS_eq (hp.trans (by rw [mhc_mhc, mhc_5, mhc_10])) hE
          refine lv_iinc (v := nI (o + 1)) (lv' := [(4, .int (nI (o + 1))), (0, .ref (ad 0)), (1, .int (nI k)), (2, .int (nI p9)), (3, .int (nI d9))]) hx hb dM_fill_126 hl (k := 4) rfl (by exact nI_1 _) (by decide) rfl (fun ls hl => ?_)
          refine lv_goto (tgt := 80) hx hb dM_fill_129 (by decide) ?_
          exact ih (o + 1) (by omega) (by omega) (Or.inr c4) _ _ ls (wS_eq (show mhc σ (putH (scH k p9 d9 x o) (ix k p9 (d9 + 1) o)) = mhc σ (scH k p9 d9 x (o + 1)) by simp only [scH, c7, if_true, if_false]) hE) (lv_sub hl [1, 2, 3, 4, 0] rfl)
set_option maxHeartbeats 4000000 in
set_option maxRecDepth 100000 in
theorem lp_M_fi3 {p : Program} {l : Launch} {e : Env} {s : State} {m : MethodId} {below : List Frame} {meth : Method} {c : Code} {D : va_G} {cs : Nat → ClassId} {ad : Nat → Nat} {A : Nat → Prop} {Q : State → Prop} {σ : Mem} {P k : Nat} (C : bC p s m ([.ref (ad 0), .int (nI k)] : List Value).toArray meth c bM_fill 5 "EarleyChartModel" none) (hk : wk D cs s) (hA : ∀ q : Nat, s.heap.size ≤ q → A q) (hg : mG σ P) (hk9 : k < 9) (hvb : bH (σ 5, σ 0 10)) (p9 : Nat) (x : HC) (hpp : p9 < P) (hvx : vH σ P k x) (K : ∀ (H : Heap) (locs : List Loc) (ls : Array Slot), wS (wM D cs ad) A s.heap (mhc σ (sdH σ k p9 x (mn σ p9))) H locs → lv_has ls 5 [(0, .ref (ad 0)), (1, .int (nI k)), (2, .int (nI p9))] → W p l e (rmF 2 53) s m ([.ref (ad 0), .int (nI k)] : List Value).toArray below meth c H locs 0 0 Q (F0 m 138 ls [])) :
    ∀ (n : Nat) (d9 : Nat), (mn σ p9 - d9) < n → (d9 ≤ mn σ p9) → ∀ (H : Heap) (locs : List Loc) (ls : Array Slot), wS (wM D cs ad) A s.heap (mhc σ (sdH σ k p9 x d9)) H locs → lv_has ls 5 [(0, .ref (ad 0)), (1, .int (nI k)), (2, .int (nI p9)), (3, .int (nI d9))] → W p l e (rmF 2 53) s m ([.ref (ad 0), .int (nI k)] : List Value).toArray below meth c H locs 0 0 Q (F0 m 67 ls []) := by
  obtain ⟨hx, hb, hml, hown, hts, hr, hlocks⟩ := id C
  have hP8 := hg.1
  intro n
  induction n with
  | zero => intro d9 h; exact absurd h (Nat.not_lt_zero _)
  | succ n ih =>
    intro d9 hn hd9 H locs ls hE hl
    have hmq := mG_m hg hpp
    refine lv_iload_n hx hb dM_fill_67 rfl (lv_at hl 3 rfl) ?_
    refine lv_aload_n hx hb dM_fill_68 rfl (lv_at hl 0 rfl) ?_
    refine w_get C hk hE (K := R_M) (T := F_M) (N := 17) (ci := 6) in_M 0 (Nat.le_of_ble_eq_true rfl) rfl rfl 5 (by decide) tw_586 rfl rfl dM_fill_69 ?_
    refine lv_iload_n hx hb dM_fill_72 rfl (lv_at hl 2 rfl) ?_
    refine w_iald C hk hE 2 (by exact Nat.le_of_ble_eq_true rfl) (n := 8) rfl (by omega) (by first | decide | omega) dM_fill_73 ?_
    refine w_top (y := σ 2 p9) (by simp [mset, mrow, upd, mhc]) ?_
    refine w_top (y := nI (mn σ p9)) ((hg.2.2 p9 (by omega)).2.2.1) ?_
    refine lv_icmp_ge (tgt := 138) hx hb dM_fill_74 (by decide) (fun c1 => ?_) (fun c1 => ?_)
    · have c1 : (mn σ p9) ≤ d9 := (nI_leI (by omega) (by omega)).mp c1
      exact K _ _ ls (wS_eq (show mhc σ (sdH σ k p9 x d9) = mhc σ (sdH σ k p9 x (mn σ p9)) by rw [show mn σ p9 = d9 by omega]) hE) (lv_sub hl [0, 1, 2] rfl)
    · have c1 : ¬ ((mn σ p9) ≤ d9) := fun h => c1 ((nI_leI (by omega) (by omega)).mpr h)
      refine lv_iconst (v := nI 0) hx hb dM_fill_77 (by decide) ?_
      refine lv_istore (lv' := [(4, .int (nI 0)), (0, .ref (ad 0)), (1, .int (nI k)), (2, .int (nI p9)), (3, .int (nI d9))]) hx hb dM_fill_78 hl (by decide) rfl (fun ls hl => ?_)
      refine lp_M_fi4 C hk hA hg hk9 hvb p9 d9 (sdH σ k p9 x d9) (hpp) (by omega) ((ok_sdH (x := x) hg hk9 hpp d9 (by omega)).1 hvx) (fun H locs ls hE hl => ?_) _ 0 (Nat.lt_succ_self _) (Nat.zero_le _) (Or.inl rfl) _ _ ls (wS_eq (show mhc σ (sdH σ k p9 x d9) = mhc σ (scH k p9 d9 (sdH σ k p9 x d9) 0) by rfl) hE) (lv_sub hl [1, 2, 3, 4, 0] rfl)
      refine lv_iinc (v := nI (d9 + 1)) (lv' := [(3, .int (nI (d9 + 1))), (0, .ref (ad 0)), (1, .int (nI k)), (2, .int (nI p9))]) hx hb dM_fill_132 hl (k := 3) rfl (by exact nI_1 _) (by decide) rfl (fun ls hl => ?_)
      refine lv_goto (tgt := 67) hx hb dM_fill_135 (by decide) ?_
      exact ih (d9 + 1) (by omega) (by omega) _ _ ls (wS_eq (show mhc σ (if bhF σ p9 d9 = σ 4 k then scH k p9 d9 (sdH σ k p9 x d9) k else (sdH σ k p9 x d9)) = mhc σ (sdH σ k p9 x (d9 + 1)) by rfl) hE) (lv_sub hl [1, 2, 3, 0] rfl)
set_option maxHeartbeats 4000000 in
set_option maxRecDepth 100000 in
theorem lp_M_fi2 {p : Program} {l : Launch} {e : Env} {s : State} {m : MethodId} {below : List Frame} {meth : Method} {c : Code} {D : va_G} {cs : Nat → ClassId} {ad : Nat → Nat} {A : Nat → Prop} {Q : State → Prop} {σ : Mem} {P k : Nat} (C : bC p s m ([.ref (ad 0), .int (nI k)] : List Value).toArray meth c bM_fill 5 "EarleyChartModel" none) (hk : wk D cs s) (hA : ∀ q : Nat, s.heap.size ≤ q → A q) (hg : mG σ P) (hk9 : k < 9) (hvb : bH (σ 5, σ 0 10)) (x : HC) (hvx : vH σ P k x) (K : ∀ (H : Heap) (locs : List Loc) (ls : Array Slot), wS (wM D cs ad) A s.heap (mhc σ (spH σ k x P)) H locs → lv_has ls 5 [(0, .ref (ad 0)), (1, .int (nI k))] → W p l e (rmF 2 53) s m ([.ref (ad 0), .int (nI k)] : List Value).toArray below meth c H locs 0 0 Q (F0 m 144 ls [])) :
    ∀ (n : Nat) (p9 : Nat), (P - p9) < n → (p9 ≤ P) → ∀ (H : Heap) (locs : List Loc) (ls : Array Slot), wS (wM D cs ad) A s.heap (mhc σ (spH σ k x p9)) H locs → lv_has ls 5 [(0, .ref (ad 0)), (1, .int (nI k)), (2, .int (nI p9))] → W p l e (rmF 2 53) s m ([.ref (ad 0), .int (nI k)] : List Value).toArray below meth c H locs 0 0 Q (F0 m 30 ls []) := by
  obtain ⟨hx, hb, hml, hown, hts, hr, hlocks⟩ := id C
  have hP8 := hg.1
  intro n
  induction n with
  | zero => intro p9 h; exact absurd h (Nat.not_lt_zero _)
  | succ n ih =>
    intro p9 hn hp9 H locs ls hE hl
    refine lv_iload_n hx hb dM_fill_30 rfl (lv_at hl 2 rfl) ?_
    refine lv_aload_n hx hb dM_fill_31 rfl (lv_at hl 0 rfl) ?_
    refine w_get C hk hE (K := R_M) (T := F_M) (N := 17) (ci := 6) in_M 0 (Nat.le_of_ble_eq_true rfl) rfl rfl 3 (by decide) tw_584 rfl rfl dM_fill_32 ?_
    refine w_top (y := σ 0 3) (by simp [mset, mrow, upd, mhc]) ?_
    refine w_top (y := nI P) (hg.2.1) ?_
    refine lv_icmp_ge (tgt := 144) hx hb dM_fill_35 (by decide) (fun c1 => ?_) (fun c1 => ?_)
    · have c1 : P ≤ p9 := (nI_leI (by omega) (by omega)).mp c1
      exact K _ _ ls (wS_eq (show mhc σ (spH σ k x p9) = mhc σ (spH σ k x P) by rw [show P = p9 by omega]) hE) (lv_sub hl [0, 1] rfl)
    · have c1 : ¬ (P ≤ p9) := fun h => c1 ((nI_leI (by omega) (by omega)).mpr h)
      refine lv_iload_n hx hb dM_fill_38 rfl (lv_at hl 1 rfl) ?_
      refine lv_if_ne (tgt := 65) hx hb dM_fill_39 (by decide) (fun c2 => ?_) (fun c2 => ?_)
      · have c2 := w_n0 (by omega) c2
        refine lv_iconst (v := nI 0) hx hb dM_fill_65 (by decide) ?_
        refine lv_istore_n (lv' := [(3, .int (nI 0)), (0, .ref (ad 0)), (1, .int (nI k)), (2, .int (nI p9))]) hx hb dM_fill_66 rfl hl (by decide) rfl (fun ls hl => ?_)
        refine lp_M_fi3 C hk hA hg hk9 hvb p9 (s0H σ k p9 (spH σ k x p9)) (by omega) ((okH_tr (ok_spH (x := x) hg hk9 p9 (by omega)) (ok_s0H hg hk9 (by omega))).1 hvx) (fun H locs ls hE hl => ?_) _ 0 (Nat.lt_succ_self _) (Nat.zero_le _) _ _ ls (wS_eq (show mhc σ (spH σ k x p9) = mhc σ (sdH σ k p9 (s0H σ k p9 (spH σ k x p9)) 0) by simp only [sdH, s0H, c2, if_true, if_false]) hE) (lv_sub hl [1, 2, 3, 0] rfl)
        refine lv_iinc (v := nI (p9 + 1)) (lv' := [(2, .int (nI (p9 + 1))), (0, .ref (ad 0)), (1, .int (nI k))]) hx hb dM_fill_138 hl (k := 2) rfl (by exact nI_1 _) (by decide) rfl (fun ls hl => ?_)
        refine lv_goto (tgt := 30) hx hb dM_fill_141 (by decide) ?_
        exact ih (p9 + 1) (by omega) (by omega) _ _ ls (wS_eq (show mhc σ (sdH σ k p9 (s0H σ k p9 (spH σ k x p9)) (mn σ p9)) = mhc σ (spH σ k x (p9 + 1)) by rfl) hE) (lv_sub hl [1, 2, 0] rfl)
      · have c2 := w_z0 (by omega) c2
        refine lv_aload_n hx hb dM_fill_42 rfl (lv_at hl 0 rfl) ?_
        refine w_get C hk hE (K := R_M) (T := F_M) (N := 17) (ci := 6) in_M 0 (Nat.le_of_ble_eq_true rfl) rfl rfl 4 (by decide) tw_585 rfl rfl dM_fill_43 ?_
        refine lv_iload_n hx hb dM_fill_46 rfl (lv_at hl 2 rfl) ?_
        refine w_iald C hk hE 1 (by exact Nat.le_of_ble_eq_true rfl) (n := 8) rfl (by omega) (by first | decide | omega) dM_fill_47 ?_
        refine w_top (y := σ 1 p9) (by simp [mset, mrow, upd, mhc]) ?_
        refine lv_aload_n hx hb dM_fill_48 rfl (lv_at hl 0 rfl) ?_
        refine w_get C hk hE (K := R_M) (T := F_M) (N := 17) (ci := 6) in_M 0 (Nat.le_of_ble_eq_true rfl) rfl rfl 4 (by decide) tw_585 rfl rfl dM_fill_49 ?_
        refine lv_iconst (v := nI 0) hx hb dM_fill_52 (by decide) ?_
        refine w_iald C hk hE 1 (by exact Nat.le_of_ble_eq_true rfl) (n := 8) rfl (by omega) (by first | decide | omega) dM_fill_53 ?_
        refine w_top (y := σ 1 0) (by simp [mset, mrow, upd, mhc]) ?_
        refine lv_icmp_ne (tgt := 65) hx hb dM_fill_54 (by decide) (fun c3 => ?_) (fun c3 => ?_)
        · refine lv_iconst (v := nI 0) hx hb dM_fill_65 (by decide) ?_
          refine lv_istore_n (lv' := [(3, .int (nI 0)), (0, .ref (ad 0)), (1, .int (nI k)), (2, .int (nI p9))]) hx hb dM_fill_66 rfl hl (by decide) rfl (fun ls hl => ?_)
          refine lp_M_fi3 C hk hA hg hk9 hvb p9 (s0H σ k p9 (spH σ k x p9)) (by omega) ((okH_tr (ok_spH (x := x) hg hk9 p9 (by omega)) (ok_s0H hg hk9 (by omega))).1 hvx) (fun H locs ls hE hl => ?_) _ 0 (Nat.lt_succ_self _) (Nat.zero_le _) _ _ ls (wS_eq (show mhc σ (spH σ k x p9) = mhc σ (sdH σ k p9 (s0H σ k p9 (spH σ k x p9)) 0) by simp only [sdH, s0H, c2, c3, if_true, if_false]) hE) (lv_sub hl [1, 2, 3, 0] rfl)
          refine lv_iinc (v := nI (p9 + 1)) (lv' := [(2, .int (nI (p9 + 1))), (0, .ref (ad 0)), (1, .int (nI k))]) hx hb dM_fill_138 hl (k := 2) rfl (by exact nI_1 _) (by decide) rfl (fun ls hl => ?_)
          refine lv_goto (tgt := 30) hx hb dM_fill_141 (by decide) ?_
          exact ih (p9 + 1) (by omega) (by omega) _ _ ls (wS_eq (show mhc σ (sdH σ k p9 (s0H σ k p9 (spH σ k x p9)) (mn σ p9)) = mhc σ (spH σ k x (p9 + 1)) by rfl) hE) (lv_sub hl [1, 2, 0] rfl)
        · refine lv_aload_n hx hb dM_fill_57 rfl (lv_at hl 0 rfl) ?_
          refine lv_iconst (v := nI 0) hx hb dM_fill_58 (by decide) ?_
          refine lv_iload_n hx hb dM_fill_59 rfl (lv_at hl 2 rfl) ?_
          refine lv_iconst (v := nI 0) hx hb dM_fill_60 (by decide) ?_
          refine lv_iconst (v := nI 0) hx hb dM_fill_61 (by decide) ?_
          refine w_cv hE hA (w_runV C hk hE hl.1 (As := [.int (nI 0), .int (nI p9), .int (nI 0), .int (nI 0)]) (rest := []) (q := 0) (c_M_put l D cs ad (mhc σ (spH σ k x p9)) 0 p9 0 0 (by decide) (by omega) (by decide) (by decide) _) (Nat.le_of_ble_eq_true rfl) (ci := 6) (N := 17) (T := F_M) rfl rfl tw_658 tw_660 ts_22 tw_9 tw_661 (n := 4) (by decide +kernel) rfl rfl (Nat.le_of_ble_eq_true rfl) dM_fill_62 ⟨Nat.le_of_ble_eq_true rfl, Nat.le_of_ble_eq_true rfl⟩ ⟨Nat.zero_le _, Nat.zero_le _⟩) (fun τ5 H locs hp hE _ _ => ?_)
          have hE : wS (wM D cs ad) A s.heap (mhc σ (putH (spH σ k x p9) (ix 0 p9 0 0))) H locs := wS_eq (hp.trans (by rw [mhc_mhc, mhc_5, mhc_10])) hE
          refine lv_iconst (v := nI 0) hx hb dM_fill_65 (by decide) ?_
          refine lv_istore_n (lv' := [(3, .int (nI 0)), (0, .ref (ad 0)), (1, .int (nI k)), (2, .int (nI p9))]) hx hb dM_fill_66 rfl hl (by decide) rfl (fun ls hl => ?_)
          refine lp_M_fi3 C hk hA hg hk9 hvb p9 (s0H σ k p9 (spH σ k x p9)) (by omega) ((okH_tr (ok_spH (x := x) hg hk9 p9 (by omega)) (ok_s0H hg hk9 (by omega))).1 hvx) (fun H locs ls hE hl => ?_) _ 0 (Nat.lt_succ_self _) (Nat.zero_le _) _ _ ls (wS_eq (show mhc σ (putH (spH σ k x p9) (ix 0 p9 0 0)) = mhc σ (sdH σ k p9 (s0H σ k p9 (spH σ k x p9)) 0) by simp only [sdH, s0H, c2, c3, if_true, if_false]) hE) (lv_sub hl [1, 2, 3, 0] rfl)
          refine lv_iinc (v := nI (p9 + 1)) (lv' := [(2, .int (nI (p9 + 1))), (0, .ref (ad 0)), (1, .int (nI k))]) hx hb dM_fill_138 hl (k := 2) rfl (by exact nI_1 _) (by decide) rfl (fun ls hl => ?_)
          refine lv_goto (tgt := 30) hx hb dM_fill_141 (by decide) ?_
          exact ih (p9 + 1) (by omega) (by omega) _ _ ls (wS_eq (show mhc σ (sdH σ k p9 (s0H σ k p9 (spH σ k x p9)) (mn σ p9)) = mhc σ (spH σ k x (p9 + 1)) by rfl) hE) (lv_sub hl [1, 2, 0] rfl)
set_option maxHeartbeats 4000000 in
set_option maxRecDepth 100000 in
theorem lp_M_fi1 {p : Program} {l : Launch} {e : Env} {s : State} {m : MethodId} {below : List Frame} {meth : Method} {c : Code} {D : va_G} {cs : Nat → ClassId} {ad : Nat → Nat} {A : Nat → Prop} {Q : State → Prop} {σ : Mem} {P k : Nat} (C : bC p s m ([.ref (ad 0), .int (nI k)] : List Value).toArray meth c bM_fill 5 "EarleyChartModel" none) (hk : wk D cs s) (hA : ∀ q : Nat, s.heap.size ≤ q → A q) (hg : mG σ P) (hk9 : k < 9) (hvb : bH (σ 5, σ 0 10))   (K : ∀ (H : Heap) (locs : List Loc) (ls : Array Slot), wS (wM D cs ad) A s.heap (mhc σ (clH k (σ 5, σ 0 10) 360)) H locs → lv_has ls 5 [(0, .ref (ad 0)), (1, .int (nI k))] → W p l e (rmF 2 53) s m ([.ref (ad 0), .int (nI k)] : List Value).toArray below meth c H locs 0 0 Q (F0 m 28 ls [])) :
    ∀ (n : Nat) (i : Nat), (360 - i) < n → (i ≤ 360) → ∀ (H : Heap) (locs : List Loc) (ls : Array Slot), wS (wM D cs ad) A s.heap (mhc σ (clH k (σ 5, σ 0 10) i)) H locs → lv_has ls 5 [(0, .ref (ad 0)), (1, .int (nI k)), (2, .int (nI i))] → W p l e (rmF 2 53) s m ([.ref (ad 0), .int (nI k)] : List Value).toArray below meth c H locs 0 0 Q (F0 m 2 ls []) := by
  obtain ⟨hx, hb, hml, hown, hts, hr, hlocks⟩ := id C
  have hP8 := hg.1
  intro n
  induction n with
  | zero => intro i h; exact absurd h (Nat.not_lt_zero _)
  | succ n ih =>
    intro i hn hi H locs ls hE hl
    refine lv_iload_n hx hb dM_fill_2 rfl (lv_at hl 2 rfl) ?_
    refine lv_sipush (v := nI 360) hx hb dM_fill_3 (by decide) ?_
    refine lv_icmp_ge (tgt := 28) hx hb dM_fill_6 (by decide) (fun c1 => ?_) (fun c1 => ?_)
    · have c1 : 360 ≤ i := (nI_leI (by omega) (by omega)).mp c1
      exact K _ _ ls (wS_eq (show mhc σ (clH k (σ 5, σ 0 10) i) = mhc σ (clH k (σ 5, σ 0 10) 360) by rw [show 360 = i by omega]) hE) (lv_sub hl [0, 1] rfl)
    · have c1 : ¬ (360 ≤ i) := fun h => c1 ((nI_leI (by omega) (by omega)).mpr h)
      refine lv_aload_n hx hb dM_fill_9 rfl (lv_at hl 0 rfl) ?_
      refine w_get C hk hE (K := R_M) (T := F_M) (N := 17) (ci := 6) in_M 0 (Nat.le_of_ble_eq_true rfl) rfl rfl 9 (by decide) tw_590 rfl rfl dM_fill_10 ?_
      refine lv_sipush (v := nI 360) hx hb dM_fill_13 (by decide) ?_
      refine lv_iload_n hx hb dM_fill_16 rfl (lv_at hl 1 rfl) ?_
      refine lv_imul hx hb dM_fill_17 ?_
      refine w_top (y := nI (360 * k)) (by exact pk_mul _ _) ?_
      refine lv_iload_n hx hb dM_fill_18 rfl (lv_at hl 2 rfl) ?_
      refine lv_iadd hx hb dM_fill_19 ?_
      refine w_top (y := nI ((360 * k) + i)) (by first | exact nI_add _ _ | simp only [nI_add, Nat.add_assoc, Nat.add_zero, Nat.zero_add]) ?_
      refine lv_iconst (v := nI 0) hx hb dM_fill_20 (by decide) ?_
      refine w_zast C hk hE 5 (Nat.le_of_ble_eq_true rfl) (n := 3240) (fun _ => rfl) (by omega) (by decide) (by first | exact Or.inl rfl | exact Or.inr rfl) dM_fill_21 (fun H locs hE => ?_)
      rw [mset_mhc] at hE
      refine lv_iinc (v := nI (i + 1)) (lv' := [(2, .int (nI (i + 1))), (0, .ref (ad 0)), (1, .int (nI k))]) hx hb dM_fill_22 hl (k := 2) rfl (by exact nI_1 _) (by decide) rfl (fun ls hl => ?_)
      refine lv_goto (tgt := 2) hx hb dM_fill_25 (by decide) ?_
      exact ih (i + 1) (by omega) (by omega) _ _ ls (wS_eq (show mhc σ (stH (clH k (σ 5, σ 0 10) i) ((360 * k) + i) (nI 0)) = mhc σ (clH k (σ 5, σ 0 10) (i + 1)) by rfl) hE) (lv_sub hl [1, 2, 0] rfl)
set_option maxHeartbeats 4000000 in
set_option maxRecDepth 100000 in
theorem c_M_fill (l : Launch) (D : va_G) (cs : Nat → ClassId) (ad : Nat → Nat) (σ : Mem) (P k : Nat) (hg : mG σ P) (hk9 : k < 9) (hvb : bH (σ 5, σ 0 10)) : MetV l (wM D cs ad) cs yM_fill bM_fill 5 2 53 [.ref (ad 0), .int (nI k)] σ (filP σ P k) := by
  refine MetV.start (by decide) (Nat.le_of_ble_eq_true rfl) ?_
  intro p e s m below meth c A ls C hk hA hE hl
  obtain ⟨hx, hb, hml, hown, hts, hr, hlocks⟩ := id C
  have hl : lv_has ls 5 [(0, .ref (ad 0)), (1, .int (nI k))] := hl
  have hP8 := hg.1
  refine lv_iconst (v := nI 0) hx hb dM_fill_0 (by decide) ?_
  refine lv_istore_n (lv' := [(2, .int (nI 0)), (0, .ref (ad 0)), (1, .int (nI k))]) hx hb dM_fill_1 rfl hl (by decide) rfl (fun ls hl => ?_)
  refine lp_M_fi1 C hk hA hg hk9 hvb   (fun H locs ls hE hl => ?_) _ 0 (Nat.lt_succ_self _) (by decide) _ _ ls (wS_eq (show σ = mhc σ (clH k (σ 5, σ 0 10) 0) by rw [clH, mhc_id]) hE) (lv_sub hl [1, 2, 0] rfl)
  refine lv_iconst (v := nI 0) hx hb dM_fill_28 (by decide) ?_
  refine lv_istore_n (lv' := [(2, .int (nI 0)), (0, .ref (ad 0)), (1, .int (nI k))]) hx hb dM_fill_29 rfl hl (by decide) rfl (fun ls hl => ?_)
  refine lp_M_fi2 C hk hA hg hk9 hvb (clH k (σ 5, σ 0 10) 360) (vH_cl hvb) (fun H locs ls hE hl => ?_) _ 0 (Nat.lt_succ_self _) (Nat.zero_le _) _ _ ls (wS_eq (show mhc σ (clH k (σ 5, σ 0 10) 360) = mhc σ (spH σ k (clH k (σ 5, σ 0 10) 360) 0) by rfl) hE) (lv_sub hl [1, 2, 0] rfl)
  refine lv_aload_n hx hb dM_fill_144 rfl (lv_at hl 0 rfl) ?_
  refine lv_iconst (v := nI 1) hx hb dM_fill_145 (by decide) ?_
  refine w_put C hk hE (K := R_M) (T := F_M) (N := 17) (ci := 6) in_M ft_M_ok fn_M 0 (Nat.le_of_ble_eq_true rfl) rfl rfl 10 (by decide) tw_591 rfl rfl (rfl) (rfl) (Nat.le_of_ble_eq_true rfl) rfl dM_fill_146 (fun H locs hE => ?_)
  rw [mset_mhc0] at hE
  exact lp_M_fi5 C hk hA hg hk9 hvb _ (flH (spH σ k (clH k (σ 5, σ 0 10) 360) P) (nI 1)) (Nat.lt_succ_self _) (vH_fl ((ok_spH (x := clH k (σ 5, σ 0 10) 360) hg hk9 P (Nat.le_refl _)).1 (vH_cl hvb)) (Or.inr rfl)) (⟨0, fun N => by rw [Nat.zero_add]⟩) _ _ ls hE (lv_sub hl [0, 1] rfl)
end
section
/-! the model's steps: rows of natural numbers -/
def nR (f : Nat → Nat) : Nat → Int32 := fun i => nI (f i)
def updN (f : Nat → Nat) (k x : Nat) : Nat → Nat := fun j => if j = k then x else f j
theorem upd_nR {f : Nat → Nat} {k x : Nat} : upd (nR f) k (nI x) = nR (updN f k x) := by
  funext j; unfold upd nR updN; by_cases h : j = k <;> simp [h]
def msr (σ : Mem) (s r : Nat → Nat) : Mem := mrow (mrow σ 6 (nR s)) 7 (nR r)
theorem msr_6 {σ : Mem} {s r : Nat → Nat} : msr σ s r 6 = nR s := by unfold msr; rw [mrow_n (by decide), mrow_s]
theorem msr_7 {σ : Mem} {s r : Nat → Nat} : msr σ s r 7 = nR r := mrow_s
theorem msr_n {σ : Mem} {s r : Nat → Nat} {q : Nat} (h6 : q ≠ 6) (h7 : q ≠ 7) : msr σ s r q = σ q := by unfold msr; rw [mrow_n h7, mrow_n h6]
theorem msr_set7 {σ : Mem} {s r : Nat → Nat} {i x : Nat} : mset (msr σ s r) 7 i (nI x) = msr σ s (updN r i x) := by
  unfold msr; rw [mset_mrow, upd_nR]
theorem msr_set6 {σ : Mem} {s r : Nat → Nat} {i x : Nat} : mset (msr σ s r) 6 i (nI x) = msr σ (updN s i x) r := by
  funext j
  unfold mset msr
  by_cases h6 : j = 6
  · subst h6; rw [mrow_s, mrow_n (by decide), mrow_s, mrow_n (by decide), mrow_s, upd_nR]
  · rw [mrow_n h6]
    by_cases h7 : j = 7
    · subst h7; rw [mrow_s, mrow_s]
    · rw [mrow_n h7, mrow_n h6, mrow_n h7, mrow_n h6]
theorem msr_id {σ : Mem} {s r : Nat → Nat} (h6 : σ 6 = nR s) (h7 : σ 7 = nR r) : σ = msr σ s r := by
  unfold msr; rw [← h6, mrow_id, ← h7, mrow_id]
theorem mG_msr {σ : Mem} {P : Nat} {s r : Nat → Nat} (h : mG σ P) : mG (msr σ s r) P := mG_of h (congrFun (msr_n (by decide) (by decide)) _) (msr_n (by decide) (by decide)) (msr_n (by decide) (by decide)) (msr_n (by decide) (by decide))
def stN (σ : Mem) (s : Nat → Nat) (y i j : Nat) : Nat := if 100 ≤ y then (if j = i + 1 then (if σ 4 j = nI y then 0 else 1000000) else 1000000) else s (81 * y + 9 * i + j)
theorem stN_le {σ : Mem} {s : Nat → Nat} {y i j : Nat} (h : ∀ c, s c ≤ 1000000) : stN σ s y i j ≤ 1000000 := by
  unfold stN
  split
  · split
    · split <;> omega
    · omega
  · exact h _
def bsN (σ : Mem) (s : Nat → Nat) (p d : Nat) (r : Nat → Nat) (a : Nat) : Nat → Nat
  | 0 => 1000000
  | c + 1 => if stN σ s (mr σ (4 * p + d)) a (a + c) + r (9 * (d + 1) + (a + c)) < bsN σ s p d r a c then stN σ s (mr σ (4 * p + d)) a (a + c) + r (9 * (d + 1) + (a + c)) else bsN σ s p d r a c
theorem bsN_le {σ : Mem} {s : Nat → Nat} {p d : Nat} {r : Nat → Nat} {a : Nat} : ∀ c, bsN σ s p d r a c ≤ 1000000
  | 0 => Nat.le_refl _
  | c + 1 => by
    rw [bsN]
    have := bsN_le (σ := σ) (s := s) (p := p) (d := d) (r := r) (a := a) c
    split <;> omega
def rwB (L j : Nat) (r : Nat → Nat) : Nat → Nat → Nat
  | 0 => r
  | a + 1 => updN (rwB L j r a) (9 * L + a) (if a = j then 0 else 1000000)
def rwA (σ : Mem) (s : Nat → Nat) (p d j : Nat) (r : Nat → Nat) : Nat → Nat → Nat
  | 0 => r
  | a + 1 => updN (rwA σ s p d j r a) (9 * d + a) (bsN σ s p d (rwA σ s p d j r a) a (j + 1 - a))
def rwD (σ : Mem) (s : Nat → Nat) (p j : Nat) : Nat → (Nat → Nat) → Nat → Nat
  | 0, r => r
  | d + 1, r => rwD σ s p j d (rwA σ s p d j r (j + 1))
def rowN (σ : Mem) (s : Nat → Nat) (p j : Nat) (r : Nat → Nat) : Nat → Nat := rwD σ s p j (mn σ p) (rwB (mn σ p) j r (j + 1))
def leN (f : Nat → Nat) : Prop := ∀ c, f c ≤ 1000000
theorem leN_upd {f : Nat → Nat} {k x : Nat} (h : leN f) (hx : x ≤ 1000000) : leN (updN f k x) := fun c => by
  unfold updN; split
  · exact hx
  · exact h c
theorem leN_rwB {L j : Nat} {r : Nat → Nat} (h : leN r) : ∀ a, leN (rwB L j r a)
  | 0 => h
  | a + 1 => by rw [rwB]; exact leN_upd (leN_rwB h a) (by split <;> omega)
theorem leN_rwA {σ : Mem} {s : Nat → Nat} {p d j : Nat} {r : Nat → Nat} (h : leN r) : ∀ a, leN (rwA σ s p d j r a)
  | 0 => h
  | a + 1 => by rw [rwA]; exact leN_upd (leN_rwA h a) (bsN_le _)
theorem leN_rwD {σ : Mem} {s : Nat → Nat} {p j : Nat} : ∀ (d : Nat) {r : Nat → Nat}, leN r → leN (rwD σ s p j d r)
  | 0, _, h => h
  | d + 1, _, h => by rw [rwD]; exact leN_rwD d (leN_rwA h _)
theorem leN_row {σ : Mem} {s : Nat → Nat} {p j : Nat} {r : Nat → Nat} (h : leN r) : leN (rowN σ s p j r) := leN_rwD _ (leN_rwB h _)
theorem stN_msr {σ : Mem} {s s' r' : Nat → Nat} {y i j : Nat} : stN (msr σ s' r') s y i j = stN σ s y i j := by unfold stN; rw [msr_n (by decide) (by decide)]
theorem mr_msr {σ : Mem} {s' r' : Nat → Nat} : mr (msr σ s' r') = mr σ := by funext i; unfold mr; rw [msr_n (by decide) (by decide)]
theorem mn_msr {σ : Mem} {s' r' : Nat → Nat} : mn (msr σ s' r') = mn σ := by funext i; unfold mn; rw [msr_n (by decide) (by decide)]
end
section
set_option maxHeartbeats 4000000 in
set_option maxRecDepth 100000 in
theorem c_M_stepsOf (l : Launch) (D : va_G) (cs : Nat → ClassId) (ad : Nat → Nat) (σ : Mem) (s9 r9 : Nat → Nat) (y9 i j : Nat) (hy : y9 < 6 ∨ (100 ≤ y9 ∧ y9 < 200)) (hi : i < 9) (hj : j < 9) : MetI l (wM D cs ad) cs yM_stepsOf bM_stepsOf 4 (some .int) 0 0 [.ref (ad 0), .int (nI y9), .int (nI i), .int (nI j)] (msr σ s9 r9) (fun r τ => r = nI (stN σ s9 y9 i j) ∧ τ = msr σ s9 r9) := by
  refine MetI.start (by decide) (Nat.le_of_ble_eq_true rfl) ?_
  intro p e s m below meth c A ls C hk hA hE hl
  obtain ⟨hx, hb, hml, hown, hts, hr, hlocks⟩ := id C
  have hl : lv_has ls 4 [(0, .ref (ad 0)), (1, .int (nI y9)), (2, .int (nI i)), (3, .int (nI j))] := hl
  refine lv_iload_n hx hb dM_stepsOf_0 rfl (lv_at hl 1 rfl) ?_
  refine lv_bipush (v := nI 100) hx hb dM_stepsOf_1 (by decide) ?_
  refine lv_icmp_lt (tgt := 30) hx hb dM_stepsOf_3 (by decide) (fun c1 => ?_) (fun c1 => ?_)
  · have c1 : y9 < 100 := (nI_ltI (by omega) (by omega)).mp c1
    refine lv_aload_n hx hb dM_stepsOf_30 rfl (lv_at hl 0 rfl) ?_
    refine w_get C hk hE (K := R_M) (T := F_M) (N := 17) (ci := 6) in_M 0 (Nat.le_of_ble_eq_true rfl) rfl rfl 11 (by decide) tw_592 rfl rfl dM_stepsOf_31 ?_
    refine lv_bipush (v := nI 81) hx hb dM_stepsOf_34 (by decide) ?_
    refine lv_iload_n hx hb dM_stepsOf_36 rfl (lv_at hl 1 rfl) ?_
    refine lv_imul hx hb dM_stepsOf_37 ?_
    refine w_top (y := nI (81 * y9)) (by exact pk_mul _ _) ?_
    refine lv_bipush (v := nI 9) hx hb dM_stepsOf_38 (by decide) ?_
    refine lv_iload_n hx hb dM_stepsOf_40 rfl (lv_at hl 2 rfl) ?_
    refine lv_imul hx hb dM_stepsOf_41 ?_
    refine w_top (y := nI (9 * i)) (by exact pk_mul _ _) ?_
    refine lv_iadd hx hb dM_stepsOf_42 ?_
    refine w_top (y := nI ((81 * y9) + (9 * i))) (by first | exact nI_add _ _ | simp only [nI_add, Nat.add_assoc, Nat.add_zero, Nat.zero_add]) ?_
    refine lv_iload_n hx hb dM_stepsOf_43 rfl (lv_at hl 3 rfl) ?_
    refine lv_iadd hx hb dM_stepsOf_44 ?_
    refine w_top (y := nI (((81 * y9) + (9 * i)) + j)) (by first | exact nI_add _ _ | simp only [nI_add, Nat.add_assoc, Nat.add_zero, Nat.zero_add]) ?_
    refine w_iald C hk hE 6 (by exact Nat.le_of_ble_eq_true rfl) (n := 486) rfl (by omega) (by first | decide | omega) dM_stepsOf_45 ?_
    refine w_top (y := nI (s9 (((81 * y9) + (9 * i)) + j))) (by first | exact msr_6 | exact congrFun msr_6 _) ?_
    exact w_reti C hE (⟨by rw [stN]; rw [if_neg (by omega)], rfl⟩) dM_stepsOf_46
  · have c1 : ¬ (y9 < 100) := fun h => c1 ((nI_ltI (by omega) (by omega)).mpr h)
    refine lv_iload_n hx hb dM_stepsOf_6 rfl (lv_at hl 3 rfl) ?_
    refine lv_iload_n hx hb dM_stepsOf_7 rfl (lv_at hl 2 rfl) ?_
    refine lv_iconst (v := nI 1) hx hb dM_stepsOf_8 (by decide) ?_
    refine lv_iadd hx hb dM_stepsOf_9 ?_
    refine w_top (y := nI (i + 1)) (by first | exact nI_add _ _ | simp only [nI_add, Nat.add_assoc, Nat.add_zero, Nat.zero_add]) ?_
    refine lv_icmp_ne (tgt := 27) hx hb dM_stepsOf_10 (by decide) (fun c2 => ?_) (fun c2 => ?_)
    · have c2 : ¬ (j = (i + 1)) := fun h => c2 ((nI_eq (by omega) (by omega)).mpr h)
      refine lv_ldc (v := nI 1000000) hx hb hown (hts _ tw_714) dM_stepsOf_27 ?_
      exact w_reti C hE (⟨by rw [stN]; rw [if_pos (by omega), if_neg c2], rfl⟩) dM_stepsOf_29
    · have c2 : j = (i + 1) := (nI_eq (by omega) (by omega)).mp c2
      refine lv_aload_n hx hb dM_stepsOf_13 rfl (lv_at hl 0 rfl) ?_
      refine w_get C hk hE (K := R_M) (T := F_M) (N := 17) (ci := 6) in_M 0 (Nat.le_of_ble_eq_true rfl) rfl rfl 8 (by decide) tw_589 rfl rfl dM_stepsOf_14 ?_
      refine lv_iload_n hx hb dM_stepsOf_17 rfl (lv_at hl 3 rfl) ?_
      refine w_iald C hk hE 4 (by exact Nat.le_of_ble_eq_true rfl) (n := 9) rfl (by omega) (by first | decide | omega) dM_stepsOf_18 ?_
      refine w_top (y := σ 4 j) (by simp [mset, mrow, upd, mhc, msr, nR]) ?_
      refine lv_iload_n hx hb dM_stepsOf_19 rfl (lv_at hl 1 rfl) ?_
      refine lv_icmp_ne (tgt := 27) hx hb dM_stepsOf_20 (by decide) (fun c3 => ?_) (fun c3 => ?_)
      · refine lv_ldc (v := nI 1000000) hx hb hown (hts _ tw_714) dM_stepsOf_27 ?_
        exact w_reti C hE (⟨by rw [stN]; rw [if_pos (by omega), if_pos c2, if_neg c3], rfl⟩) dM_stepsOf_29
      · refine lv_iconst (v := nI 0) hx hb dM_stepsOf_23 (by decide) ?_
        refine lv_goto (tgt := 29) hx hb dM_stepsOf_24 (by decide) ?_
        exact w_reti C hE (⟨by rw [stN]; rw [if_pos (by omega), if_pos c2, if_pos c3], rfl⟩) dM_stepsOf_29
set_option maxHeartbeats 4000000 in
set_option maxRecDepth 100000 in
theorem lp_M_row4 {p : Program} {l : Launch} {e : Env} {s : State} {m : MethodId} {below : List Frame} {meth : Method} {c : Code} {D : va_G} {cs : Nat → ClassId} {ad : Nat → Nat} {A : Nat → Prop} {Q : State → Prop} {σ : Mem} {s9 r9 : Nat → Nat} {P p9 j : Nat} (C : bC p s m ([.ref (ad 0), .int (nI p9), .int (nI j)] : List Value).toArray meth c bM_row 8 "EarleyChartModel" none) (hk : wk D cs s) (hA : ∀ q : Nat, s.heap.size ≤ q → A q) (hg : mG σ P) (hpp : p9 < P) (hj : j < 9) (hs9 : leN s9) (hr9 : leN r9) (d9 : Nat) (a : Nat) (x : Nat → Nat) (hd : d9 < mn σ p9) (haj : a ≤ j) (hx9 : leN x) (K : ∀ (H : Heap) (locs : List Loc) (ls : Array Slot), wS (wM D cs ad) A s.heap (msr σ s9 x) H locs → lv_has ls 8 [(0, .ref (ad 0)), (1, .int (nI p9)), (2, .int (nI j)), (3, .int (nI d9)), (4, .int (nI a)), (5, .int (nI (bsN σ s9 p9 d9 x a (j + 1 - a))))] → W p l e (rmF 1 23) s m ([.ref (ad 0), .int (nI p9), .int (nI j)] : List Value).toArray below meth c H locs 0 0 Q (F0 m 133 ls [])) :
    ∀ (n : Nat) (b9 : Nat), (j + 1 - b9) < n → (a ≤ b9) → (b9 ≤ j + 1) → ∀ (H : Heap) (locs : List Loc) (ls : Array Slot), wS (wM D cs ad) A s.heap (msr σ s9 x) H locs → lv_has ls 8 [(0, .ref (ad 0)), (1, .int (nI p9)), (2, .int (nI j)), (3, .int (nI d9)), (4, .int (nI a)), (5, .int (nI (bsN σ s9 p9 d9 x a (b9 - a)))), (6, .int (nI b9))] → W p l e (rmF 1 23) s m ([.ref (ad 0), .int (nI p9), .int (nI j)] : List Value).toArray below meth c H locs 0 0 Q (F0 m 70 ls []) := by
  obtain ⟨hx, hb, hml, hown, hts, hr, hlocks⟩ := id C
  have hP8 := hg.1
  obtain ⟨h1, h1b, h2, h2b, h3⟩ := hg.2.2 p9 hpp
  intro n
  induction n with
  | zero => intro b9 h; exact absurd h (Nat.not_lt_zero _)
  | succ n ih =>
    intro b9 hn hb1 hb2 H locs ls hE hl
    have hsb := stN_le (σ := σ) (y := mr σ (4 * p9 + d9)) (i := a) (j := b9) hs9
    have hxb := hx9 (9 * (d9 + 1) + b9)
    have hbb := bsN_le (σ := σ) (s := s9) (p := p9) (d := d9) (r := x) (a := a) (b9 - a)
    refine lv_iload hx hb dM_row_70 (lv_at hl 6 rfl) ?_
    refine lv_iload_n hx hb dM_row_72 rfl (lv_at hl 2 rfl) ?_
    refine lv_icmp_gt (tgt := 133) hx hb dM_row_73 (by decide) (fun c1 => ?_) (fun c1 => ?_)
    · have c1 : j < b9 := (nI_ltI (by omega) (by omega)).mp c1
      have ev2 : (nI (bsN σ s9 p9 d9 x a (b9 - a)) : Int32) = nI (bsN σ s9 p9 d9 x a (j + 1 - a)) := by rw [show j + 1 = b9 by omega]
      rw [ev2] at hl
      exact K _ _ ls hE (lv_sub hl [0, 1, 2, 3, 4, 5] rfl)
    · have c1 : ¬ (j < b9) := fun h => c1 ((nI_ltI (by omega) (by omega)).mpr h)
      refine lv_aload_n hx hb dM_row_76 rfl (lv_at hl 0 rfl) ?_
      refine lv_aload_n hx hb dM_row_77 rfl (lv_at hl 0 rfl) ?_
      refine w_get C hk hE (K := R_M) (T := F_M) (N := 17) (ci := 6) in_M 0 (Nat.le_of_ble_eq_true rfl) rfl rfl 6 (by decide) tw_587 rfl rfl dM_row_78 ?_
      refine lv_iconst (v := nI 4) hx hb dM_row_81 (by decide) ?_
      refine lv_iload_n hx hb dM_row_82 rfl (lv_at hl 1 rfl) ?_
      refine lv_imul hx hb dM_row_83 ?_
      refine w_top (y := nI (4 * p9)) (by exact pk_mul _ _) ?_
      refine lv_iload_n hx hb dM_row_84 rfl (lv_at hl 3 rfl) ?_
      refine lv_iadd hx hb dM_row_85 ?_
      refine w_top (y := nI ((4 * p9) + d9)) (by first | exact nI_add _ _ | simp only [nI_add, Nat.add_assoc, Nat.add_zero, Nat.zero_add]) ?_
      refine w_iald C hk hE 3 (by exact Nat.le_of_ble_eq_true rfl) (n := 32) rfl (by omega) (by first | decide | omega) dM_row_86 ?_
      refine w_top (y := σ 3 ((4 * p9) + d9)) (by simp [mset, mrow, upd, mhc, msr, nR]) ?_
      refine w_top (y := nI (mr σ (4 * p9 + d9))) ((h3 d9 hd).1) ?_
      refine lv_iload hx hb dM_row_87 (lv_at hl 4 rfl) ?_
      refine lv_iload hx hb dM_row_89 (lv_at hl 6 rfl) ?_
      refine w_ci hE hA (w_runV C hk hE hl.1 (As := [.int (nI (mr σ (4 * p9 + d9))), .int (nI a), .int (nI b9)]) (rest := []) (q := 0) (c_M_stepsOf l D cs ad σ s9 x (mr σ (4 * p9 + d9)) a b9 (by have := (h3 d9 hd).2; omega) (by omega) (by omega) _) (Nat.le_of_ble_eq_true rfl) (ci := 6) (N := 17) (T := F_M) rfl rfl tw_719 tw_721 ts_32 tw_9 tw_722 (n := 3) (by decide +kernel) rfl rfl (Nat.le_of_ble_eq_true rfl) dM_row_91 ⟨Nat.le_of_ble_eq_true rfl, Nat.le_of_ble_eq_true rfl⟩ ⟨Nat.zero_le _, Nat.zero_le _⟩) (fun r3 τ4 H locs hp hE _ _ => ?_)
      refine w_top hp.1 ?_
      have hE := wS_eq hp.2 hE
      refine lv_aload_n hx hb dM_row_94 rfl (lv_at hl 0 rfl) ?_
      refine w_get C hk hE (K := R_M) (T := F_M) (N := 17) (ci := 6) in_M 0 (Nat.le_of_ble_eq_true rfl) rfl rfl 13 (by decide) tw_594 rfl rfl dM_row_95 ?_
      refine lv_bipush (v := nI 9) hx hb dM_row_98 (by decide) ?_
      refine lv_iload_n hx hb dM_row_100 rfl (lv_at hl 3 rfl) ?_
      refine lv_iconst (v := nI 1) hx hb dM_row_101 (by decide) ?_
      refine lv_iadd hx hb dM_row_102 ?_
      refine w_top (y := nI (d9 + 1)) (by first | exact nI_add _ _ | simp only [nI_add, Nat.add_assoc, Nat.add_zero, Nat.zero_add]) ?_
      refine lv_imul hx hb dM_row_103 ?_
      refine w_top (y := nI (9 * (d9 + 1))) (by exact pk_mul _ _) ?_
      refine lv_iload hx hb dM_row_104 (lv_at hl 6 rfl) ?_
      refine lv_iadd hx hb dM_row_106 ?_
      refine w_top (y := nI ((9 * (d9 + 1)) + b9)) (by first | exact nI_add _ _ | simp only [nI_add, Nat.add_assoc, Nat.add_zero, Nat.zero_add]) ?_
      refine w_iald C hk hE 7 (by exact Nat.le_of_ble_eq_true rfl) (n := 45) rfl (by omega) (by first | decide | omega) dM_row_107 ?_
      refine w_top (y := nI (x ((9 * (d9 + 1)) + b9))) (by first | exact msr_7 | exact congrFun msr_7 _) ?_
      refine lv_iadd hx hb dM_row_108 ?_
      refine w_top (y := nI ((stN σ s9 (mr σ (4 * p9 + d9)) a b9) + (x ((9 * (d9 + 1)) + b9)))) (by first | exact nI_add _ _ | simp only [nI_add, Nat.add_assoc, Nat.add_zero, Nat.zero_add]) ?_
      refine lv_istore (lv' := [(7, .int (nI ((stN σ s9 (mr σ (4 * p9 + d9)) a b9) + (x ((9 * (d9 + 1)) + b9))))), (0, .ref (ad 0)), (1, .int (nI p9)), (2, .int (nI j)), (3, .int (nI d9)), (4, .int (nI a)), (5, .int (nI (bsN σ s9 p9 d9 x a (b9 - a)))), (6, .int (nI b9))]) hx hb dM_row_109 hl (by decide) rfl (fun ls hl => ?_)
      refine lv_iload hx hb dM_row_111 (lv_at hl 0 rfl) ?_
      refine lv_iload hx hb dM_row_113 (lv_at hl 6 rfl) ?_
      refine lv_icmp_ge (tgt := 123) hx hb dM_row_115 (by decide) (fun c5 => ?_) (fun c5 => ?_)
      · have c5 : (bsN σ s9 p9 d9 x a (b9 - a)) ≤ ((stN σ s9 (mr σ (4 * p9 + d9)) a b9) + (x ((9 * (d9 + 1)) + b9))) := (nI_leI (by omega) (by omega)).mp c5
        have c5 : ¬ _ := Nat.not_lt.mpr c5
        refine lv_iload hx hb dM_row_123 (lv_at hl 6 rfl) ?_
        refine lv_istore (lv' := [(5, .int (nI (bsN σ s9 p9 d9 x a (b9 - a)))), (7, .int (nI ((stN σ s9 (mr σ (4 * p9 + d9)) a b9) + (x ((9 * (d9 + 1)) + b9))))), (0, .ref (ad 0)), (1, .int (nI p9)), (2, .int (nI j)), (3, .int (nI d9)), (4, .int (nI a)), (6, .int (nI b9))]) hx hb dM_row_125 hl (by decide) rfl (fun ls hl => ?_)
        refine lv_iinc (v := nI (b9 + 1)) (lv' := [(6, .int (nI (b9 + 1))), (5, .int (nI (bsN σ s9 p9 d9 x a (b9 - a)))), (7, .int (nI ((stN σ s9 (mr σ (4 * p9 + d9)) a b9) + (x ((9 * (d9 + 1)) + b9))))), (0, .ref (ad 0)), (1, .int (nI p9)), (2, .int (nI j)), (3, .int (nI d9)), (4, .int (nI a))]) hx hb dM_row_127 hl (k := 7) rfl (by exact nI_1 _) (by decide) rfl (fun ls hl => ?_)
        refine lv_goto (tgt := 70) hx hb dM_row_130 (by decide) ?_
        have ev6 : (nI (bsN σ s9 p9 d9 x a (b9 - a)) : Int32) = nI (bsN σ s9 p9 d9 x a ((b9 + 1) - a)) := by rw [show b9 + 1 - a = (b9 - a) + 1 by omega, bsN, show a + (b9 - a) = b9 by omega]; simp only [c5, if_true, if_false]
        rw [ev6] at hl
        exact ih (b9 + 1) (by omega) (by omega) (by omega) _ _ ls hE (lv_sub hl [3, 4, 5, 6, 7, 1, 0] rfl)
      · have c5 : ¬ ((bsN σ s9 p9 d9 x a (b9 - a)) ≤ ((stN σ s9 (mr σ (4 * p9 + d9)) a b9) + (x ((9 * (d9 + 1)) + b9)))) := fun h => c5 ((nI_leI (by omega) (by omega)).mpr h)
        have c5 := Nat.not_le.mp c5
        refine lv_iload hx hb dM_row_118 (lv_at hl 0 rfl) ?_
        refine lv_goto (tgt := 125) hx hb dM_row_120 (by decide) ?_
        refine lv_istore (lv' := [(5, .int (nI ((stN σ s9 (mr σ (4 * p9 + d9)) a b9) + (x ((9 * (d9 + 1)) + b9))))), (7, .int (nI ((stN σ s9 (mr σ (4 * p9 + d9)) a b9) + (x ((9 * (d9 + 1)) + b9))))), (0, .ref (ad 0)), (1, .int (nI p9)), (2, .int (nI j)), (3, .int (nI d9)), (4, .int (nI a)), (6, .int (nI b9))]) hx hb dM_row_125 hl (by decide) rfl (fun ls hl => ?_)
        refine lv_iinc (v := nI (b9 + 1)) (lv' := [(6, .int (nI (b9 + 1))), (5, .int (nI ((stN σ s9 (mr σ (4 * p9 + d9)) a b9) + (x ((9 * (d9 + 1)) + b9))))), (7, .int (nI ((stN σ s9 (mr σ (4 * p9 + d9)) a b9) + (x ((9 * (d9 + 1)) + b9))))), (0, .ref (ad 0)), (1, .int (nI p9)), (2, .int (nI j)), (3, .int (nI d9)), (4, .int (nI a))]) hx hb dM_row_127 hl (k := 7) rfl (by exact nI_1 _) (by decide) rfl (fun ls hl => ?_)
        refine lv_goto (tgt := 70) hx hb dM_row_130 (by decide) ?_
        have ev7 : (nI ((stN σ s9 (mr σ (4 * p9 + d9)) a b9) + (x ((9 * (d9 + 1)) + b9))) : Int32) = nI (bsN σ s9 p9 d9 x a ((b9 + 1) - a)) := by rw [show b9 + 1 - a = (b9 - a) + 1 by omega, bsN, show a + (b9 - a) = b9 by omega]; simp only [c5, if_true, if_false]
        rw [ev7] at hl
        exact ih (b9 + 1) (by omega) (by omega) (by omega) _ _ ls hE (lv_sub hl [3, 4, 5, 6, 7, 1, 0] rfl)
set_option maxHeartbeats 4000000 in
set_option maxRecDepth 100000 in
theorem lp_M_row3 {p : Program} {l : Launch} {e : Env} {s : State} {m : MethodId} {below : List Frame} {meth : Method} {c : Code} {D : va_G} {cs : Nat → ClassId} {ad : Nat → Nat} {A : Nat → Prop} {Q : State → Prop} {σ : Mem} {s9 r9 : Nat → Nat} {P p9 j : Nat} (C : bC p s m ([.ref (ad 0), .int (nI p9), .int (nI j)] : List Value).toArray meth c bM_row 8 "EarleyChartModel" none) (hk : wk D cs s) (hA : ∀ q : Nat, s.heap.size ≤ q → A q) (hg : mG σ P) (hpp : p9 < P) (hj : j < 9) (hs9 : leN s9) (hr9 : leN r9) (d9 : Nat) (x : Nat → Nat) (hd : d9 < mn σ p9) (hx9 : leN x) (K : ∀ (H : Heap) (locs : List Loc) (ls : Array Slot), wS (wM D cs ad) A s.heap (msr σ s9 (rwA σ s9 p9 d9 j x (j + 1))) H locs → lv_has ls 8 [(0, .ref (ad 0)), (1, .int (nI p9)), (2, .int (nI j)), (3, .int (nI d9))] → W p l e (rmF 1 23) s m ([.ref (ad 0), .int (nI p9), .int (nI j)] : List Value).toArray below meth c H locs 0 0 Q (F0 m 153 ls [])) :
    ∀ (n : Nat) (a : Nat), (j + 1 - a) < n → (a ≤ j + 1) → ∀ (H : Heap) (locs : List Loc) (ls : Array Slot), wS (wM D cs ad) A s.heap (msr σ s9 (rwA σ s9 p9 d9 j x a)) H locs → lv_has ls 8 [(0, .ref (ad 0)), (1, .int (nI p9)), (2, .int (nI j)), (3, .int (nI d9)), (4, .int (nI a))] → W p l e (rmF 1 23) s m ([.ref (ad 0), .int (nI p9), .int (nI j)] : List Value).toArray below meth c H locs 0 0 Q (F0 m 56 ls []) := by
  obtain ⟨hx, hb, hml, hown, hts, hr, hlocks⟩ := id C
  have hP8 := hg.1
  obtain ⟨h1, h1b, h2, h2b, h3⟩ := hg.2.2 p9 hpp
  intro n
  induction n with
  | zero => intro a h; exact absurd h (Nat.not_lt_zero _)
  | succ n ih =>
    intro a hn ha H locs ls hE hl
    refine lv_iload hx hb dM_row_56 (lv_at hl 4 rfl) ?_
    refine lv_iload_n hx hb dM_row_58 rfl (lv_at hl 2 rfl) ?_
    refine lv_icmp_gt (tgt := 153) hx hb dM_row_59 (by decide) (fun c1 => ?_) (fun c1 => ?_)
    · have c1 : j < a := (nI_ltI (by omega) (by omega)).mp c1
      exact K _ _ ls (wS_eq (show msr σ s9 (rwA σ s9 p9 d9 j x a) = msr σ s9 (rwA σ s9 p9 d9 j x (j + 1)) by rw [show j + 1 = a by omega]) hE) (lv_sub hl [0, 1, 2, 3] rfl)
    · have c1 : ¬ (j < a) := fun h => c1 ((nI_ltI (by omega) (by omega)).mpr h)
      refine lv_ldc (v := nI 1000000) hx hb hown (hts _ tw_714) dM_row_62 ?_
      refine lv_istore (lv' := [(5, .int (nI 1000000)), (0, .ref (ad 0)), (1, .int (nI p9)), (2, .int (nI j)), (3, .int (nI d9)), (4, .int (nI a))]) hx hb dM_row_64 hl (by decide) rfl (fun ls hl => ?_)
      refine lv_iload hx hb dM_row_66 (lv_at hl 5 rfl) ?_
      refine lv_istore (lv' := [(6, .int (nI a)), (5, .int (nI 1000000)), (0, .ref (ad 0)), (1, .int (nI p9)), (2, .int (nI j)), (3, .int (nI d9)), (4, .int (nI a))]) hx hb dM_row_68 hl (by decide) rfl (fun ls hl => ?_)
      have ev2 : (nI 1000000 : Int32) = nI (bsN σ s9 p9 d9 (rwA σ s9 p9 d9 j x a) a (a - a)) := by rw [Nat.sub_self]; rfl
      rw [ev2] at hl
      refine lp_M_row4 C hk hA hg hpp hj hs9 hr9 d9 a (rwA σ s9 p9 d9 j x a) (hd) (by omega) (leN_rwA hx9 _) (fun H locs ls hE hl => ?_) _ a (Nat.lt_succ_self _) (Nat.le_refl _) (by omega) _ _ ls hE (lv_sub hl [2, 3, 4, 5, 6, 1, 0] rfl)
      refine lv_aload_n hx hb dM_row_133 rfl (lv_at hl 0 rfl) ?_
      refine w_get C hk hE (K := R_M) (T := F_M) (N := 17) (ci := 6) in_M 0 (Nat.le_of_ble_eq_true rfl) rfl rfl 13 (by decide) tw_594 rfl rfl dM_row_134 ?_
      refine lv_bipush (v := nI 9) hx hb dM_row_137 (by decide) ?_
      refine lv_iload_n hx hb dM_row_139 rfl (lv_at hl 3 rfl) ?_
      refine lv_imul hx hb dM_row_140 ?_
      refine w_top (y := nI (9 * d9)) (by exact pk_mul _ _) ?_
      refine lv_iload hx hb dM_row_141 (lv_at hl 4 rfl) ?_
      refine lv_iadd hx hb dM_row_143 ?_
      refine w_top (y := nI ((9 * d9) + a)) (by first | exact nI_add _ _ | simp only [nI_add, Nat.add_assoc, Nat.add_zero, Nat.zero_add]) ?_
      refine lv_iload hx hb dM_row_144 (lv_at hl 5 rfl) ?_
      refine w_iast C hk hE 7 (by exact Nat.le_of_ble_eq_true rfl) (n := 45) (fun _ => rfl) (by omega) (by first | decide | omega) dM_row_146 (fun H locs hE => ?_)
      rw [msr_set7] at hE
      refine lv_iinc (v := nI (a + 1)) (lv' := [(4, .int (nI (a + 1))), (0, .ref (ad 0)), (1, .int (nI p9)), (2, .int (nI j)), (3, .int (nI d9)), (5, .int (nI (bsN σ s9 p9 d9 (rwA σ s9 p9 d9 j x a) a (j + 1 - a))))]) hx hb dM_row_147 hl (k := 4) rfl (by exact nI_1 _) (by decide) rfl (fun ls hl => ?_)
      refine lv_goto (tgt := 56) hx hb dM_row_150 (by decide) ?_
      exact ih (a + 1) (by omega) (by omega) _ _ ls (wS_eq (show msr σ s9 (updN (rwA σ s9 p9 d9 j x a) ((9 * d9) + a) (bsN σ s9 p9 d9 (rwA σ s9 p9 d9 j x a) a (j + 1 - a))) = msr σ s9 (rwA σ s9 p9 d9 j x (a + 1)) by rfl) hE) (lv_sub hl [1, 2, 3, 4, 0] rfl)
set_option maxHeartbeats 4000000 in
set_option maxRecDepth 100000 in
theorem lp_M_row2 {p : Program} {l : Launch} {e : Env} {s : State} {m : MethodId} {below : List Frame} {meth : Method} {c : Code} {D : va_G} {cs : Nat → ClassId} {ad : Nat → Nat} {A : Nat → Prop} {σ : Mem} {s9 r9 : Nat → Nat} {P p9 j : Nat} (C : bC p s m ([.ref (ad 0), .int (nI p9), .int (nI j)] : List Value).toArray meth c bM_row 8 "EarleyChartModel" none) (hk : wk D cs s) (hA : ∀ q : Nat, s.heap.size ≤ q → A q) (hg : mG σ P) (hpp : p9 < P) (hj : j < 9) (hs9 : leN s9) (hr9 : leN r9)   :
    ∀ (n : Nat) (t : Nat) (x : Nat → Nat), t < n → (t ≤ mn σ p9) → (leN x) → (rwD σ s9 p9 j t x = rowN σ s9 p9 j r9) → ∀ (H : Heap) (locs : List Loc) (ls : Array Slot), wS (wM D cs ad) A s.heap (msr σ s9 x) H locs → lv_has ls 8 [(0, .ref (ad 0)), (1, .int (nI p9)), (2, .int (nI j)), (3, .int (dn t))] → W p l e (rmF 1 23) s m ([.ref (ad 0), .int (nI p9), .int (nI j)] : List Value).toArray below meth c H locs 0 0 (wQv (wM D cs ad) A (fun τ => τ = msr σ s9 (rowN σ s9 p9 j r9)) s below ([.ref (ad 0), .int (nI p9), .int (nI j)] : List Value).toArray) (F0 m 49 ls []) := by
  obtain ⟨hx, hb, hml, hown, hts, hr, hlocks⟩ := id C
  have hP8 := hg.1
  obtain ⟨h1, h1b, h2, h2b, h3⟩ := hg.2.2 p9 hpp
  intro n
  induction n with
  | zero => intro t x h; exact absurd h (Nat.not_lt_zero _)
  | succ n ih =>
    intro t x hn ht9 hx9 hres H locs ls hE hl
    refine lv_iload_n hx hb dM_row_49 rfl (lv_at hl 3 rfl) ?_
    refine lv_if_lt (tgt := 159) hx hb dM_row_50 (by decide) (fun c1 => ?_) (fun c1 => ?_)
    · have hd0 := dn_lt (by omega) c1
      exact w_retv C hE (by rw [← hres, hd0]; rfl) dM_row_159
    · obtain ⟨d9, rfl⟩ := dn_ge c1
      have hl : lv_has ls 8 [(0, .ref (ad 0)), (1, .int (nI p9)), (2, .int (nI j)), (3, .int (nI d9))] := hl
      refine lv_iconst (v := nI 0) hx hb dM_row_53 (by decide) ?_
      refine lv_istore (lv' := [(4, .int (nI 0)), (0, .ref (ad 0)), (1, .int (nI p9)), (2, .int (nI j)), (3, .int (nI d9))]) hx hb dM_row_54 hl (by decide) rfl (fun ls hl => ?_)
      refine lp_M_row3 C hk hA hg hpp hj hs9 hr9 d9 x (by omega) (hx9) (fun H locs ls hE hl => ?_) _ 0 (Nat.lt_succ_self _) (Nat.zero_le _) _ _ ls (wS_eq (show msr σ s9 x = msr σ s9 (rwA σ s9 p9 d9 j x 0) by rfl) hE) (lv_sub hl [1, 2, 3, 4, 0] rfl)
      refine lv_iinc (v := (nI d9) + -1) (lv' := [(3, .int ((nI d9) + -1)), (0, .ref (ad 0)), (1, .int (nI p9)), (2, .int (nI j))]) hx hb dM_row_153 hl (k := 3) rfl (rfl) (by decide) rfl (fun ls hl => ?_)
      refine lv_goto (tgt := 49) hx hb dM_row_156 (by decide) ?_
      have ev2 : ((nI d9) + -1 : Int32) = dn d9 := by exact dn_pred _
      rw [ev2] at hl
      exact ih d9 (rwA σ s9 p9 d9 j x (j + 1)) (by omega) (by omega) (leN_rwA hx9 _) (by rw [← hres, rwD]) _ _ ls hE (lv_sub hl [1, 2, 3, 0] rfl)
set_option maxHeartbeats 4000000 in
set_option maxRecDepth 100000 in
theorem lp_M_row1 {p : Program} {l : Launch} {e : Env} {s : State} {m : MethodId} {below : List Frame} {meth : Method} {c : Code} {D : va_G} {cs : Nat → ClassId} {ad : Nat → Nat} {A : Nat → Prop} {Q : State → Prop} {σ : Mem} {s9 r9 : Nat → Nat} {P p9 j : Nat} (C : bC p s m ([.ref (ad 0), .int (nI p9), .int (nI j)] : List Value).toArray meth c bM_row 8 "EarleyChartModel" none) (hk : wk D cs s) (hA : ∀ q : Nat, s.heap.size ≤ q → A q) (hg : mG σ P) (hpp : p9 < P) (hj : j < 9) (hs9 : leN s9) (hr9 : leN r9)   (K : ∀ (H : Heap) (locs : List Loc) (ls : Array Slot), wS (wM D cs ad) A s.heap (msr σ s9 (rwB (mn σ p9) j r9 (j + 1))) H locs → lv_has ls 8 [(0, .ref (ad 0)), (1, .int (nI p9)), (2, .int (nI j))] → W p l e (rmF 1 23) s m ([.ref (ad 0), .int (nI p9), .int (nI j)] : List Value).toArray below meth c H locs 0 0 Q (F0 m 40 ls [])) :
    ∀ (n : Nat) (a : Nat), (j + 1 - a) < n → (a ≤ j + 1) → ∀ (H : Heap) (locs : List Loc) (ls : Array Slot), wS (wM D cs ad) A s.heap (msr σ s9 (rwB (mn σ p9) j r9 a)) H locs → lv_has ls 8 [(0, .ref (ad 0)), (1, .int (nI p9)), (2, .int (nI j)), (3, .int (nI a))] → W p l e (rmF 1 23) s m ([.ref (ad 0), .int (nI p9), .int (nI j)] : List Value).toArray below meth c H locs 0 0 Q (F0 m 2 ls []) := by
  obtain ⟨hx, hb, hml, hown, hts, hr, hlocks⟩ := id C
  have hP8 := hg.1
  obtain ⟨h1, h1b, h2, h2b, h3⟩ := hg.2.2 p9 hpp
  intro n
  induction n with
  | zero => intro a h; exact absurd h (Nat.not_lt_zero _)
  | succ n ih =>
    intro a hn ha H locs ls hE hl
    refine lv_iload_n hx hb dM_row_2 rfl (lv_at hl 3 rfl) ?_
    refine lv_iload_n hx hb dM_row_3 rfl (lv_at hl 2 rfl) ?_
    refine lv_icmp_gt (tgt := 40) hx hb dM_row_4 (by decide) (fun c1 => ?_) (fun c1 => ?_)
    · have c1 : j < a := (nI_ltI (by omega) (by omega)).mp c1
      exact K _ _ ls (wS_eq (show msr σ s9 (rwB (mn σ p9) j r9 a) = msr σ s9 (rwB (mn σ p9) j r9 (j + 1)) by rw [show j + 1 = a by omega]) hE) (lv_sub hl [0, 1, 2] rfl)
    · have c1 : ¬ (j < a) := fun h => c1 ((nI_ltI (by omega) (by omega)).mpr h)
      refine lv_aload_n hx hb dM_row_7 rfl (lv_at hl 0 rfl) ?_
      refine w_get C hk hE (K := R_M) (T := F_M) (N := 17) (ci := 6) in_M 0 (Nat.le_of_ble_eq_true rfl) rfl rfl 13 (by decide) tw_594 rfl rfl dM_row_8 ?_
      refine lv_bipush (v := nI 9) hx hb dM_row_11 (by decide) ?_
      refine lv_aload_n hx hb dM_row_13 rfl (lv_at hl 0 rfl) ?_
      refine w_get C hk hE (K := R_M) (T := F_M) (N := 17) (ci := 6) in_M 0 (Nat.le_of_ble_eq_true rfl) rfl rfl 5 (by decide) tw_586 rfl rfl dM_row_14 ?_
      refine lv_iload_n hx hb dM_row_17 rfl (lv_at hl 1 rfl) ?_
      refine w_iald C hk hE 2 (by exact Nat.le_of_ble_eq_true rfl) (n := 8) rfl (by omega) (by first | decide | omega) dM_row_18 ?_
      refine w_top (y := σ 2 p9) (by simp [mset, mrow, upd, mhc, msr, nR]) ?_
      refine w_top (y := nI (mn σ p9)) (h2) ?_
      refine lv_imul hx hb dM_row_19 ?_
      refine w_top (y := nI (9 * (mn σ p9))) (by exact pk_mul _ _) ?_
      refine lv_iload_n hx hb dM_row_20 rfl (lv_at hl 3 rfl) ?_
      refine lv_iadd hx hb dM_row_21 ?_
      refine w_top (y := nI ((9 * (mn σ p9)) + a)) (by first | exact nI_add _ _ | simp only [nI_add, Nat.add_assoc, Nat.add_zero, Nat.zero_add]) ?_
      refine lv_iload_n hx hb dM_row_22 rfl (lv_at hl 3 rfl) ?_
      refine lv_iload_n hx hb dM_row_23 rfl (lv_at hl 2 rfl) ?_
      refine lv_icmp_ne (tgt := 31) hx hb dM_row_24 (by decide) (fun c2 => ?_) (fun c2 => ?_)
      · have c2 : ¬ (a = j) := fun h => c2 ((nI_eq (by omega) (by omega)).mpr h)
        refine lv_ldc (v := nI 1000000) hx hb hown (hts _ tw_714) dM_row_31 ?_
        refine w_iast C hk hE 7 (by exact Nat.le_of_ble_eq_true rfl) (n := 45) (fun _ => rfl) (by omega) (by first | decide | omega) dM_row_33 (fun H locs hE => ?_)
        rw [msr_set7] at hE
        refine lv_iinc (v := nI (a + 1)) (lv' := [(3, .int (nI (a + 1))), (0, .ref (ad 0)), (1, .int (nI p9)), (2, .int (nI j))]) hx hb dM_row_34 hl (k := 3) rfl (by exact nI_1 _) (by decide) rfl (fun ls hl => ?_)
        refine lv_goto (tgt := 2) hx hb dM_row_37 (by decide) ?_
        exact ih (a + 1) (by omega) (by omega) _ _ ls (wS_eq (show msr σ s9 (updN (rwB (mn σ p9) j r9 a) ((9 * (mn σ p9)) + a) 1000000) = msr σ s9 (rwB (mn σ p9) j r9 (a + 1)) by simp only [rwB, c2, if_true, if_false]) hE) (lv_sub hl [1, 2, 3, 0] rfl)
      · have c2 : a = j := (nI_eq (by omega) (by omega)).mp c2
        refine lv_iconst (v := nI 0) hx hb dM_row_27 (by decide) ?_
        refine lv_goto (tgt := 33) hx hb dM_row_28 (by decide) ?_
        refine w_iast C hk hE 7 (by exact Nat.le_of_ble_eq_true rfl) (n := 45) (fun _ => rfl) (by omega) (by first | decide | omega) dM_row_33 (fun H locs hE => ?_)
        rw [msr_set7] at hE
        refine lv_iinc (v := nI (a + 1)) (lv' := [(3, .int (nI (a + 1))), (0, .ref (ad 0)), (1, .int (nI p9)), (2, .int (nI j))]) hx hb dM_row_34 hl (k := 3) rfl (by exact nI_1 _) (by decide) rfl (fun ls hl => ?_)
        refine lv_goto (tgt := 2) hx hb dM_row_37 (by decide) ?_
        exact ih (a + 1) (by omega) (by omega) _ _ ls (wS_eq (show msr σ s9 (updN (rwB (mn σ p9) j r9 a) ((9 * (mn σ p9)) + a) 0) = msr σ s9 (rwB (mn σ p9) j r9 (a + 1)) by simp only [rwB, c2, if_true, if_false]) hE) (lv_sub hl [1, 2, 3, 0] rfl)
set_option maxHeartbeats 4000000 in
set_option maxRecDepth 100000 in
theorem c_M_row (l : Launch) (D : va_G) (cs : Nat → ClassId) (ad : Nat → Nat) (σ : Mem) (s9 r9 : Nat → Nat) (P p9 j : Nat) (hg : mG σ P) (hpp : p9 < P) (hj : j < 9) (hs9 : leN s9) (hr9 : leN r9) : MetV l (wM D cs ad) cs yM_row bM_row 8 1 23 [.ref (ad 0), .int (nI p9), .int (nI j)] (msr σ s9 r9) (fun τ => τ = msr σ s9 (rowN σ s9 p9 j r9)) := by
  refine MetV.start (by decide) (Nat.le_of_ble_eq_true rfl) ?_
  intro p e s m below meth c A ls C hk hA hE hl
  obtain ⟨hx, hb, hml, hown, hts, hr, hlocks⟩ := id C
  have hl : lv_has ls 8 [(0, .ref (ad 0)), (1, .int (nI p9)), (2, .int (nI j))] := hl
  have hP8 := hg.1
  obtain ⟨h1, h1b, h2, h2b, h3⟩ := hg.2.2 p9 hpp
  refine lv_iconst (v := nI 0) hx hb dM_row_0 (by decide) ?_
  refine lv_istore_n (lv' := [(3, .int (nI 0)), (0, .ref (ad 0)), (1, .int (nI p9)), (2, .int (nI j))]) hx hb dM_row_1 rfl hl (by decide) rfl (fun ls hl => ?_)
  refine lp_M_row1 C hk hA hg hpp hj hs9 hr9   (fun H locs ls hE hl => ?_) _ 0 (Nat.lt_succ_self _) (Nat.zero_le _) _ _ ls (wS_eq (show msr σ s9 r9 = msr σ s9 (rwB (mn σ p9) j r9 0) by rfl) hE) (lv_sub hl [1, 2, 3, 0] rfl)
  refine lv_aload_n hx hb dM_row_40 rfl (lv_at hl 0 rfl) ?_
  refine w_get C hk hE (K := R_M) (T := F_M) (N := 17) (ci := 6) in_M 0 (Nat.le_of_ble_eq_true rfl) rfl rfl 5 (by decide) tw_586 rfl rfl dM_row_41 ?_
  refine lv_iload_n hx hb dM_row_44 rfl (lv_at hl 1 rfl) ?_
  refine w_iald C hk hE 2 (by exact Nat.le_of_ble_eq_true rfl) (n := 8) rfl (by omega) (by first | decide | omega) dM_row_45 ?_
  refine w_top (y := σ 2 p9) (by simp [mset, mrow, upd, mhc, msr, nR]) ?_
  refine w_top (y := nI (mn σ p9)) (h2) ?_
  refine lv_iconst (v := nI 1) hx hb dM_row_46 (by decide) ?_
  refine lv_isub hx hb dM_row_47 ?_
  refine lv_istore_n (lv' := [(3, .int ((nI (mn σ p9)) - (nI 1))), (0, .ref (ad 0)), (1, .int (nI p9)), (2, .int (nI j))]) hx hb dM_row_48 rfl hl (by decide) rfl (fun ls hl => ?_)
  have ev1 : ((nI (mn σ p9)) - (nI 1) : Int32) = dn (mn σ p9) := by exact dn_sub
  rw [ev1] at hl
  exact lp_M_row2 C hk hA hg hpp hj hs9 hr9 _ (mn σ p9) (rwB (mn σ p9) j r9 (j + 1)) (Nat.lt_succ_self _) (Nat.le_refl _) (leN_rwB hr9 _) (rfl) _ _ ls hE (lv_sub hl [1, 2, 3, 0] rfl)
end
section
theorem mset_msr {σ : Mem} {s r : Nat → Nat} {q i : Nat} {x : Int32} (h6 : q ≠ 6) (h7 : q ≠ 7) : mset (msr σ s r) q i x = msr (mset σ q i x) s r := by
  funext j
  unfold mset msr
  by_cases e : j = q
  · subst e; rw [mrow_s, mrow_n h7, mrow_n h6, mrow_n h7, mrow_n h6, mrow_s]
  · rw [mrow_n e]
    by_cases e7 : j = 7
    · subst e7; rw [mrow_s, mrow_s]
    · rw [mrow_n e7, mrow_n e7]
      by_cases e6 : j = 6
      · subst e6; rw [mrow_s, mrow_s]
      · rw [mrow_n e6, mrow_n e6, mrow_n e]
abbrev WT : Type := Bool × (Nat → Nat) × (Nat → Nat)
def fillN (f : Nat → Nat) (v n : Nat) : Nat → Nat := fun j => if j < n then v else f j
theorem fillN_0 {f : Nat → Nat} {v : Nat} : fillN f v 0 = f := by funext j; simp [fillN]
theorem fillN_s {f : Nat → Nat} {v n : Nat} : updN (fillN f v n) n v = fillN f v (n + 1) := by
  funext j
  unfold updN fillN
  by_cases h : j = n
  · simp [h]
  · by_cases h2 : j < n
    · simp [h, h2, Nat.lt_succ_of_lt h2]
    · simp [h, h2, show ¬ j < n + 1 by omega]
theorem leN_fill {f : Nat → Nat} {n : Nat} (h : leN f) : leN (fillN f 1000000 n) := fun c => by unfold fillN; split; exact Nat.le_refl _; exact h c
def wcl (σ : Mem) (p i j : Nat) : Nat := 81 * ml σ p + 9 * i + j
def wiN (σ : Mem) (p j : Nat) (r : Nat → Nat) (x : Bool × (Nat → Nat)) : Nat → Bool × (Nat → Nat)
  | 0 => x
  | i + 1 => ((wiN σ p j r x i).1 || decide (r i + 1 < (wiN σ p j r x i).2 (wcl σ p i j)), updN (wiN σ p j r x i).2 (wcl σ p i j) (if r i + 1 < (wiN σ p j r x i).2 (wcl σ p i j) then r i + 1 else (wiN σ p j r x i).2 (wcl σ p i j)))
def wjS (σ : Mem) (p j : Nat) (x : WT) : WT := ((wiN σ p j (rowN σ x.2.1 p j x.2.2) (x.1, x.2.1) (j + 1)).1, (wiN σ p j (rowN σ x.2.1 p j x.2.2) (x.1, x.2.1) (j + 1)).2, rowN σ x.2.1 p j x.2.2)
def wjN (σ : Mem) (p : Nat) (x : WT) : Nat → WT
  | 0 => x
  | j + 1 => wjS σ p j (wjN σ p x j)
def wpN (σ : Mem) (n : Nat) (x : WT) : Nat → WT
  | 0 => x
  | p + 1 => wjN σ p (wpN σ n x p) (n + 1)
def wkN (σ : Mem) (P n : Nat) : Nat → WT → WT
  | 0, x => x
  | N + 1, x => if x.1 = true then wkN σ P n N (wpN σ n (false, x.2.1, x.2.2) P) else x
def lW (x : WT) : Prop := leN x.2.1 ∧ leN x.2.2
def oW (x y : WT) : Prop := (∀ c, y.2.1 c ≤ x.2.1 c) ∧ (y.1 = true → x.1 = true ∨ ∃ c, c < 486 ∧ y.2.1 c < x.2.1 c) ∧ (lW x → lW y)
theorem oW_rf {x : WT} : oW x x := ⟨fun _ => Nat.le_refl _, fun h => Or.inl h, id⟩
theorem oW_tr {x y z : WT} (h1 : oW x y) (h2 : oW y z) : oW x z := by
  refine ⟨fun c => Nat.le_trans (h2.1 c) (h1.1 c), fun h => ?_, fun h => h2.2.2 (h1.2.2 h)⟩
  rcases h2.2.1 h with q | ⟨c, hc, q⟩
  · rcases h1.2.1 q with q | ⟨c, hc, q⟩
    · exact Or.inl q
    · exact Or.inr ⟨c, hc, Nat.lt_of_le_of_lt (h2.1 c) q⟩
  · exact Or.inr ⟨c, hc, Nat.lt_of_lt_of_le q (h1.1 c)⟩
theorem wiN_ok {σ : Mem} {p j : Nat} {r : Nat → Nat} {x : Bool × (Nat → Nat)} (hl : ml σ p < 6) (hj : j < 9) : ∀ i, i ≤ j + 1 → (∀ c, (wiN σ p j r x i).2 c ≤ x.2 c) ∧ ((wiN σ p j r x i).1 = true → x.1 = true ∨ ∃ c, c < 486 ∧ (wiN σ p j r x i).2 c < x.2 c)
  | 0, _ => ⟨fun _ => Nat.le_refl _, fun h => Or.inl h⟩
  | i + 1, hi => by
    obtain ⟨h1, h2⟩ := wiN_ok (σ := σ) (r := r) (x := x) hl hj i (by omega)
    have hup : ∀ c, (wiN σ p j r x (i + 1)).2 c ≤ (wiN σ p j r x i).2 c := by
      intro c
      show updN _ _ _ c ≤ _
      unfold updN
      by_cases e : c = wcl σ p i j
      · rw [if_pos e, e]; split <;> omega
      · rw [if_neg e]; exact Nat.le_refl _
    refine ⟨fun c => Nat.le_trans (hup c) (h1 c), fun h => ?_⟩
    by_cases hlt : r i + 1 < (wiN σ p j r x i).2 (wcl σ p i j)
    · refine Or.inr ⟨wcl σ p i j, by unfold wcl; omega, ?_⟩
      have h3 := h1 (wcl σ p i j)
      show updN _ _ _ _ < _
      rw [updN, if_pos rfl, if_pos hlt]
      omega
    · have h4 : (wiN σ p j r x i).1 = true := by
        have h5 : ((wiN σ p j r x i).1 || decide (r i + 1 < (wiN σ p j r x i).2 (wcl σ p i j))) = true := h
        rw [decide_eq_false hlt, Bool.or_false] at h5
        exact h5
      rcases h2 h4 with q | ⟨c, hc, q⟩
      · exact Or.inl q
      · exact Or.inr ⟨c, hc, Nat.lt_of_le_of_lt (hup c) q⟩
theorem wjS_ok {σ : Mem} {p j : Nat} {x : WT} (hl : ml σ p < 6) (hj : j < 9) : oW x (wjS σ p j x) := by
  obtain ⟨h1, h2⟩ := wiN_ok (σ := σ) (p := p) (r := rowN σ x.2.1 p j x.2.2) (x := (x.1, x.2.1)) hl hj (j + 1) (Nat.le_refl _)
  exact ⟨h1, h2, fun h => ⟨fun c => Nat.le_trans (h1 c) (h.1 c), leN_row h.2⟩⟩
theorem wjN_ok {σ : Mem} {p : Nat} {x : WT} (hl : ml σ p < 6) : ∀ j, j ≤ 9 → oW x (wjN σ p x j)
  | 0, _ => oW_rf
  | j + 1, h => by rw [wjN]; exact oW_tr (wjN_ok hl j (by omega)) (wjS_ok hl (by omega))
theorem wpN_ok {σ : Mem} {P n : Nat} {x : WT} (hg : mG σ P) (hn : n ≤ 8) : ∀ p, p ≤ P → oW x (wpN σ n x p)
  | 0, _ => oW_rf
  | p + 1, h => by rw [wpN]; exact oW_tr (wpN_ok hg hn p (by omega)) (wjN_ok (hg.2.2 p (by omega)).2.1 _ (by omega))
def suN (f : Nat → Nat) : Nat → Nat
  | 0 => 0
  | c + 1 => suN f c + f c
theorem suN_le {f g : Nat → Nat} (h : ∀ c, f c ≤ g c) : ∀ n, suN f n ≤ suN g n
  | 0 => Nat.le_refl _
  | n + 1 => Nat.add_le_add (suN_le h n) (h n)
theorem suN_lt {f g : Nat → Nat} (h : ∀ c, f c ≤ g c) {c : Nat} (hc : f c < g c) : ∀ n, c < n → suN f n < suN g n
  | 0, h0 => absurd h0 (Nat.not_lt_zero _)
  | n + 1, h0 => by
    rw [suN, suN]
    by_cases e : c = n
    · subst e; have := suN_le h c; omega
    · have := suN_lt h hc n (by omega); have := h n; omega
def zeW (x : WT) : Nat := 2 * suN x.2.1 486 + (if x.1 = true then 1 else 0)
theorem zeW_lt {x y : WT} (hx : x.1 = true) (h : oW (false, x.2.1, x.2.2) y) : zeW y < zeW x := by
  unfold zeW
  rw [if_pos hx]
  have h1 := suN_le h.1 486
  by_cases hy : y.1 = true
  · rw [if_pos hy]
    rcases h.2.1 hy with q | ⟨c, hc, q⟩
    · cases q
    · have := suN_lt h.1 q 486 hc
      dsimp only at this
      omega
  · rw [if_neg hy]; dsimp only at h1; omega
theorem wk_back {σ : Mem} {P n : Nat} {x0 x : WT} (hx : x.1 = true) (h : ∃ N0, ∀ N, wkN σ P n (N0 + N) x0 = wkN σ P n N x) : ∃ N0, ∀ N, wkN σ P n (N0 + N) x0 = wkN σ P n N (wpN σ n (false, x.2.1, x.2.2) P) := by
  obtain ⟨N0, h⟩ := h
  refine ⟨N0 + 1, fun N => ?_⟩
  rw [show N0 + 1 + N = N0 + (N + 1) by omega, h, wkN, if_pos hx]
/-- what work() comes to -/
def wrkP (σ : Mem) (P n : Nat) (s r : Nat → Nat) (τ : Mem) : Prop := (¬ σ 0 12 = 0 ∧ τ = msr σ s r) ∨ (σ 0 12 = 0 ∧ ∃ N, τ = msr (mset σ 0 12 (nI 1)) (wkN (mset σ 0 12 (nI 1)) P n N (true, fillN s 1000000 486, r)).2.1 (wkN (mset σ 0 12 (nI 1)) P n N (true, fillN s 1000000 486, r)).2.2 ∧ (wkN (mset σ 0 12 (nI 1)) P n N (true, fillN s 1000000 486, r)).1 = false ∧ lW (wkN (mset σ 0 12 (nI 1)) P n N (true, fillN s 1000000 486, r)))
theorem wk_exit {σ κ : Mem} {P n : Nat} {s r : Nat → Nat} {x : WT} (hκ : κ = mset σ 0 12 (nI 1)) (h0 : σ 0 12 = 0) (hx : x.1 = false) (hl : lW x) (h : ∃ N0, ∀ N, wkN κ P n (N0 + N) (true, fillN s 1000000 486, r) = wkN κ P n N x) : wrkP σ P n s r (msr κ x.2.1 x.2.2) := by
  subst hκ
  obtain ⟨N0, h⟩ := h
  have h1 := h 0
  rw [Nat.add_zero, wkN] at h1
  exact Or.inr ⟨h0, N0, by rw [h1], by rw [h1]; exact hx, by rw [h1]; exact hl⟩
def chN (σ : Mem) (s : Nat → Nat) (v i j : Nat) : Nat → Nat → (Nat → Nat) → Int32 × (Nat → Nat)
  | 0, _, r => ((-1), r)
  | k + 1, p, r => if ml σ p = v then (if nI (rowN σ s p j r i) = nI (stN σ s v i j) - nI 1 then (nI p, rowN σ s p j r) else chN σ s v i j k (p + 1) (rowN σ s p j r)) else chN σ s v i j k (p + 1) r
end
section
set_option maxHeartbeats 4000000 in
set_option maxRecDepth 100000 in
theorem lp_M_wk5 {p : Program} {l : Launch} {e : Env} {s : State} {m : MethodId} {below : List Frame} {meth : Method} {c : Code} {D : va_G} {cs : Nat → ClassId} {ad : Nat → Nat} {A : Nat → Prop} {Q : State → Prop} {σ κ : Mem} {s9 r9 : Nat → Nat} {P n9 : Nat} (C : bC p s m ([.ref (ad 0)] : List Value).toArray meth c bM_work 7 "EarleyChartModel" none) (hk : wk D cs s) (hA : ∀ q : Nat, s.heap.size ≤ q → A q) (hκ : κ = mset σ 0 12 (nI 1)) (hgσ : mG σ P) (hn7 : σ 0 7 = nI n9) (hn8 : n9 ≤ 8) (hs9 : leN s9) (hr9 : leN r9) (p9 : Nat) (j : Nat) (r : Nat → Nat) (x : Bool × (Nat → Nat)) (hpp : p9 < P) (hj8 : j ≤ n9) (hrl : leN r) (hxl : leN x.2) (K : ∀ (H : Heap) (locs : List Loc) (ls : Array Slot), wS (wM D cs ad) A s.heap (msr κ (wiN κ p9 j r x (j + 1)).2 r) H locs → lv_has ls 7 [(0, .ref (ad 0)), (1, .int (zb (wiN κ p9 j r x (j + 1)).1)), (2, .int (nI p9)), (3, .int (nI j))] → W p l e (rmF 2 50) s m ([.ref (ad 0)] : List Value).toArray below meth c H locs 0 0 Q (F0 m 168 ls [])) :
    ∀ (n : Nat) (i : Nat), (j + 1 - i) < n → (i ≤ j + 1) → ∀ (H : Heap) (locs : List Loc) (ls : Array Slot), wS (wM D cs ad) A s.heap (msr κ (wiN κ p9 j r x i).2 r) H locs → lv_has ls 7 [(0, .ref (ad 0)), (1, .int (zb (wiN κ p9 j r x i).1)), (2, .int (nI p9)), (3, .int (nI j)), (4, .int (nI i))] → W p l e (rmF 2 50) s m ([.ref (ad 0)] : List Value).toArray below meth c H locs 0 0 Q (F0 m 73 ls []) := by
  obtain ⟨hx, hb, hml, hown, hts, hr, hlocks⟩ := id C
  have hg : mG κ P := by rw [hκ]; exact mG_of hgσ (mset_i (by decide)) (mset_n (by decide)) (mset_n (by decide)) (mset_n (by decide))
  have hk7 : κ 0 7 = nI n9 := by rw [hκ, mset_i (by decide)]; exact hn7
  have hP8 := hg.1
  intro n
  induction n with
  | zero => intro i h; exact absurd h (Nat.not_lt_zero _)
  | succ n ih =>
    intro i hn hi H locs ls hE hl
    have hl6 := (hg.2.2 p9 hpp).2.1
    have hri := hrl i
    have hwi := (wiN_ok (σ := κ) (r := r) (x := x) hl6 (by omega : j < 9) i hi).1 (wcl κ p9 i j)
    have hxi := hxl (wcl κ p9 i j)
    have hwc : wcl κ p9 i j = 81 * ml κ p9 + 9 * i + j := rfl
    refine lv_iload hx hb dM_work_73 (lv_at hl 4 rfl) ?_
    refine lv_iload_n hx hb dM_work_75 rfl (lv_at hl 3 rfl) ?_
    refine lv_icmp_gt (tgt := 168) hx hb dM_work_76 (by decide) (fun c1 => ?_) (fun c1 => ?_)
    · have c1 : j < i := (nI_ltI (by omega) (by omega)).mp c1
      have ev2 : (zb (wiN κ p9 j r x i).1 : Int32) = zb (wiN κ p9 j r x (j + 1)).1 := by rw [show j + 1 = i by omega]
      rw [ev2] at hl
      exact K _ _ ls (wS_eq (show msr κ (wiN κ p9 j r x i).2 r = msr κ (wiN κ p9 j r x (j + 1)).2 r by rw [show j + 1 = i by omega]) hE) (lv_sub hl [0, 1, 2, 3] rfl)
    · have c1 : ¬ (j < i) := fun h => c1 ((nI_ltI (by omega) (by omega)).mpr h)
      refine lv_bipush (v := nI 81) hx hb dM_work_79 (by decide) ?_
      refine lv_aload_n hx hb dM_work_81 rfl (lv_at hl 0 rfl) ?_
      refine w_get C hk hE (K := R_M) (T := F_M) (N := 17) (ci := 6) in_M 0 (Nat.le_of_ble_eq_true rfl) rfl rfl 4 (by decide) tw_585 rfl rfl dM_work_82 ?_
      refine lv_iload_n hx hb dM_work_85 rfl (lv_at hl 2 rfl) ?_
      refine w_iald C hk hE 1 (by exact Nat.le_of_ble_eq_true rfl) (n := 8) rfl (by omega) (by first | decide | omega) dM_work_86 ?_
      refine w_top (y := κ 1 p9) (by simp [mset, mrow, upd, mhc, msr, nR]) ?_
      refine w_top (y := nI (ml κ p9)) ((hg.2.2 p9 (by omega)).1) ?_
      refine lv_imul hx hb dM_work_87 ?_
      refine w_top (y := nI (81 * (ml κ p9))) (by exact pk_mul _ _) ?_
      refine lv_bipush (v := nI 9) hx hb dM_work_88 (by decide) ?_
      refine lv_iload hx hb dM_work_90 (lv_at hl 4 rfl) ?_
      refine lv_imul hx hb dM_work_92 ?_
      refine w_top (y := nI (9 * i)) (by exact pk_mul _ _) ?_
      refine lv_iadd hx hb dM_work_93 ?_
      refine w_top (y := nI ((81 * (ml κ p9)) + (9 * i))) (by first | exact nI_add _ _ | simp only [nI_add, Nat.add_assoc, Nat.add_zero, Nat.zero_add]) ?_
      refine lv_iload_n hx hb dM_work_94 rfl (lv_at hl 3 rfl) ?_
      refine lv_iadd hx hb dM_work_95 ?_
      refine w_top (y := nI (((81 * (ml κ p9)) + (9 * i)) + j)) (by first | exact nI_add _ _ | simp only [nI_add, Nat.add_assoc, Nat.add_zero, Nat.zero_add]) ?_
      refine lv_istore (lv' := [(5, .int (nI (((81 * (ml κ p9)) + (9 * i)) + j))), (0, .ref (ad 0)), (1, .int (zb (wiN κ p9 j r x i).1)), (2, .int (nI p9)), (3, .int (nI j)), (4, .int (nI i))]) hx hb dM_work_96 hl (by decide) rfl (fun ls hl => ?_)
      have hl : lv_has ls 7 [(5, .int (nI (wcl κ p9 i j))), (0, .ref (ad 0)), (1, .int (zb (wiN κ p9 j r x i).1)), (2, .int (nI p9)), (3, .int (nI j)), (4, .int (nI i))] := hl
      refine lv_aload_n hx hb dM_work_98 rfl (lv_at hl 1 rfl) ?_
      refine w_get C hk hE (K := R_M) (T := F_M) (N := 17) (ci := 6) in_M 0 (Nat.le_of_ble_eq_true rfl) rfl rfl 13 (by decide) tw_594 rfl rfl dM_work_99 ?_
      refine lv_iload hx hb dM_work_102 (lv_at hl 5 rfl) ?_
      refine w_iald C hk hE 7 (by exact Nat.le_of_ble_eq_true rfl) (n := 45) rfl (by omega) (by first | decide | omega) dM_work_104 ?_
      refine w_top (y := nI (r i)) (by first | exact msr_7 | exact congrFun msr_7 _) ?_
      refine lv_iconst (v := nI 1) hx hb dM_work_105 (by decide) ?_
      refine lv_iadd hx hb dM_work_106 ?_
      refine w_top (y := nI ((r i) + 1)) (by first | exact nI_add _ _ | simp only [nI_add, Nat.add_assoc, Nat.add_zero, Nat.zero_add]) ?_
      refine lv_istore (lv' := [(6, .int (nI ((r i) + 1))), (5, .int (nI (wcl κ p9 i j))), (0, .ref (ad 0)), (1, .int (zb (wiN κ p9 j r x i).1)), (2, .int (nI p9)), (3, .int (nI j)), (4, .int (nI i))]) hx hb dM_work_107 hl (by decide) rfl (fun ls hl => ?_)
      refine lv_iload_n hx hb dM_work_109 rfl (lv_at hl 3 rfl) ?_
      refine lv_if_ne (tgt := 125) hx hb dM_work_110 (by decide) (fun c3 => ?_) (fun c3 => ?_)
      · have c3 := zb_ne0 c3
        refine lv_iconst (v := nI 1) hx hb dM_work_125 (by decide) ?_
        refine lv_goto (tgt := 130) hx hb dM_work_126 (by decide) ?_
        refine lv_istore_n (lv' := [(1, .int (nI 1)), (6, .int (nI ((r i) + 1))), (5, .int (nI (wcl κ p9 i j))), (0, .ref (ad 0)), (2, .int (nI p9)), (3, .int (nI j)), (4, .int (nI i))]) hx hb dM_work_130 rfl hl (by decide) rfl (fun ls hl => ?_)
        refine lv_aload_n hx hb dM_work_131 rfl (lv_at hl 3 rfl) ?_
        refine w_get C hk hE (K := R_M) (T := F_M) (N := 17) (ci := 6) in_M 0 (Nat.le_of_ble_eq_true rfl) rfl rfl 11 (by decide) tw_592 rfl rfl dM_work_132 ?_
        refine lv_iload hx hb dM_work_135 (lv_at hl 2 rfl) ?_
        refine lv_iload hx hb dM_work_137 (lv_at hl 1 rfl) ?_
        refine lv_aload_n hx hb dM_work_139 rfl (lv_at hl 3 rfl) ?_
        refine w_get C hk hE (K := R_M) (T := F_M) (N := 17) (ci := 6) in_M 0 (Nat.le_of_ble_eq_true rfl) rfl rfl 11 (by decide) tw_592 rfl rfl dM_work_140 ?_
        refine lv_iload hx hb dM_work_143 (lv_at hl 2 rfl) ?_
        refine w_iald C hk hE 6 (by exact Nat.le_of_ble_eq_true rfl) (n := 486) rfl (by omega) (by first | decide | omega) dM_work_145 ?_
        refine w_top (y := nI (((wiN κ p9 j r x i).2) (wcl κ p9 i j))) (by first | exact msr_6 | exact congrFun msr_6 _) ?_
        refine lv_icmp_ge (tgt := 154) hx hb dM_work_146 (by decide) (fun c4 => ?_) (fun c4 => ?_)
        · have c4 : (((wiN κ p9 j r x i).2) (wcl κ p9 i j)) ≤ ((r i) + 1) := (nI_leI (by omega) (by omega)).mp c4
          refine lv_aload_n hx hb dM_work_154 rfl (lv_at hl 3 rfl) ?_
          refine w_get C hk hE (K := R_M) (T := F_M) (N := 17) (ci := 6) in_M 0 (Nat.le_of_ble_eq_true rfl) rfl rfl 11 (by decide) tw_592 rfl rfl dM_work_155 ?_
          refine lv_iload hx hb dM_work_158 (lv_at hl 2 rfl) ?_
          refine w_iald C hk hE 6 (by exact Nat.le_of_ble_eq_true rfl) (n := 486) rfl (by omega) (by first | decide | omega) dM_work_160 ?_
          refine w_top (y := nI (((wiN κ p9 j r x i).2) (wcl κ p9 i j))) (by first | exact msr_6 | exact congrFun msr_6 _) ?_
          refine w_iast C hk hE 6 (by exact Nat.le_of_ble_eq_true rfl) (n := 486) (fun _ => rfl) (by omega) (by first | decide | omega) dM_work_161 (fun H locs hE => ?_)
          rw [msr_set6] at hE
          refine lv_iinc (v := nI (i + 1)) (lv' := [(4, .int (nI (i + 1))), (1, .int (nI 1)), (6, .int (nI ((r i) + 1))), (5, .int (nI (wcl κ p9 i j))), (0, .ref (ad 0)), (2, .int (nI p9)), (3, .int (nI j))]) hx hb dM_work_162 hl (k := 6) rfl (by exact nI_1 _) (by decide) rfl (fun ls hl => ?_)
          refine lv_goto (tgt := 73) hx hb dM_work_165 (by decide) ?_
          have ev5 : (nI 1 : Int32) = zb (wiN κ p9 j r x (i + 1)).1 := by first | (exfalso; omega) | (rw [wiN]; simp [zb, c3]; try omega)
          rw [ev5] at hl
          exact ih (i + 1) (by omega) (by omega) _ _ ls (wS_eq (show msr κ (updN ((wiN κ p9 j r x i).2) (wcl κ p9 i j) (((wiN κ p9 j r x i).2) (wcl κ p9 i j))) r = msr κ (wiN κ p9 j r x (i + 1)).2 r by first | (exfalso; omega) | (rw [wiN, if_pos (by omega)]) | (rw [wiN, if_neg (by omega)])) hE) (lv_sub hl [4, 1, 5, 6, 0] rfl)
        · have c4 : ¬ ((((wiN κ p9 j r x i).2) (wcl κ p9 i j)) ≤ ((r i) + 1)) := fun h => c4 ((nI_leI (by omega) (by omega)).mpr h)
          refine lv_iload hx hb dM_work_149 (lv_at hl 1 rfl) ?_
          refine lv_goto (tgt := 161) hx hb dM_work_151 (by decide) ?_
          refine w_iast C hk hE 6 (by exact Nat.le_of_ble_eq_true rfl) (n := 486) (fun _ => rfl) (by omega) (by first | decide | omega) dM_work_161 (fun H locs hE => ?_)
          rw [msr_set6] at hE
          refine lv_iinc (v := nI (i + 1)) (lv' := [(4, .int (nI (i + 1))), (1, .int (nI 1)), (6, .int (nI ((r i) + 1))), (5, .int (nI (wcl κ p9 i j))), (0, .ref (ad 0)), (2, .int (nI p9)), (3, .int (nI j))]) hx hb dM_work_162 hl (k := 6) rfl (by exact nI_1 _) (by decide) rfl (fun ls hl => ?_)
          refine lv_goto (tgt := 73) hx hb dM_work_165 (by decide) ?_
          have ev6 : (nI 1 : Int32) = zb (wiN κ p9 j r x (i + 1)).1 := by first | (exfalso; omega) | (rw [wiN]; simp [zb, c3]; try omega)
          rw [ev6] at hl
          exact ih (i + 1) (by omega) (by omega) _ _ ls (wS_eq (show msr κ (updN ((wiN κ p9 j r x i).2) (wcl κ p9 i j) ((r i) + 1)) r = msr κ (wiN κ p9 j r x (i + 1)).2 r by first | (exfalso; omega) | (rw [wiN, if_pos (by omega)]) | (rw [wiN, if_neg (by omega)])) hE) (lv_sub hl [4, 1, 5, 6, 0] rfl)
      · have c3 := zb_eq0 c3
        refine lv_iload hx hb dM_work_113 (lv_at hl 0 rfl) ?_
        refine lv_aload_n hx hb dM_work_115 rfl (lv_at hl 2 rfl) ?_
        refine w_get C hk hE (K := R_M) (T := F_M) (N := 17) (ci := 6) in_M 0 (Nat.le_of_ble_eq_true rfl) rfl rfl 11 (by decide) tw_592 rfl rfl dM_work_116 ?_
        refine lv_iload hx hb dM_work_119 (lv_at hl 1 rfl) ?_
        refine w_iald C hk hE 6 (by exact Nat.le_of_ble_eq_true rfl) (n := 486) rfl (by omega) (by first | decide | omega) dM_work_121 ?_
        refine w_top (y := nI (((wiN κ p9 j r x i).2) (wcl κ p9 i j))) (by first | exact msr_6 | exact congrFun msr_6 _) ?_
        refine lv_icmp_ge (tgt := 129) hx hb dM_work_122 (by decide) (fun c7 => ?_) (fun c7 => ?_)
        · have c7 : (((wiN κ p9 j r x i).2) (wcl κ p9 i j)) ≤ ((r i) + 1) := (nI_leI (by omega) (by omega)).mp c7
          refine lv_iconst (v := nI 0) hx hb dM_work_129 (by decide) ?_
          refine lv_istore_n (lv' := [(1, .int (nI 0)), (6, .int (nI ((r i) + 1))), (5, .int (nI (wcl κ p9 i j))), (0, .ref (ad 0)), (2, .int (nI p9)), (3, .int (nI j)), (4, .int (nI i))]) hx hb dM_work_130 rfl hl (by decide) rfl (fun ls hl => ?_)
          refine lv_aload_n hx hb dM_work_131 rfl (lv_at hl 3 rfl) ?_
          refine w_get C hk hE (K := R_M) (T := F_M) (N := 17) (ci := 6) in_M 0 (Nat.le_of_ble_eq_true rfl) rfl rfl 11 (by decide) tw_592 rfl rfl dM_work_132 ?_
          refine lv_iload hx hb dM_work_135 (lv_at hl 2 rfl) ?_
          refine lv_iload hx hb dM_work_137 (lv_at hl 1 rfl) ?_
          refine lv_aload_n hx hb dM_work_139 rfl (lv_at hl 3 rfl) ?_
          refine w_get C hk hE (K := R_M) (T := F_M) (N := 17) (ci := 6) in_M 0 (Nat.le_of_ble_eq_true rfl) rfl rfl 11 (by decide) tw_592 rfl rfl dM_work_140 ?_
          refine lv_iload hx hb dM_work_143 (lv_at hl 2 rfl) ?_
          refine w_iald C hk hE 6 (by exact Nat.le_of_ble_eq_true rfl) (n := 486) rfl (by omega) (by first | decide | omega) dM_work_145 ?_
          refine w_top (y := nI (((wiN κ p9 j r x i).2) (wcl κ p9 i j))) (by first | exact msr_6 | exact congrFun msr_6 _) ?_
          refine lv_icmp_ge (tgt := 154) hx hb dM_work_146 (by decide) (fun c8 => ?_) (fun c8 => ?_)
          · have c8 : (((wiN κ p9 j r x i).2) (wcl κ p9 i j)) ≤ ((r i) + 1) := (nI_leI (by omega) (by omega)).mp c8
            refine lv_aload_n hx hb dM_work_154 rfl (lv_at hl 3 rfl) ?_
            refine w_get C hk hE (K := R_M) (T := F_M) (N := 17) (ci := 6) in_M 0 (Nat.le_of_ble_eq_true rfl) rfl rfl 11 (by decide) tw_592 rfl rfl dM_work_155 ?_
            refine lv_iload hx hb dM_work_158 (lv_at hl 2 rfl) ?_
            refine w_iald C hk hE 6 (by exact Nat.le_of_ble_eq_true rfl) (n := 486) rfl (by omega) (by first | decide | omega) dM_work_160 ?_
            refine w_top (y := nI (((wiN κ p9 j r x i).2) (wcl κ p9 i j))) (by first | exact msr_6 | exact congrFun msr_6 _) ?_
            refine w_iast C hk hE 6 (by exact Nat.le_of_ble_eq_true rfl) (n := 486) (fun _ => rfl) (by omega) (by first | decide | omega) dM_work_161 (fun H locs hE => ?_)
            rw [msr_set6] at hE
            refine lv_iinc (v := nI (i + 1)) (lv' := [(4, .int (nI (i + 1))), (1, .int (nI 0)), (6, .int (nI ((r i) + 1))), (5, .int (nI (wcl κ p9 i j))), (0, .ref (ad 0)), (2, .int (nI p9)), (3, .int (nI j))]) hx hb dM_work_162 hl (k := 6) rfl (by exact nI_1 _) (by decide) rfl (fun ls hl => ?_)
            refine lv_goto (tgt := 73) hx hb dM_work_165 (by decide) ?_
            have ev9 : (nI 0 : Int32) = zb (wiN κ p9 j r x (i + 1)).1 := by first | (exfalso; omega) | (rw [wiN]; simp [zb, c3, c7]; try omega)
            rw [ev9] at hl
            exact ih (i + 1) (by omega) (by omega) _ _ ls (wS_eq (show msr κ (updN ((wiN κ p9 j r x i).2) (wcl κ p9 i j) (((wiN κ p9 j r x i).2) (wcl κ p9 i j))) r = msr κ (wiN κ p9 j r x (i + 1)).2 r by first | (exfalso; omega) | (rw [wiN, if_pos (by omega)]) | (rw [wiN, if_neg (by omega)])) hE) (lv_sub hl [4, 1, 5, 6, 0] rfl)
          · have c8 : ¬ ((((wiN κ p9 j r x i).2) (wcl κ p9 i j)) ≤ ((r i) + 1)) := fun h => c8 ((nI_leI (by omega) (by omega)).mpr h)
            refine lv_iload hx hb dM_work_149 (lv_at hl 1 rfl) ?_
            refine lv_goto (tgt := 161) hx hb dM_work_151 (by decide) ?_
            refine w_iast C hk hE 6 (by exact Nat.le_of_ble_eq_true rfl) (n := 486) (fun _ => rfl) (by omega) (by first | decide | omega) dM_work_161 (fun H locs hE => ?_)
            rw [msr_set6] at hE
            refine lv_iinc (v := nI (i + 1)) (lv' := [(4, .int (nI (i + 1))), (1, .int (nI 0)), (6, .int (nI ((r i) + 1))), (5, .int (nI (wcl κ p9 i j))), (0, .ref (ad 0)), (2, .int (nI p9)), (3, .int (nI j))]) hx hb dM_work_162 hl (k := 6) rfl (by exact nI_1 _) (by decide) rfl (fun ls hl => ?_)
            refine lv_goto (tgt := 73) hx hb dM_work_165 (by decide) ?_
            have ev10 : (nI 0 : Int32) = zb (wiN κ p9 j r x (i + 1)).1 := by first | (exfalso; omega) | (rw [wiN]; simp [zb, c3, c7]; try omega)
            rw [ev10] at hl
            exact ih (i + 1) (by omega) (by omega) _ _ ls (wS_eq (show msr κ (updN ((wiN κ p9 j r x i).2) (wcl κ p9 i j) ((r i) + 1)) r = msr κ (wiN κ p9 j r x (i + 1)).2 r by first | (exfalso; omega) | (rw [wiN, if_pos (by omega)]) | (rw [wiN, if_neg (by omega)])) hE) (lv_sub hl [4, 1, 5, 6, 0] rfl)
        · have c7 : ¬ ((((wiN κ p9 j r x i).2) (wcl κ p9 i j)) ≤ ((r i) + 1)) := fun h => c7 ((nI_leI (by omega) (by omega)).mpr h)
          refine lv_iconst (v := nI 1) hx hb dM_work_125 (by decide) ?_
          refine lv_goto (tgt := 130) hx hb dM_work_126 (by decide) ?_
          refine lv_istore_n (lv' := [(1, .int (nI 1)), (6, .int (nI ((r i) + 1))), (5, .int (nI (wcl κ p9 i j))), (0, .ref (ad 0)), (2, .int (nI p9)), (3, .int (nI j)), (4, .int (nI i))]) hx hb dM_work_130 rfl hl (by decide) rfl (fun ls hl => ?_)
          refine lv_aload_n hx hb dM_work_131 rfl (lv_at hl 3 rfl) ?_
          refine w_get C hk hE (K := R_M) (T := F_M) (N := 17) (ci := 6) in_M 0 (Nat.le_of_ble_eq_true rfl) rfl rfl 11 (by decide) tw_592 rfl rfl dM_work_132 ?_
          refine lv_iload hx hb dM_work_135 (lv_at hl 2 rfl) ?_
          refine lv_iload hx hb dM_work_137 (lv_at hl 1 rfl) ?_
          refine lv_aload_n hx hb dM_work_139 rfl (lv_at hl 3 rfl) ?_
          refine w_get C hk hE (K := R_M) (T := F_M) (N := 17) (ci := 6) in_M 0 (Nat.le_of_ble_eq_true rfl) rfl rfl 11 (by decide) tw_592 rfl rfl dM_work_140 ?_
          refine lv_iload hx hb dM_work_143 (lv_at hl 2 rfl) ?_
          refine w_iald C hk hE 6 (by exact Nat.le_of_ble_eq_true rfl) (n := 486) rfl (by omega) (by first | decide | omega) dM_work_145 ?_
          refine w_top (y := nI (((wiN κ p9 j r x i).2) (wcl κ p9 i j))) (by first | exact msr_6 | exact congrFun msr_6 _) ?_
          refine lv_icmp_ge (tgt := 154) hx hb dM_work_146 (by decide) (fun c11 => ?_) (fun c11 => ?_)
          · have c11 : (((wiN κ p9 j r x i).2) (wcl κ p9 i j)) ≤ ((r i) + 1) := (nI_leI (by omega) (by omega)).mp c11
            refine lv_aload_n hx hb dM_work_154 rfl (lv_at hl 3 rfl) ?_
            refine w_get C hk hE (K := R_M) (T := F_M) (N := 17) (ci := 6) in_M 0 (Nat.le_of_ble_eq_true rfl) rfl rfl 11 (by decide) tw_592 rfl rfl dM_work_155 ?_
            refine lv_iload hx hb dM_work_158 (lv_at hl 2 rfl) ?_
            refine w_iald C hk hE 6 (by exact Nat.le_of_ble_eq_true rfl) (n := 486) rfl (by omega) (by first | decide | omega) dM_work_160 ?_
            refine w_top (y := nI (((wiN κ p9 j r x i).2) (wcl κ p9 i j))) (by first | exact msr_6 | exact congrFun msr_6 _) ?_
            refine w_iast C hk hE 6 (by exact Nat.le_of_ble_eq_true rfl) (n := 486) (fun _ => rfl) (by omega) (by first | decide | omega) dM_work_161 (fun H locs hE => ?_)
            rw [msr_set6] at hE
            refine lv_iinc (v := nI (i + 1)) (lv' := [(4, .int (nI (i + 1))), (1, .int (nI 1)), (6, .int (nI ((r i) + 1))), (5, .int (nI (wcl κ p9 i j))), (0, .ref (ad 0)), (2, .int (nI p9)), (3, .int (nI j))]) hx hb dM_work_162 hl (k := 6) rfl (by exact nI_1 _) (by decide) rfl (fun ls hl => ?_)
            refine lv_goto (tgt := 73) hx hb dM_work_165 (by decide) ?_
            have ev12 : (nI 1 : Int32) = zb (wiN κ p9 j r x (i + 1)).1 := by first | (exfalso; omega) | (rw [wiN]; simp [zb, c3, c7]; try omega)
            rw [ev12] at hl
            exact ih (i + 1) (by omega) (by omega) _ _ ls (wS_eq (show msr κ (updN ((wiN κ p9 j r x i).2) (wcl κ p9 i j) (((wiN κ p9 j r x i).2) (wcl κ p9 i j))) r = msr κ (wiN κ p9 j r x (i + 1)).2 r by first | (exfalso; omega) | (rw [wiN, if_pos (by omega)]) | (rw [wiN, if_neg (by omega)])) hE) (lv_sub hl [4, 1, 5, 6, 0] rfl)
          · have c11 : ¬ ((((wiN κ p9 j r x i).2) (wcl κ p9 i j)) ≤ ((r i) + 1)) := fun h => c11 ((nI_leI (by omega) (by omega)).mpr h)
            refine lv_iload hx hb dM_work_149 (lv_at hl 1 rfl) ?_
            refine lv_goto (tgt := 161) hx hb dM_work_151 (by decide) ?_
            refine w_iast C hk hE 6 (by exact Nat.le_of_ble_eq_true rfl) (n := 486) (fun _ => rfl) (by omega) (by first | decide | omega) dM_work_161 (fun H locs hE => ?_)
            rw [msr_set6] at hE
            refine lv_iinc (v := nI (i + 1)) (lv' := [(4, .int (nI (i + 1))), (1, .int (nI 1)), (6, .int (nI ((r i) + 1))), (5, .int (nI (wcl κ p9 i j))), (0, .ref (ad 0)), (2, .int (nI p9)), (3, .int (nI j))]) hx hb dM_work_162 hl (k := 6) rfl (by exact nI_1 _) (by decide) rfl (fun ls hl => ?_)
            refine lv_goto (tgt := 73) hx hb dM_work_165 (by decide) ?_
            have ev13 : (nI 1 : Int32) = zb (wiN κ p9 j r x (i + 1)).1 := by first | (exfalso; omega) | (rw [wiN]; simp [zb, c3, c7]; try omega)
            rw [ev13] at hl
            exact ih (i + 1) (by omega) (by omega) _ _ ls (wS_eq (show msr κ (updN ((wiN κ p9 j r x i).2) (wcl κ p9 i j) ((r i) + 1)) r = msr κ (wiN κ p9 j r x (i + 1)).2 r by first | (exfalso; omega) | (rw [wiN, if_pos (by omega)]) | (rw [wiN, if_neg (by omega)])) hE) (lv_sub hl [4, 1, 5, 6, 0] rfl)
set_option maxHeartbeats 4000000 in
set_option maxRecDepth 100000 in
theorem lp_M_wk4 {p : Program} {l : Launch} {e : Env} {s : State} {m : MethodId} {below : List Frame} {meth : Method} {c : Code} {D : va_G} {cs : Nat → ClassId} {ad : Nat → Nat} {A : Nat → Prop} {Q : State → Prop} {σ κ : Mem} {s9 r9 : Nat → Nat} {P n9 : Nat} (C : bC p s m ([.ref (ad 0)] : List Value).toArray meth c bM_work 7 "EarleyChartModel" none) (hk : wk D cs s) (hA : ∀ q : Nat, s.heap.size ≤ q → A q) (hκ : κ = mset σ 0 12 (nI 1)) (hgσ : mG σ P) (hn7 : σ 0 7 = nI n9) (hn8 : n9 ≤ 8) (hs9 : leN s9) (hr9 : leN r9) (p9 : Nat) (x : WT) (hpp : p9 < P) (hlx : lW x) (K : ∀ (H : Heap) (locs : List Loc) (ls : Array Slot), wS (wM D cs ad) A s.heap (msr κ (wjN κ p9 x (n9 + 1)).2.1 (wjN κ p9 x (n9 + 1)).2.2) H locs → lv_has ls 7 [(0, .ref (ad 0)), (1, .int (zb (wjN κ p9 x (n9 + 1)).1)), (2, .int (nI p9))] → W p l e (rmF 2 50) s m ([.ref (ad 0)] : List Value).toArray below meth c H locs 0 0 Q (F0 m 174 ls [])) :
    ∀ (n : Nat) (j : Nat), (n9 + 1 - j) < n → (j ≤ n9 + 1) → ∀ (H : Heap) (locs : List Loc) (ls : Array Slot), wS (wM D cs ad) A s.heap (msr κ (wjN κ p9 x j).2.1 (wjN κ p9 x j).2.2) H locs → lv_has ls 7 [(0, .ref (ad 0)), (1, .int (zb (wjN κ p9 x j).1)), (2, .int (nI p9)), (3, .int (nI j))] → W p l e (rmF 2 50) s m ([.ref (ad 0)] : List Value).toArray below meth c H locs 0 0 Q (F0 m 56 ls []) := by
  obtain ⟨hx, hb, hml, hown, hts, hr, hlocks⟩ := id C
  have hg : mG κ P := by rw [hκ]; exact mG_of hgσ (mset_i (by decide)) (mset_n (by decide)) (mset_n (by decide)) (mset_n (by decide))
  have hk7 : κ 0 7 = nI n9 := by rw [hκ, mset_i (by decide)]; exact hn7
  have hP8 := hg.1
  intro n
  induction n with
  | zero => intro j h; exact absurd h (Nat.not_lt_zero _)
  | succ n ih =>
    intro j hn hj9 H locs ls hE hl
    have hl6 := (hg.2.2 p9 hpp).2.1
    refine lv_iload_n hx hb dM_work_56 rfl (lv_at hl 3 rfl) ?_
    refine lv_aload_n hx hb dM_work_57 rfl (lv_at hl 0 rfl) ?_
    refine w_get C hk hE (K := R_M) (T := F_M) (N := 17) (ci := 6) in_M 0 (Nat.le_of_ble_eq_true rfl) rfl rfl 7 (by decide) tw_588 rfl rfl dM_work_58 ?_
    refine w_top (y := κ 0 7) (by simp [mset, mrow, upd, mhc, msr, nR]) ?_
    refine w_top (y := nI n9) (hk7) ?_
    refine lv_icmp_gt (tgt := 174) hx hb dM_work_61 (by decide) (fun c1 => ?_) (fun c1 => ?_)
    · have c1 : n9 < j := (nI_ltI (by omega) (by omega)).mp c1
      have ev2 : (zb (wjN κ p9 x j).1 : Int32) = zb (wjN κ p9 x (n9 + 1)).1 := by rw [show n9 + 1 = j by omega]
      rw [ev2] at hl
      exact K _ _ ls (wS_eq (show msr κ (wjN κ p9 x j).2.1 (wjN κ p9 x j).2.2 = msr κ (wjN κ p9 x (n9 + 1)).2.1 (wjN κ p9 x (n9 + 1)).2.2 by rw [show n9 + 1 = j by omega]) hE) (lv_sub hl [0, 1, 2] rfl)
    · have c1 : ¬ (n9 < j) := fun h => c1 ((nI_ltI (by omega) (by omega)).mpr h)
      refine lv_aload_n hx hb dM_work_64 rfl (lv_at hl 0 rfl) ?_
      refine lv_iload_n hx hb dM_work_65 rfl (lv_at hl 2 rfl) ?_
      refine lv_iload_n hx hb dM_work_66 rfl (lv_at hl 3 rfl) ?_
      refine w_cv hE hA (w_runV C hk hE hl.1 (As := [.int (nI p9), .int (nI j)]) (rest := []) (q := 0) (c_M_row l D cs ad κ ((wjN κ p9 x j).2.1) ((wjN κ p9 x j).2.2) P p9 j hg (by omega) (by omega) (((wjN_ok (x := x) hl6 j (by omega)).2.2 hlx).1) (((wjN_ok (x := x) hl6 j (by omega)).2.2 hlx).2) _) (Nat.le_of_ble_eq_true rfl) (ci := 6) (N := 17) (T := F_M) rfl rfl tw_715 tw_717 ts_31 tw_9 tw_718 (n := 2) (by decide +kernel) rfl rfl (Nat.le_of_ble_eq_true rfl) dM_work_67 ⟨Nat.le_of_ble_eq_true rfl, Nat.le_of_ble_eq_true rfl⟩ ⟨Nat.zero_le _, Nat.zero_le _⟩) (fun τ4 H locs hp hE _ _ => ?_)
      have hE := wS_eq hp hE
      refine lv_iconst (v := nI 0) hx hb dM_work_70 (by decide) ?_
      refine lv_istore (lv' := [(4, .int (nI 0)), (0, .ref (ad 0)), (1, .int (zb (wjN κ p9 x j).1)), (2, .int (nI p9)), (3, .int (nI j))]) hx hb dM_work_71 hl (by decide) rfl (fun ls hl => ?_)
      have ev5 : (zb (wjN κ p9 x j).1 : Int32) = zb (wiN κ p9 j (rowN κ ((wjN κ p9 x j).2.1) p9 j ((wjN κ p9 x j).2.2)) ((wjN κ p9 x j).1, (wjN κ p9 x j).2.1) 0).1 := by rfl
      rw [ev5] at hl
      refine lp_M_wk5 C hk hA hκ hgσ hn7 hn8 hs9 hr9 p9 j (rowN κ ((wjN κ p9 x j).2.1) p9 j ((wjN κ p9 x j).2.2)) ((wjN κ p9 x j).1, (wjN κ p9 x j).2.1) (hpp) (by omega) (leN_row ((wjN_ok (x := x) hl6 j (by omega)).2.2 hlx).2) (((wjN_ok (x := x) hl6 j (by omega)).2.2 hlx).1) (fun H locs ls hE hl => ?_) _ 0 (Nat.lt_succ_self _) (Nat.zero_le _) _ _ ls (wS_eq (show msr κ ((wjN κ p9 x j).2.1) (rowN κ ((wjN κ p9 x j).2.1) p9 j ((wjN κ p9 x j).2.2)) = msr κ (wiN κ p9 j (rowN κ ((wjN κ p9 x j).2.1) p9 j ((wjN κ p9 x j).2.2)) ((wjN κ p9 x j).1, (wjN κ p9 x j).2.1) 0).2 (rowN κ ((wjN κ p9 x j).2.1) p9 j ((wjN κ p9 x j).2.2)) by rfl) hE) (lv_sub hl [1, 2, 3, 4, 0] rfl)
      refine lv_iinc (v := nI (j + 1)) (lv' := [(3, .int (nI (j + 1))), (0, .ref (ad 0)), (1, .int (zb (wiN κ p9 j (rowN κ ((wjN κ p9 x j).2.1) p9 j ((wjN κ p9 x j).2.2)) ((wjN κ p9 x j).1, (wjN κ p9 x j).2.1) (j + 1)).1)), (2, .int (nI p9))]) hx hb dM_work_168 hl (k := 3) rfl (by exact nI_1 _) (by decide) rfl (fun ls hl => ?_)
      refine lv_goto (tgt := 56) hx hb dM_work_171 (by decide) ?_
      have ev6 : (zb (wiN κ p9 j (rowN κ ((wjN κ p9 x j).2.1) p9 j ((wjN κ p9 x j).2.2)) ((wjN κ p9 x j).1, (wjN κ p9 x j).2.1) (j + 1)).1 : Int32) = zb (wjN κ p9 x (j + 1)).1 := by rfl
      rw [ev6] at hl
      exact ih (j + 1) (by omega) (by omega) _ _ ls (wS_eq (show msr κ (wiN κ p9 j (rowN κ ((wjN κ p9 x j).2.1) p9 j ((wjN κ p9 x j).2.2)) ((wjN κ p9 x j).1, (wjN κ p9 x j).2.1) (j + 1)).2 (rowN κ ((wjN κ p9 x j).2.1) p9 j ((wjN κ p9 x j).2.2)) = msr κ (wjN κ p9 x (j + 1)).2.1 (wjN κ p9 x (j + 1)).2.2 by rfl) hE) (lv_sub hl [1, 2, 3, 0] rfl)
set_option maxHeartbeats 4000000 in
set_option maxRecDepth 100000 in
theorem lp_M_wk3 {p : Program} {l : Launch} {e : Env} {s : State} {m : MethodId} {below : List Frame} {meth : Method} {c : Code} {D : va_G} {cs : Nat → ClassId} {ad : Nat → Nat} {A : Nat → Prop} {Q : State → Prop} {σ κ : Mem} {s9 r9 : Nat → Nat} {P n9 : Nat} (C : bC p s m ([.ref (ad 0)] : List Value).toArray meth c bM_work 7 "EarleyChartModel" none) (hk : wk D cs s) (hA : ∀ q : Nat, s.heap.size ≤ q → A q) (hκ : κ = mset σ 0 12 (nI 1)) (hgσ : mG σ P) (hn7 : σ 0 7 = nI n9) (hn8 : n9 ≤ 8) (hs9 : leN s9) (hr9 : leN r9) (x : WT) (hlx : lW x) (K : ∀ (H : Heap) (locs : List Loc) (ls : Array Slot), wS (wM D cs ad) A s.heap (msr κ (wpN κ n9 x P).2.1 (wpN κ n9 x P).2.2) H locs → lv_has ls 7 [(0, .ref (ad 0)), (1, .int (zb (wpN κ n9 x P).1))] → W p l e (rmF 2 50) s m ([.ref (ad 0)] : List Value).toArray below meth c H locs 0 0 Q (F0 m 180 ls [])) :
    ∀ (n : Nat) (p9 : Nat), (P - p9) < n → (p9 ≤ P) → ∀ (H : Heap) (locs : List Loc) (ls : Array Slot), wS (wM D cs ad) A s.heap (msr κ (wpN κ n9 x p9).2.1 (wpN κ n9 x p9).2.2) H locs → lv_has ls 7 [(0, .ref (ad 0)), (1, .int (zb (wpN κ n9 x p9).1)), (2, .int (nI p9))] → W p l e (rmF 2 50) s m ([.ref (ad 0)] : List Value).toArray below meth c H locs 0 0 Q (F0 m 46 ls []) := by
  obtain ⟨hx, hb, hml, hown, hts, hr, hlocks⟩ := id C
  have hg : mG κ P := by rw [hκ]; exact mG_of hgσ (mset_i (by decide)) (mset_n (by decide)) (mset_n (by decide)) (mset_n (by decide))
  have hk7 : κ 0 7 = nI n9 := by rw [hκ, mset_i (by decide)]; exact hn7
  have hP8 := hg.1
  intro n
  induction n with
  | zero => intro p9 h; exact absurd h (Nat.not_lt_zero _)
  | succ n ih =>
    intro p9 hn hp9 H locs ls hE hl
    refine lv_iload_n hx hb dM_work_46 rfl (lv_at hl 2 rfl) ?_
    refine lv_aload_n hx hb dM_work_47 rfl (lv_at hl 0 rfl) ?_
    refine w_get C hk hE (K := R_M) (T := F_M) (N := 17) (ci := 6) in_M 0 (Nat.le_of_ble_eq_true rfl) rfl rfl 3 (by decide) tw_584 rfl rfl dM_work_48 ?_
    refine w_top (y := κ 0 3) (by simp [mset, mrow, upd, mhc, msr, nR]) ?_
    refine w_top (y := nI P) (hg.2.1) ?_
    refine lv_icmp_ge (tgt := 180) hx hb dM_work_51 (by decide) (fun c1 => ?_) (fun c1 => ?_)
    · have c1 : P ≤ p9 := (nI_leI (by omega) (by omega)).mp c1
      have ev2 : (zb (wpN κ n9 x p9).1 : Int32) = zb (wpN κ n9 x P).1 := by rw [show P = p9 by omega]
      rw [ev2] at hl
      exact K _ _ ls (wS_eq (show msr κ (wpN κ n9 x p9).2.1 (wpN κ n9 x p9).2.2 = msr κ (wpN κ n9 x P).2.1 (wpN κ n9 x P).2.2 by rw [show P = p9 by omega]) hE) (lv_sub hl [0, 1] rfl)
    · have c1 : ¬ (P ≤ p9) := fun h => c1 ((nI_leI (by omega) (by omega)).mpr h)
      refine lv_iconst (v := nI 0) hx hb dM_work_54 (by decide) ?_
      refine lv_istore_n (lv' := [(3, .int (nI 0)), (0, .ref (ad 0)), (1, .int (zb (wpN κ n9 x p9).1)), (2, .int (nI p9))]) hx hb dM_work_55 rfl hl (by decide) rfl (fun ls hl => ?_)
      have ev3 : (zb (wpN κ n9 x p9).1 : Int32) = zb (wjN κ p9 (wpN κ n9 x p9) 0).1 := by rfl
      rw [ev3] at hl
      refine lp_M_wk4 C hk hA hκ hgσ hn7 hn8 hs9 hr9 p9 (wpN κ n9 x p9) (by omega) ((wpN_ok hg hn8 p9 (by omega)).2.2 hlx) (fun H locs ls hE hl => ?_) _ 0 (Nat.lt_succ_self _) (Nat.zero_le _) _ _ ls (wS_eq (show msr κ (wpN κ n9 x p9).2.1 (wpN κ n9 x p9).2.2 = msr κ (wjN κ p9 (wpN κ n9 x p9) 0).2.1 (wjN κ p9 (wpN κ n9 x p9) 0).2.2 by rfl) hE) (lv_sub hl [1, 2, 3, 0] rfl)
      refine lv_iinc (v := nI (p9 + 1)) (lv' := [(2, .int (nI (p9 + 1))), (0, .ref (ad 0)), (1, .int (zb (wjN κ p9 (wpN κ n9 x p9) (n9 + 1)).1))]) hx hb dM_work_174 hl (k := 2) rfl (by exact nI_1 _) (by decide) rfl (fun ls hl => ?_)
      refine lv_goto (tgt := 46) hx hb dM_work_177 (by decide) ?_
      have ev4 : (zb (wjN κ p9 (wpN κ n9 x p9) (n9 + 1)).1 : Int32) = zb (wpN κ n9 x (p9 + 1)).1 := by rfl
      rw [ev4] at hl
      exact ih (p9 + 1) (by omega) (by omega) _ _ ls (wS_eq (show msr κ (wjN κ p9 (wpN κ n9 x p9) (n9 + 1)).2.1 (wjN κ p9 (wpN κ n9 x p9) (n9 + 1)).2.2 = msr κ (wpN κ n9 x (p9 + 1)).2.1 (wpN κ n9 x (p9 + 1)).2.2 by rfl) hE) (lv_sub hl [1, 2, 0] rfl)
set_option maxHeartbeats 4000000 in
set_option maxRecDepth 100000 in
theorem lp_M_wk2 {p : Program} {l : Launch} {e : Env} {s : State} {m : MethodId} {below : List Frame} {meth : Method} {c : Code} {D : va_G} {cs : Nat → ClassId} {ad : Nat → Nat} {A : Nat → Prop} {σ κ : Mem} {s9 r9 : Nat → Nat} {P n9 : Nat} (C : bC p s m ([.ref (ad 0)] : List Value).toArray meth c bM_work 7 "EarleyChartModel" none) (hk : wk D cs s) (hA : ∀ q : Nat, s.heap.size ≤ q → A q) (hκ : κ = mset σ 0 12 (nI 1)) (hgσ : mG σ P) (hn7 : σ 0 7 = nI n9) (hn8 : n9 ≤ 8) (hs9 : leN s9) (hr9 : leN r9)   :
    ∀ (n : Nat) (x : WT), (zeW x) < n → (σ 0 12 = 0) → (lW x) → (∃ N0, ∀ N, wkN κ P n9 (N0 + N) (true, fillN s9 1000000 486, r9) = wkN κ P n9 N x) → ∀ (H : Heap) (locs : List Loc) (ls : Array Slot), wS (wM D cs ad) A s.heap (msr κ x.2.1 x.2.2) H locs → lv_has ls 7 [(0, .ref (ad 0)), (1, .int (zb x.1))] → W p l e (rmF 2 50) s m ([.ref (ad 0)] : List Value).toArray below meth c H locs 0 0 (wQv (wM D cs ad) A (wrkP σ P n9 s9 r9) s below ([.ref (ad 0)] : List Value).toArray) (F0 m 38 ls []) := by
  obtain ⟨hx, hb, hml, hown, hts, hr, hlocks⟩ := id C
  have hg : mG κ P := by rw [hκ]; exact mG_of hgσ (mset_i (by decide)) (mset_n (by decide)) (mset_n (by decide)) (mset_n (by decide))
  have hk7 : κ 0 7 = nI n9 := by rw [hκ, mset_i (by decide)]; exact hn7
  have hP8 := hg.1
  intro n
  induction n with
  | zero => intro x h; exact absurd h (Nat.not_lt_zero _)
  | succ n ih =>
    intro x hn hkn0 hlx hres H locs ls hE hl
    refine lv_iload_n hx hb dM_work_38 rfl (lv_at hl 1 rfl) ?_
    refine lv_if_eq (tgt := 183) hx hb dM_work_39 (by decide) (fun c1 => ?_) (fun c1 => ?_)
    · have c1 := zb_eq0 c1
      exact w_retv C hE (wk_exit hκ hkn0 c1 hlx hres) dM_work_183
    · have c1 := zb_ne0 c1
      refine lv_iconst (v := nI 0) hx hb dM_work_42 (by decide) ?_
      refine lv_istore_n (lv' := [(1, .int (nI 0)), (0, .ref (ad 0))]) hx hb dM_work_43 rfl hl (by decide) rfl (fun ls hl => ?_)
      refine lv_iconst (v := nI 0) hx hb dM_work_44 (by decide) ?_
      refine lv_istore_n (lv' := [(2, .int (nI 0)), (1, .int (nI 0)), (0, .ref (ad 0))]) hx hb dM_work_45 rfl hl (by decide) rfl (fun ls hl => ?_)
      have ev2 : (nI 0 : Int32) = zb (wpN κ n9 (false, x.2.1, x.2.2) 0).1 := by rfl
      rw [ev2] at hl
      refine lp_M_wk3 C hk hA hκ hgσ hn7 hn8 hs9 hr9 (false, x.2.1, x.2.2) (hlx) (fun H locs ls hE hl => ?_) _ 0 (Nat.lt_succ_self _) (Nat.zero_le _) _ _ ls (wS_eq (show msr κ x.2.1 x.2.2 = msr κ (wpN κ n9 (false, x.2.1, x.2.2) 0).2.1 (wpN κ n9 (false, x.2.1, x.2.2) 0).2.2 by rfl) hE) (lv_sub hl [2, 1, 0] rfl)
      refine lv_goto (tgt := 38) hx hb dM_work_180 (by decide) ?_
      exact ih (wpN κ n9 (false, x.2.1, x.2.2) P) (Nat.lt_of_lt_of_le (zeW_lt c1 (wpN_ok hg hn8 P (Nat.le_refl _))) (Nat.le_of_lt_succ hn)) (hkn0) ((wpN_ok hg hn8 P (Nat.le_refl _)).2.2 hlx) (wk_back c1 hres) _ _ ls hE (lv_sub hl [0, 1] rfl)
set_option maxHeartbeats 4000000 in
set_option maxRecDepth 100000 in
theorem lp_M_wk1 {p : Program} {l : Launch} {e : Env} {s : State} {m : MethodId} {below : List Frame} {meth : Method} {c : Code} {D : va_G} {cs : Nat → ClassId} {ad : Nat → Nat} {A : Nat → Prop} {Q : State → Prop} {σ κ : Mem} {s9 r9 : Nat → Nat} {P n9 : Nat} (C : bC p s m ([.ref (ad 0)] : List Value).toArray meth c bM_work 7 "EarleyChartModel" none) (hk : wk D cs s) (hA : ∀ q : Nat, s.heap.size ≤ q → A q) (hκ : κ = mset σ 0 12 (nI 1)) (hgσ : mG σ P) (hn7 : σ 0 7 = nI n9) (hn8 : n9 ≤ 8) (hs9 : leN s9) (hr9 : leN r9)   (K : ∀ (H : Heap) (locs : List Loc) (ls : Array Slot), wS (wM D cs ad) A s.heap (msr κ (fillN s9 1000000 486) r9) H locs → lv_has ls 7 [(0, .ref (ad 0))] → W p l e (rmF 2 50) s m ([.ref (ad 0)] : List Value).toArray below meth c H locs 0 0 Q (F0 m 36 ls [])) :
    ∀ (n : Nat) (i : Nat), (486 - i) < n → (i ≤ 486) → ∀ (H : Heap) (locs : List Loc) (ls : Array Slot), wS (wM D cs ad) A s.heap (msr κ (fillN s9 1000000 i) r9) H locs → lv_has ls 7 [(0, .ref (ad 0)), (1, .int (nI i))] → W p l e (rmF 2 50) s m ([.ref (ad 0)] : List Value).toArray below meth c H locs 0 0 Q (F0 m 15 ls []) := by
  obtain ⟨hx, hb, hml, hown, hts, hr, hlocks⟩ := id C
  have hg : mG κ P := by rw [hκ]; exact mG_of hgσ (mset_i (by decide)) (mset_n (by decide)) (mset_n (by decide)) (mset_n (by decide))
  have hk7 : κ 0 7 = nI n9 := by rw [hκ, mset_i (by decide)]; exact hn7
  have hP8 := hg.1
  intro n
  induction n with
  | zero => intro i h; exact absurd h (Nat.not_lt_zero _)
  | succ n ih =>
    intro i hn hi H locs ls hE hl
    refine lv_iload_n hx hb dM_work_15 rfl (lv_at hl 1 rfl) ?_
    refine lv_sipush (v := nI 486) hx hb dM_work_16 (by decide) ?_
    refine lv_icmp_ge (tgt := 36) hx hb dM_work_19 (by decide) (fun c1 => ?_) (fun c1 => ?_)
    · have c1 : 486 ≤ i := (nI_leI (by omega) (by omega)).mp c1
      exact K _ _ ls (wS_eq (show msr κ (fillN s9 1000000 i) r9 = msr κ (fillN s9 1000000 486) r9 by rw [show 486 = i by omega]) hE) (lv_sub hl [0] rfl)
    · have c1 : ¬ (486 ≤ i) := fun h => c1 ((nI_leI (by omega) (by omega)).mpr h)
      refine lv_aload_n hx hb dM_work_22 rfl (lv_at hl 0 rfl) ?_
      refine w_get C hk hE (K := R_M) (T := F_M) (N := 17) (ci := 6) in_M 0 (Nat.le_of_ble_eq_true rfl) rfl rfl 11 (by decide) tw_592 rfl rfl dM_work_23 ?_
      refine lv_iload_n hx hb dM_work_26 rfl (lv_at hl 1 rfl) ?_
      refine lv_ldc (v := nI 1000000) hx hb hown (hts _ tw_714) dM_work_27 ?_
      refine w_iast C hk hE 6 (by exact Nat.le_of_ble_eq_true rfl) (n := 486) (fun _ => rfl) (by omega) (by first | decide | omega) dM_work_29 (fun H locs hE => ?_)
      rw [msr_set6] at hE
      refine lv_iinc (v := nI (i + 1)) (lv' := [(1, .int (nI (i + 1))), (0, .ref (ad 0))]) hx hb dM_work_30 hl (k := 1) rfl (by exact nI_1 _) (by decide) rfl (fun ls hl => ?_)
      refine lv_goto (tgt := 15) hx hb dM_work_33 (by decide) ?_
      exact ih (i + 1) (by omega) (by omega) _ _ ls (wS_eq (show msr κ (updN (fillN s9 1000000 i) i 1000000) r9 = msr κ (fillN s9 1000000 (i + 1)) r9 by rw [fillN_s]) hE) (lv_sub hl [1, 0] rfl)
set_option maxHeartbeats 4000000 in
set_option maxRecDepth 100000 in
theorem c_M_work (l : Launch) (D : va_G) (cs : Nat → ClassId) (ad : Nat → Nat) (σ κ : Mem) (s9 r9 : Nat → Nat) (P n9 : Nat) (hκ : κ = mset σ 0 12 (nI 1)) (hgσ : mG σ P) (hn7 : σ 0 7 = nI n9) (hn8 : n9 ≤ 8) (hs9 : leN s9) (hr9 : leN r9) : MetV l (wM D cs ad) cs yM_work bM_work 7 2 50 [.ref (ad 0)] (msr σ s9 r9) (wrkP σ P n9 s9 r9) := by
  refine MetV.start (by decide) (Nat.le_of_ble_eq_true rfl) ?_
  intro p e s m below meth c A ls C hk hA hE hl
  obtain ⟨hx, hb, hml, hown, hts, hr, hlocks⟩ := id C
  have hl : lv_has ls 7 [(0, .ref (ad 0))] := hl
  have hg : mG κ P := by rw [hκ]; exact mG_of hgσ (mset_i (by decide)) (mset_n (by decide)) (mset_n (by decide)) (mset_n (by decide))
  have hk7 : κ 0 7 = nI n9 := by rw [hκ, mset_i (by decide)]; exact hn7
  have hP8 := hg.1
  refine lv_aload_n hx hb dM_work_0 rfl (lv_at hl 0 rfl) ?_
  refine w_get C hk hE (K := R_M) (T := F_M) (N := 17) (ci := 6) in_M 0 (Nat.le_of_ble_eq_true rfl) rfl rfl 12 (by decide) tw_593 rfl rfl dM_work_1 ?_
  refine w_top (y := σ 0 12) (by simp [mset, mrow, upd, mhc, msr, nR]) ?_
  refine lv_if_eq (tgt := 8) hx hb dM_work_4 (by decide) (fun c1 => ?_) (fun c1 => ?_)
  · refine lv_aload_n hx hb dM_work_8 rfl (lv_at hl 0 rfl) ?_
    refine lv_iconst (v := nI 1) hx hb dM_work_9 (by decide) ?_
    refine w_put C hk hE (K := R_M) (T := F_M) (N := 17) (ci := 6) in_M ft_M_ok fn_M 0 (Nat.le_of_ble_eq_true rfl) rfl rfl 12 (by decide) tw_593 rfl rfl (rfl) (rfl) (Nat.le_of_ble_eq_true rfl) rfl dM_work_10 (fun H locs hE => ?_)
    rw [mset_msr (by decide) (by decide)] at hE
    rw [← hκ] at hE
    refine lv_iconst (v := nI 0) hx hb dM_work_13 (by decide) ?_
    refine lv_istore_n (lv' := [(1, .int (nI 0)), (0, .ref (ad 0))]) hx hb dM_work_14 rfl hl (by decide) rfl (fun ls hl => ?_)
    refine lp_M_wk1 C hk hA hκ hgσ hn7 hn8 hs9 hr9   (fun H locs ls hE hl => ?_) _ 0 (Nat.lt_succ_self _) (by decide) _ _ ls (wS_eq (show msr κ s9 r9 = msr κ (fillN s9 1000000 0) r9 by rw [fillN_0]) hE) (lv_sub hl [1, 0] rfl)
    refine lv_iconst (v := nI 1) hx hb dM_work_36 (by decide) ?_
    refine lv_istore_n (lv' := [(1, .int (nI 1)), (0, .ref (ad 0))]) hx hb dM_work_37 rfl hl (by decide) rfl (fun ls hl => ?_)
    have ev2 : (nI 1 : Int32) = zb (true, fillN s9 1000000 486, r9).1 := by rfl
    rw [ev2] at hl
    exact lp_M_wk2 C hk hA hκ hgσ hn7 hn8 hs9 hr9 _ (true, fillN s9 1000000 486, r9) (Nat.lt_succ_self _) (c1) (⟨leN_fill hs9, hr9⟩) (⟨0, fun N => by rw [Nat.zero_add]⟩) _ _ ls (wS_eq (show msr κ (fillN s9 1000000 486) r9 = msr κ (true, fillN s9 1000000 486, r9).2.1 (true, fillN s9 1000000 486, r9).2.2 by rfl) hE) (lv_sub hl [1, 0] rfl)
  · exact w_retv C hE (Or.inl ⟨c1, rfl⟩) dM_work_7
set_option maxHeartbeats 4000000 in
set_option maxRecDepth 100000 in
theorem lp_M_choose {p : Program} {l : Launch} {e : Env} {s : State} {m : MethodId} {below : List Frame} {meth : Method} {c : Code} {D : va_G} {cs : Nat → ClassId} {ad : Nat → Nat} {A : Nat → Prop} {σ : Mem} {s9 r9 : Nat → Nat} {P v i j : Nat} (C : bC p s m ([.ref (ad 0), .int (nI v), .int (nI i), .int (nI j)] : List Value).toArray meth c bM_choose 6 "EarleyChartModel" (some .int)) (hk : wk D cs s) (hA : ∀ q : Nat, s.heap.size ≤ q → A q) (hg : mG σ P) (hv : v < 6) (hi : i ≤ j) (hj : j < 9) (hs9 : leN s9) (hr9 : leN r9)   :
    ∀ (n : Nat) (p9 : Nat) (x : Nat → Nat), (P - p9) < n → (p9 ≤ P) → (leN x) → (chN σ s9 v i j (P - p9) p9 x = chN σ s9 v i j P 0 r9) → ∀ (H : Heap) (locs : List Loc) (ls : Array Slot), wS (wM D cs ad) A s.heap (msr σ s9 x) H locs → lv_has ls 6 [(0, .ref (ad 0)), (1, .int (nI v)), (2, .int (nI i)), (3, .int (nI j)), (4, .int (nI (stN σ s9 v i j))), (5, .int (nI p9))] → W p l e (rmF 2 50) s m ([.ref (ad 0), .int (nI v), .int (nI i), .int (nI j)] : List Value).toArray below meth c H locs 0 0 (wQi (wM D cs ad) A (fun r τ => r = (chN σ s9 v i j P 0 r9).1 ∧ τ = msr σ s9 (chN σ s9 v i j P 0 r9).2) s below ([.ref (ad 0), .int (nI v), .int (nI i), .int (nI j)] : List Value).toArray) (F0 m 12 ls []) := by
  obtain ⟨hx, hb, hml, hown, hts, hr, hlocks⟩ := id C
  have hP8 := hg.1
  intro n
  induction n with
  | zero => intro p9 x h; exact absurd h (Nat.not_lt_zero _)
  | succ n ih =>
    intro p9 x hn hp9 hx9 hres H locs ls hE hl
    refine lv_iload hx hb dM_choose_12 (lv_at hl 5 rfl) ?_
    refine lv_aload_n hx hb dM_choose_14 rfl (lv_at hl 0 rfl) ?_
    refine w_get C hk hE (K := R_M) (T := F_M) (N := 17) (ci := 6) in_M 0 (Nat.le_of_ble_eq_true rfl) rfl rfl 3 (by decide) tw_584 rfl rfl dM_choose_15 ?_
    refine w_top (y := σ 0 3) (by simp [mset, mrow, upd, mhc, msr, nR]) ?_
    refine w_top (y := nI P) (hg.2.1) ?_
    refine lv_icmp_ge (tgt := 61) hx hb dM_choose_18 (by decide) (fun c1 => ?_) (fun c1 => ?_)
    · have c1 : P ≤ p9 := (nI_leI (by omega) (by omega)).mp c1
      refine lv_iconst (v := (-1)) hx hb dM_choose_61 (by decide) ?_
      exact w_reti C hE (⟨by rw [← hres, show P - p9 = 0 by omega, chN], by rw [← hres, show P - p9 = 0 by omega, chN]⟩) dM_choose_62
    · have c1 : ¬ (P ≤ p9) := fun h => c1 ((nI_leI (by omega) (by omega)).mpr h)
      have hl6 := (hg.2.2 p9 (by omega)).2.1
      refine lv_aload_n hx hb dM_choose_21 rfl (lv_at hl 0 rfl) ?_
      refine w_get C hk hE (K := R_M) (T := F_M) (N := 17) (ci := 6) in_M 0 (Nat.le_of_ble_eq_true rfl) rfl rfl 4 (by decide) tw_585 rfl rfl dM_choose_22 ?_
      refine lv_iload hx hb dM_choose_25 (lv_at hl 5 rfl) ?_
      refine w_iald C hk hE 1 (by exact Nat.le_of_ble_eq_true rfl) (n := 8) rfl (by omega) (by first | decide | omega) dM_choose_27 ?_
      refine w_top (y := σ 1 p9) (by simp [mset, mrow, upd, mhc, msr, nR]) ?_
      refine w_top (y := nI (ml σ p9)) ((hg.2.2 p9 (by omega)).1) ?_
      refine lv_iload_n hx hb dM_choose_28 rfl (lv_at hl 1 rfl) ?_
      refine lv_icmp_ne (tgt := 55) hx hb dM_choose_29 (by decide) (fun c2 => ?_) (fun c2 => ?_)
      · have c2 : ¬ ((ml σ p9) = v) := fun h => c2 ((nI_eq (by omega) (by omega)).mpr h)
        refine lv_iinc (v := nI (p9 + 1)) (lv' := [(5, .int (nI (p9 + 1))), (0, .ref (ad 0)), (1, .int (nI v)), (2, .int (nI i)), (3, .int (nI j)), (4, .int (nI (stN σ s9 v i j)))]) hx hb dM_choose_55 hl (k := 5) rfl (by exact nI_1 _) (by decide) rfl (fun ls hl => ?_)
        refine lv_goto (tgt := 12) hx hb dM_choose_58 (by decide) ?_
        exact ih (p9 + 1) x (by omega) (by omega) (hx9) (by rw [← hres, show P - p9 = (P - (p9 + 1)) + 1 by omega, chN]; simp only [c2, if_true, if_false]) _ _ ls hE (lv_sub hl [1, 2, 3, 4, 5, 0] rfl)
      · have c2 : (ml σ p9) = v := (nI_eq (by omega) (by omega)).mp c2
        refine lv_aload_n hx hb dM_choose_32 rfl (lv_at hl 0 rfl) ?_
        refine lv_iload hx hb dM_choose_33 (lv_at hl 5 rfl) ?_
        refine lv_iload_n hx hb dM_choose_35 rfl (lv_at hl 3 rfl) ?_
        refine w_cv hE hA (w_runV C hk hE hl.1 (As := [.int (nI p9), .int (nI j)]) (rest := []) (q := 0) (c_M_row l D cs ad σ s9 x P p9 j hg (by omega) hj hs9 hx9 _) (Nat.le_of_ble_eq_true rfl) (ci := 6) (N := 17) (T := F_M) rfl rfl tw_715 tw_717 ts_31 tw_9 tw_718 (n := 2) (by decide +kernel) rfl rfl (Nat.le_of_ble_eq_true rfl) dM_choose_36 ⟨Nat.le_of_ble_eq_true rfl, Nat.le_of_ble_eq_true rfl⟩ ⟨Nat.zero_le _, Nat.zero_le _⟩) (fun τ4 H locs hp hE _ _ => ?_)
        have hE := wS_eq hp hE
        refine lv_aload_n hx hb dM_choose_39 rfl (lv_at hl 0 rfl) ?_
        refine w_get C hk hE (K := R_M) (T := F_M) (N := 17) (ci := 6) in_M 0 (Nat.le_of_ble_eq_true rfl) rfl rfl 13 (by decide) tw_594 rfl rfl dM_choose_40 ?_
        refine lv_iload_n hx hb dM_choose_43 rfl (lv_at hl 2 rfl) ?_
        refine w_iald C hk hE 7 (by exact Nat.le_of_ble_eq_true rfl) (n := 45) rfl (by omega) (by first | decide | omega) dM_choose_44 ?_
        refine w_top (y := nI ((rowN σ s9 p9 j x) i)) (by first | exact msr_7 | exact congrFun msr_7 _) ?_
        refine lv_iload hx hb dM_choose_45 (lv_at hl 4 rfl) ?_
        refine lv_iconst (v := nI 1) hx hb dM_choose_47 (by decide) ?_
        refine lv_isub hx hb dM_choose_48 ?_
        refine lv_icmp_ne (tgt := 55) hx hb dM_choose_49 (by decide) (fun c5 => ?_) (fun c5 => ?_)
        · refine lv_iinc (v := nI (p9 + 1)) (lv' := [(5, .int (nI (p9 + 1))), (0, .ref (ad 0)), (1, .int (nI v)), (2, .int (nI i)), (3, .int (nI j)), (4, .int (nI (stN σ s9 v i j)))]) hx hb dM_choose_55 hl (k := 5) rfl (by exact nI_1 _) (by decide) rfl (fun ls hl => ?_)
          refine lv_goto (tgt := 12) hx hb dM_choose_58 (by decide) ?_
          exact ih (p9 + 1) (rowN σ s9 p9 j x) (by omega) (by omega) (leN_row hx9) (by rw [← hres, show P - p9 = (P - (p9 + 1)) + 1 by omega, chN]; simp only [c2, c5, if_true, if_false]) _ _ ls hE (lv_sub hl [1, 2, 3, 4, 5, 0] rfl)
        · refine lv_iload hx hb dM_choose_52 (lv_at hl 5 rfl) ?_
          exact w_reti C hE (⟨by rw [← hres, show P - p9 = (P - (p9 + 1)) + 1 by omega, chN, if_pos c2, if_pos c5], by rw [← hres, show P - p9 = (P - (p9 + 1)) + 1 by omega, chN, if_pos c2, if_pos c5]⟩) dM_choose_54
set_option maxHeartbeats 4000000 in
set_option maxRecDepth 100000 in
theorem c_M_choose (l : Launch) (D : va_G) (cs : Nat → ClassId) (ad : Nat → Nat) (σ : Mem) (s9 r9 : Nat → Nat) (P v i j : Nat) (hg : mG σ P) (hv : v < 6) (hi : i ≤ j) (hj : j < 9) (hs9 : leN s9) (hr9 : leN r9) : MetI l (wM D cs ad) cs yM_choose bM_choose 6 (some .int) 2 50 [.ref (ad 0), .int (nI v), .int (nI i), .int (nI j)] (msr σ s9 r9) (fun r τ => r = (chN σ s9 v i j P 0 r9).1 ∧ τ = msr σ s9 (chN σ s9 v i j P 0 r9).2) := by
  refine MetI.start (by decide) (Nat.le_of_ble_eq_true rfl) ?_
  intro p e s m below meth c A ls C hk hA hE hl
  obtain ⟨hx, hb, hml, hown, hts, hr, hlocks⟩ := id C
  have hl : lv_has ls 6 [(0, .ref (ad 0)), (1, .int (nI v)), (2, .int (nI i)), (3, .int (nI j))] := hl
  have hP8 := hg.1
  refine lv_aload_n hx hb dM_choose_0 rfl (lv_at hl 0 rfl) ?_
  refine lv_iload_n hx hb dM_choose_1 rfl (lv_at hl 1 rfl) ?_
  refine lv_iload_n hx hb dM_choose_2 rfl (lv_at hl 2 rfl) ?_
  refine lv_iload_n hx hb dM_choose_3 rfl (lv_at hl 3 rfl) ?_
  refine w_ci hE hA (w_runV C hk hE hl.1 (As := [.int (nI v), .int (nI i), .int (nI j)]) (rest := []) (q := 0) (c_M_stepsOf l D cs ad σ s9 r9 v i j (by omega) (by omega) (hj) _) (Nat.le_of_ble_eq_true rfl) (ci := 6) (N := 17) (T := F_M) rfl rfl tw_719 tw_721 ts_32 tw_9 tw_722 (n := 3) (by decide +kernel) rfl rfl (Nat.le_of_ble_eq_true rfl) dM_choose_4 ⟨Nat.le_of_ble_eq_true rfl, Nat.le_of_ble_eq_true rfl⟩ ⟨Nat.zero_le _, Nat.zero_le _⟩) (fun r1 τ2 H locs hp hE _ _ => ?_)
  refine w_top hp.1 ?_
  have hE := wS_eq hp.2 hE
  refine lv_istore (lv' := [(4, .int (nI (stN σ s9 v i j))), (0, .ref (ad 0)), (1, .int (nI v)), (2, .int (nI i)), (3, .int (nI j))]) hx hb dM_choose_7 hl (by decide) rfl (fun ls hl => ?_)
  refine lv_iconst (v := nI 0) hx hb dM_choose_9 (by decide) ?_
  refine lv_istore (lv' := [(5, .int (nI 0)), (4, .int (nI (stN σ s9 v i j))), (0, .ref (ad 0)), (1, .int (nI v)), (2, .int (nI i)), (3, .int (nI j))]) hx hb dM_choose_10 hl (by decide) rfl (fun ls hl => ?_)
  exact lp_M_choose C hk hA hg hv hi hj hs9 hr9 _ 0 r9 (Nat.lt_succ_self _) (Nat.zero_le _) (hr9) (rfl) _ _ ls hE (lv_sub hl [2, 3, 4, 5, 1, 0] rfl)
end
section
/-- the model's cells, but for its sets and its steps -/
def mI (σ : Mem) (P n V T : Nat) : Prop := mG σ P ∧ n ≤ 8 ∧ σ 0 7 = nI n ∧ bH (σ 5, σ 0 10) ∧ V ≤ 6 ∧ σ 0 0 = nI V ∧ T ≤ 6 ∧ σ 0 1 = nI T
theorem isVn_of {V : Nat} {x : Int32} (hV : V ≤ 6) (h : isVn V x = true) : x = nI x.toNatClampNeg ∧ x.toNatClampNeg < V := by
  have h1 : ¬ x < 0 := fun q => by simp [isVn, q] at h
  have h2 : ¬ nI V ≤ x := fun q => by simp [isVn, q] at h
  obtain ⟨j, hj, rfl⟩ := nI_of h1
  rw [nI_clamp hj]
  exact ⟨rfl, by
    rcases Nat.lt_or_ge j V with q | q
    · exact q
    · exact absurd ((nI_leI (by omega) hj).mpr q) h2⟩
theorem isTn_of {T : Nat} {x : Int32} (hT : T ≤ 6) (h : isTn T x = true) : x = nI x.toNatClampNeg ∧ 100 ≤ x.toNatClampNeg ∧ x.toNatClampNeg < 100 + T := by
  have h1 : ¬ x < nI 100 := fun q => by simp [isTn, q] at h
  have h2 : ¬ nI (100 + T) ≤ x := fun q => by simp [isTn, q] at h
  have h0 : ¬ x < 0 := fun q => h1 (Int32.lt_trans q (by decide))
  obtain ⟨j, hj, rfl⟩ := nI_of h0
  rw [nI_clamp hj]
  refine ⟨rfl, ?_, ?_⟩
  · rcases Nat.lt_or_ge j 100 with q | q
    · exact absurd ((nI_ltI hj (by decide)).mpr q) h1
    · exact q
  · rcases Nat.lt_or_ge j (100 + T) with q | q
    · exact q
    · exact absurd ((nI_leI (by omega) hj).mpr q) h2
def mAdd (σ : Mem) (P : Nat) (x : Int32) : Mem := mset (mset (mset (mset σ 0 2 (nI 0)) 1 P x) 2 P (nI 0)) 0 3 (nI (P + 1))
def mCh (σ : Mem) : Mem := mset (mset σ 0 14 (nI 0)) 0 12 (nI 0)
theorem mG_ch {σ : Mem} {P : Nat} (h : mG σ P) : mG (mCh σ) P := mG_of h (by unfold mCh; rw [mset_i (by decide), mset_i (by decide)]) (by unfold mCh; rw [mset_n (by decide), mset_n (by decide)]) (by unfold mCh; rw [mset_n (by decide), mset_n (by decide)]) (by unfold mCh; rw [mset_n (by decide), mset_n (by decide)])
theorem bH_ch {σ : Mem} (h : bH (σ 5, σ 0 10)) : bH (mCh σ 5, mCh σ 0 10) := by
  unfold mCh
  rw [mset_n (by decide), mset_n (by decide), mset_i (by decide), mset_i (by decide)]
  exact h
theorem mAdd_lo {σ : Mem} {P q p : Nat} {x : Int32} (hq : q = 1 ∨ q = 2) (hp : p ≠ P) : mAdd σ P x q p = σ q p := by
  unfold mAdd
  rcases hq with rfl | rfl
  · rw [mset_n (by decide), mset_n (by decide), mset_i hp, mset_n (by decide)]
  · rw [mset_n (by decide), mset_i hp, mset_n (by decide), mset_n (by decide)]
theorem mG_add {σ : Mem} {P y : Nat} (h : mG σ P) (hP : P < 8) (hy : y < 6) : mG (mAdd σ P (nI y)) (P + 1) := by
  refine ⟨by omega, mset_s, fun p hp => ?_⟩
  have h3 : mAdd σ P (nI y) 3 = σ 3 := by unfold mAdd; rw [mset_n (by decide), mset_n (by decide), mset_n (by decide), mset_n (by decide)]
  by_cases e : p = P
  · subst e
    have e1 : mAdd σ p (nI y) 1 p = nI y := by unfold mAdd; rw [mset_n (by decide), mset_n (by decide), mset_s]
    have e2 : mAdd σ p (nI y) 2 p = nI 0 := by unfold mAdd; rw [mset_n (by decide), mset_s]
    have m1 : ml (mAdd σ p (nI y)) p = y := by unfold ml; rw [e1, nI_clamp (by omega)]
    have m2 : mn (mAdd σ p (nI y)) p = 0 := by unfold mn; rw [e2, nI_clamp (by decide)]
    rw [m1, m2, e1, e2]
    exact ⟨rfl, hy, rfl, Nat.zero_le _, fun d hd => absurd hd (Nat.not_lt_zero _)⟩
  · have e1 := mAdd_lo (σ := σ) (x := nI y) (Or.inl rfl : 1 = 1 ∨ 1 = 2) e
    have e2 := mAdd_lo (σ := σ) (x := nI y) (Or.inr rfl : 2 = 1 ∨ 2 = 2) e
    have m1 : ml (mAdd σ P (nI y)) p = ml σ p := by unfold ml; rw [e1]
    have m2 : mn (mAdd σ P (nI y)) p = mn σ p := by unfold mn; rw [e2]
    have m3 : mr (mAdd σ P (nI y)) = mr σ := by funext i; unfold mr; rw [h3]
    rw [m1, m2, m3, e1, e2, h3]
    exact h.2.2 p (by omega)
theorem bH_add {σ : Mem} {P : Nat} {x : Int32} (h : bH (σ 5, σ 0 10)) : bH (mAdd σ P x 5, mAdd σ P x 0 10) := by
  unfold mAdd
  rw [mset_n (by decide), mset_n (by decide), mset_n (by decide), mset_n (by decide), mset_i (by decide), mset_n (by decide), mset_n (by decide), mset_i (by decide)]
  exact h
/-- one more symbol for the last production -/
def mRhs (σ : Mem) (q L : Nat) (x : Int32) : Mem := mset (mset (mset σ 0 2 (nI 0)) 3 (4 * q + L) x) 2 q (nI (L + 1))
theorem mG_rhs {σ : Mem} {P q y : Nat} (h : mG σ P) (hq : q < P) (hL : mn σ q < 4) (hy : y < 6 ∨ (100 ≤ y ∧ y < 106)) : mG (mRhs σ q (mn σ q) (nI y)) P := by
  have h1 : mRhs σ q (mn σ q) (nI y) 1 = σ 1 := by unfold mRhs; rw [mset_n (by decide), mset_n (by decide), mset_n (by decide)]
  have m1 : ml (mRhs σ q (mn σ q) (nI y)) = ml σ := by funext i; unfold ml; rw [h1]
  refine ⟨h.1, by unfold mRhs; rw [mset_n (by decide), mset_n (by decide), mset_i (by decide)]; exact h.2.1, fun p hp => ?_⟩
  obtain ⟨g1, g2, g3, g4, g5⟩ := h.2.2 p hp
  have r3 : ∀ i, i ≠ 4 * q + mn σ q → mRhs σ q (mn σ q) (nI y) 3 i = σ 3 i := fun i hi => by unfold mRhs; rw [mset_n (by decide), mset_i hi, mset_n (by decide)]
  have r3' : mRhs σ q (mn σ q) (nI y) 3 (4 * q + mn σ q) = nI y := by unfold mRhs; rw [mset_n (by decide), mset_s]
  by_cases e : p = q
  · subst e
    have e2 : mRhs σ p (mn σ p) (nI y) 2 p = nI (mn σ p + 1) := mset_s
    have m2 : mn (mRhs σ p (mn σ p) (nI y)) p = mn σ p + 1 := by rw [mn, e2, nI_clamp (by omega)]
    rw [m1, m2, h1, e2]
    refine ⟨g1, g2, rfl, by omega, fun d hd => ?_⟩
    by_cases ed : d = mn σ p
    · subst ed
      have m3 : mr (mRhs σ p (mn σ p) (nI y)) (4 * p + mn σ p) = y := by unfold mr; rw [r3', nI_clamp (by omega)]
      rw [m3, r3']; exact ⟨rfl, hy⟩
    · have m3 : mr (mRhs σ p (mn σ p) (nI y)) (4 * p + d) = mr σ (4 * p + d) := by unfold mr; rw [r3 _ (by omega)]
      rw [m3, r3 _ (by omega)]; exact g5 d (by omega)
  · have e2 : mRhs σ q (mn σ q) (nI y) 2 p = σ 2 p := by unfold mRhs; rw [mset_i e, mset_n (by decide), mset_n (by decide)]
    have m2 : mn (mRhs σ q (mn σ q) (nI y)) p = mn σ p := by rw [mn, e2]; rfl
    rw [m1, m2, h1, e2]
    refine ⟨g1, g2, g3, g4, fun d hd => ?_⟩
    have m3 : mr (mRhs σ q (mn σ q) (nI y)) (4 * p + d) = mr σ (4 * p + d) := by unfold mr; rw [r3 _ (by omega)]
    rw [m3, r3 _ (by omega)]; exact g5 d hd
theorem bH_rhs {σ : Mem} {q L : Nat} {x : Int32} (h : bH (σ 5, σ 0 10)) : bH (mRhs σ q L x 5, mRhs σ q L x 0 10) := by
  unfold mRhs
  rw [mset_n (by decide), mset_n (by decide), mset_n (by decide), mset_n (by decide), mset_n (by decide), mset_i (by decide)]
  exact h
/-- a token is fed -/
def mFed (σ : Mem) (n : Nat) (x : Int32) : Mem := mset (mset (mset σ 0 2 (nI 0)) 0 7 (nI (n + 1))) 4 (n + 1) x
theorem mG_fed {σ : Mem} {P n : Nat} {x : Int32} (h : mG σ P) : mG (mFed σ n x) P := mG_of h (by unfold mFed; rw [mset_n (by decide), mset_i (by decide), mset_i (by decide)]) (by unfold mFed; rw [mset_n (by decide), mset_n (by decide), mset_n (by decide)]) (by unfold mFed; rw [mset_n (by decide), mset_n (by decide), mset_n (by decide)]) (by unfold mFed; rw [mset_n (by decide), mset_n (by decide), mset_n (by decide)])
theorem bH_fed {σ : Mem} {n : Nat} {x : Int32} (h : bH (σ 5, σ 0 10)) : bH (mFed σ n x 5, mFed σ n x 0 10) := by
  unfold mFed
  rw [mset_n (by decide), mset_n (by decide), mset_n (by decide), mset_n (by decide), mset_i (by decide), mset_i (by decide)]
  exact h
def accF (σ : Mem) (n : Nat) : Nat → Bool
  | 0 => false
  | p + 1 => accF σ n p || (decide (ml σ p = ml σ 0) && !decide (σ 5 (ix n p (mn σ p) 0) = 0))
def filQ (σ : Mem) (P k : Nat) (τ : Mem) : Prop := filP (mCh σ) P k τ
/-- the place of the item with i others before it -/
def itP (f : Nat → Int32) (b : Nat) (i : Nat) (a : Nat) : Prop := a < 360 ∧ ¬ f (b + a) = 0 ∧ cntH f b a = i
theorem mI_thr {σ : Mem} {P n V T : Nat} {x : Int32} (h : mI σ P n V T) : mI (mset σ 0 2 x) P n V T := by
  obtain ⟨hg, hn8, hn7, hvb, hV6, hV, hT6, hT⟩ := h
  exact ⟨mG_of hg (mset_i (by decide)) (mset_n (by decide)) (mset_n (by decide)) (mset_n (by decide)), hn8, by rw [mset_i (by decide)]; exact hn7, by rw [mset_n (by decide), mset_i (by decide)]; exact hvb, hV6, by rw [mset_i (by decide)]; exact hV, hT6, by rw [mset_i (by decide)]; exact hT⟩
theorem accF_thr {σ : Mem} {n : Nat} {x : Int32} : ∀ p, accF (mset σ 0 2 x) n p = accF σ n p
  | 0 => rfl
  | p + 1 => by
    rw [accF, accF, accF_thr p]
    unfold ml mn
    rw [mset_n (by decide), mset_n (by decide), mset_n (by decide)]
theorem filP_0 {σ τ : Mem} {P k f : Nat} (h : filP σ P k τ) (hf : f ≠ 10) : τ 0 f = σ 0 f := by
  obtain ⟨N, rfl, -⟩ := h
  exact mhc_0 hf
theorem filQ_03 {σ τ : Mem} {P k : Nat} {x : Int32} (h : filQ σ P k τ) (hx : σ 0 3 = x) : τ 0 3 = x := by
  rw [filP_0 h (by decide)]; unfold mCh; rw [mset_i (by decide), mset_i (by decide)]; exact hx
theorem filP_07 {σ τ : Mem} {P k : Nat} {x : Int32} (h : filP σ P k τ) (hx : σ 0 7 = x) : τ 0 7 = x := by rw [filP_0 h (by decide)]; exact hx
theorem mChFed_07 {σ : Mem} {n : Nat} {x : Int32} : mCh (mFed σ n x) 0 7 = nI (n + 1) := by
  unfold mCh mFed; rw [mset_i (by decide), mset_i (by decide), mset_n (by decide), mset_s]
theorem isKn_of {n : Nat} {x : Int32} (hn : n ≤ 8) (h1 : ¬ x < 0) (h2 : x ≤ nI n) : x = nI x.toNatClampNeg ∧ x.toNatClampNeg ≤ n := by
  obtain ⟨j, hj, rfl⟩ := nI_of h1
  rw [nI_clamp hj]
  exact ⟨rfl, (nI_leI hj (by omega)).mp h2⟩
theorem isVn_of2 {V : Nat} {x : Int32} (hV : V ≤ 8000) (h1 : ¬ x < 0) (h2 : x < nI V) : x = nI x.toNatClampNeg ∧ x.toNatClampNeg < V := by
  obtain ⟨j, hj, rfl⟩ := nI_of h1
  rw [nI_clamp hj]
  exact ⟨rfl, (nI_ltI hj (by omega)).mp h2⟩
end
section
set_option maxHeartbeats 4000000 in
set_option maxRecDepth 100000 in
theorem c_M_grammarChanged (l : Launch) (D : va_G) (cs : Nat → ClassId) (ad : Nat → Nat) (σ : Mem) (P : Nat) (hg : mG σ P) (hvb : bH (σ 5, σ 0 10)) : MetV l (wM D cs ad) cs yM_grammarChanged bM_grammarChanged 1 3 77 [.ref (ad 0)] σ (filQ σ P 0) := by
  refine MetV.start (by decide) (Nat.le_of_ble_eq_true rfl) ?_
  intro p e s m below meth c A ls C hk hA hE hl
  obtain ⟨hx, hb, hml, hown, hts, hr, hlocks⟩ := id C
  have hl : lv_has ls 1 [(0, .ref (ad 0))] := hl
  refine lv_aload_n hx hb dM_grammarChanged_0 rfl (lv_at hl 0 rfl) ?_
  refine lv_iconst (v := nI 0) hx hb dM_grammarChanged_1 (by decide) ?_
  refine w_put C hk hE (K := R_M) (T := F_M) (N := 17) (ci := 6) in_M ft_M_ok fn_M 0 (Nat.le_of_ble_eq_true rfl) rfl rfl 14 (by decide) tw_595 rfl rfl (rfl) (rfl) (Nat.le_of_ble_eq_true rfl) rfl dM_grammarChanged_2 (fun H locs hE => ?_)
  refine lv_aload_n hx hb dM_grammarChanged_5 rfl (lv_at hl 0 rfl) ?_
  refine lv_iconst (v := nI 0) hx hb dM_grammarChanged_6 (by decide) ?_
  refine w_put C hk hE (K := R_M) (T := F_M) (N := 17) (ci := 6) in_M ft_M_ok fn_M 0 (Nat.le_of_ble_eq_true rfl) rfl rfl 12 (by decide) tw_593 rfl rfl (rfl) (rfl) (Nat.le_of_ble_eq_true rfl) rfl dM_grammarChanged_7 (fun H locs hE => ?_)
  refine lv_aload_n hx hb dM_grammarChanged_10 rfl (lv_at hl 0 rfl) ?_
  refine lv_iconst (v := nI 0) hx hb dM_grammarChanged_11 (by decide) ?_
  refine w_cv hE hA (w_runV C hk hE hl.1 (As := [.int (nI 0)]) (rest := []) (q := 0) (c_M_fill l D cs ad (mCh σ) P 0 (mG_ch hg) (by decide) (bH_ch hvb) _) (Nat.le_of_ble_eq_true rfl) (ci := 6) (N := 17) (T := F_M) rfl rfl tw_654 tw_656 ts_21 tw_9 tw_657 (n := 1) (by decide +kernel) rfl rfl (Nat.le_of_ble_eq_true rfl) dM_grammarChanged_12 ⟨Nat.le_of_ble_eq_true rfl, Nat.le_of_ble_eq_true rfl⟩ ⟨Nat.zero_le _, Nat.zero_le _⟩) (fun τ2 H locs hp hE _ _ => ?_)
  exact w_retv C hE (hp) dM_grammarChanged_15
set_option maxHeartbeats 4000000 in
set_option maxRecDepth 100000 in
theorem lp_M_isAccepted {p : Program} {l : Launch} {e : Env} {s : State} {m : MethodId} {below : List Frame} {meth : Method} {c : Code} {D : va_G} {cs : Nat → ClassId} {ad : Nat → Nat} {A : Nat → Prop} {σ : Mem} {P n9 V9 T9 : Nat} (C : bC p s m ([.ref (ad 0)] : List Value).toArray meth c bM_isAccepted 3 "EarleyChartModel" (some .boolean)) (hk : wk D cs s) (hA : ∀ q : Nat, s.heap.size ≤ q → A q) (hI : mI σ P n9 V9 T9)   :
    ∀ (n : Nat) (p9 : Nat), (P - p9) < n → (p9 ≤ P) → ∀ (H : Heap) (locs : List Loc) (ls : Array Slot), wS (wM D cs ad) A s.heap σ H locs → lv_has ls 3 [(0, .ref (ad 0)), (1, .int (zb (accF σ n9 p9))), (2, .int (nI p9))] → W p l e (rmF 1 24) s m ([.ref (ad 0)] : List Value).toArray below meth c H locs 0 0 (wQi (wM D cs ad) A (fun r τ => r = zb (accF σ n9 P) ∧ τ = σ) s below ([.ref (ad 0)] : List Value).toArray) (F0 m 4 ls []) := by
  obtain ⟨hx, hb, hml, hown, hts, hr, hlocks⟩ := id C
  obtain ⟨hg, hn8, hn7, hvb, hV6, hV, hT6, hT⟩ := id hI
  have hP8 := hg.1
  intro n
  induction n with
  | zero => intro p9 h; exact absurd h (Nat.not_lt_zero _)
  | succ n ih =>
    intro p9 hn hp9 H locs ls hE hl
    refine lv_iload_n hx hb dM_isAccepted_4 rfl (lv_at hl 2 rfl) ?_
    refine lv_aload_n hx hb dM_isAccepted_5 rfl (lv_at hl 0 rfl) ?_
    refine w_get C hk hE (K := R_M) (T := F_M) (N := 17) (ci := 6) in_M 0 (Nat.le_of_ble_eq_true rfl) rfl rfl 3 (by decide) tw_584 rfl rfl dM_isAccepted_6 ?_
    refine w_top (y := nI P) (hg.2.1) ?_
    refine lv_icmp_ge (tgt := 62) hx hb dM_isAccepted_9 (by decide) (fun c1 => ?_) (fun c1 => ?_)
    · have c1 : P ≤ p9 := (nI_leI (by omega) (by omega)).mp c1
      refine lv_iload_n hx hb dM_isAccepted_62 rfl (lv_at hl 1 rfl) ?_
      exact w_retz C hE (zb_01 _) (⟨by rw [show P = p9 by omega], rfl⟩) dM_isAccepted_63
    · have c1 : ¬ (P ≤ p9) := fun h => c1 ((nI_leI (by omega) (by omega)).mpr h)
      have hml := (hg.2.2 p9 (by omega)).2.1
      have hml0 := (hg.2.2 0 (by omega)).2.1
      have hmn := mG_m hg (by omega : p9 < P)
      refine lv_iload_n hx hb dM_isAccepted_12 rfl (lv_at hl 1 rfl) ?_
      refine lv_if_ne (tgt := 50) hx hb dM_isAccepted_13 (by decide) (fun c2 => ?_) (fun c2 => ?_)
      · have c2 := zb_ne0 c2
        refine lv_iconst (v := nI 1) hx hb dM_isAccepted_50 (by decide) ?_
        refine lv_goto (tgt := 55) hx hb dM_isAccepted_51 (by decide) ?_
        refine lv_istore_n (lv' := [(1, .int (nI 1)), (0, .ref (ad 0)), (2, .int (nI p9))]) hx hb dM_isAccepted_55 rfl hl (by decide) rfl (fun ls hl => ?_)
        refine lv_iinc (v := nI (p9 + 1)) (lv' := [(2, .int (nI (p9 + 1))), (1, .int (nI 1)), (0, .ref (ad 0))]) hx hb dM_isAccepted_56 hl (k := 2) rfl (by exact nI_1 _) (by decide) rfl (fun ls hl => ?_)
        refine lv_goto (tgt := 4) hx hb dM_isAccepted_59 (by decide) ?_
        have ev3 : (nI 1 : Int32) = zb (accF σ n9 (p9 + 1)) := by rw [accF]; simp [zb, c2]
        rw [ev3] at hl
        exact ih (p9 + 1) (by omega) (by omega) _ _ ls hE (lv_sub hl [2, 1, 0] rfl)
      · have c2 := zb_eq0 c2
        refine lv_aload_n hx hb dM_isAccepted_16 rfl (lv_at hl 0 rfl) ?_
        refine w_get C hk hE (K := R_M) (T := F_M) (N := 17) (ci := 6) in_M 0 (Nat.le_of_ble_eq_true rfl) rfl rfl 4 (by decide) tw_585 rfl rfl dM_isAccepted_17 ?_
        refine lv_iload_n hx hb dM_isAccepted_20 rfl (lv_at hl 2 rfl) ?_
        refine w_iald C hk hE 1 (by exact Nat.le_of_ble_eq_true rfl) (n := 8) rfl (by omega) (by first | decide | omega) dM_isAccepted_21 ?_
        refine w_top (y := nI (ml σ p9)) ((hg.2.2 p9 (by omega)).1) ?_
        refine lv_aload_n hx hb dM_isAccepted_22 rfl (lv_at hl 0 rfl) ?_
        refine w_get C hk hE (K := R_M) (T := F_M) (N := 17) (ci := 6) in_M 0 (Nat.le_of_ble_eq_true rfl) rfl rfl 4 (by decide) tw_585 rfl rfl dM_isAccepted_23 ?_
        refine lv_iconst (v := nI 0) hx hb dM_isAccepted_26 (by decide) ?_
        refine w_iald C hk hE 1 (by exact Nat.le_of_ble_eq_true rfl) (n := 8) rfl (by omega) (by first | decide | omega) dM_isAccepted_27 ?_
        refine w_top (y := nI (ml σ 0)) ((hg.2.2 0 (by omega)).1) ?_
        refine lv_icmp_ne (tgt := 54) hx hb dM_isAccepted_28 (by decide) (fun c4 => ?_) (fun c4 => ?_)
        · have c4 : ¬ ((ml σ p9) = (ml σ 0)) := fun h => c4 ((nI_eq (by omega) (by omega)).mpr h)
          refine lv_iconst (v := nI 0) hx hb dM_isAccepted_54 (by decide) ?_
          refine lv_istore_n (lv' := [(1, .int (nI 0)), (0, .ref (ad 0)), (2, .int (nI p9))]) hx hb dM_isAccepted_55 rfl hl (by decide) rfl (fun ls hl => ?_)
          refine lv_iinc (v := nI (p9 + 1)) (lv' := [(2, .int (nI (p9 + 1))), (1, .int (nI 0)), (0, .ref (ad 0))]) hx hb dM_isAccepted_56 hl (k := 2) rfl (by exact nI_1 _) (by decide) rfl (fun ls hl => ?_)
          refine lv_goto (tgt := 4) hx hb dM_isAccepted_59 (by decide) ?_
          have ev5 : (nI 0 : Int32) = zb (accF σ n9 (p9 + 1)) := by rw [accF]; simp [zb, c2, c4]
          rw [ev5] at hl
          exact ih (p9 + 1) (by omega) (by omega) _ _ ls hE (lv_sub hl [2, 1, 0] rfl)
        · have c4 : (ml σ p9) = (ml σ 0) := (nI_eq (by omega) (by omega)).mp c4
          refine lv_aload_n hx hb dM_isAccepted_31 rfl (lv_at hl 0 rfl) ?_
          refine lv_aload_n hx hb dM_isAccepted_32 rfl (lv_at hl 0 rfl) ?_
          refine w_get C hk hE (K := R_M) (T := F_M) (N := 17) (ci := 6) in_M 0 (Nat.le_of_ble_eq_true rfl) rfl rfl 7 (by decide) tw_588 rfl rfl dM_isAccepted_33 ?_
          refine w_top (y := nI n9) (hn7) ?_
          refine lv_iload_n hx hb dM_isAccepted_36 rfl (lv_at hl 2 rfl) ?_
          refine lv_aload_n hx hb dM_isAccepted_37 rfl (lv_at hl 0 rfl) ?_
          refine w_get C hk hE (K := R_M) (T := F_M) (N := 17) (ci := 6) in_M 0 (Nat.le_of_ble_eq_true rfl) rfl rfl 5 (by decide) tw_586 rfl rfl dM_isAccepted_38 ?_
          refine lv_iload_n hx hb dM_isAccepted_41 rfl (lv_at hl 2 rfl) ?_
          refine w_iald C hk hE 2 (by exact Nat.le_of_ble_eq_true rfl) (n := 8) rfl (by omega) (by first | decide | omega) dM_isAccepted_42 ?_
          refine w_top (y := nI (mn σ p9)) ((hg.2.2 p9 (by omega)).2.2.1) ?_
          refine lv_iconst (v := nI 0) hx hb dM_isAccepted_43 (by decide) ?_
          refine w_ci hE hA (w_runV C hk hE hl.1 (As := [.int (nI n9), .int (nI p9), .int (nI (mn σ p9)), .int (nI 0)]) (rest := []) (q := 0) (c_M_isIn l D cs ad σ n9 p9 (mn σ p9) 0 (by omega) (by omega) (by have := mG_m hg (by omega : p9 < P); omega) (by decide) (hvb.1 _) _) (Nat.le_of_ble_eq_true rfl) (ci := 6) (N := 17) (T := F_M) rfl rfl tw_666 tw_668 ts_24 tw_9 tw_669 (n := 4) (by decide +kernel) rfl rfl (Nat.le_of_ble_eq_true rfl) dM_isAccepted_44 ⟨Nat.le_of_ble_eq_true rfl, Nat.le_of_ble_eq_true rfl⟩ ⟨Nat.zero_le _, Nat.zero_le _⟩) (fun r6 τ7 H locs hp hE _ _ => ?_)
          refine w_top hp.1 ?_
          have hE := wS_eq hp.2 hE
          refine lv_if_eq (tgt := 54) hx hb dM_isAccepted_47 (by decide) (fun c8 => ?_) (fun c8 => ?_)
          · refine lv_iconst (v := nI 0) hx hb dM_isAccepted_54 (by decide) ?_
            refine lv_istore_n (lv' := [(1, .int (nI 0)), (0, .ref (ad 0)), (2, .int (nI p9))]) hx hb dM_isAccepted_55 rfl hl (by decide) rfl (fun ls hl => ?_)
            refine lv_iinc (v := nI (p9 + 1)) (lv' := [(2, .int (nI (p9 + 1))), (1, .int (nI 0)), (0, .ref (ad 0))]) hx hb dM_isAccepted_56 hl (k := 2) rfl (by exact nI_1 _) (by decide) rfl (fun ls hl => ?_)
            refine lv_goto (tgt := 4) hx hb dM_isAccepted_59 (by decide) ?_
            have ev9 : (nI 0 : Int32) = zb (accF σ n9 (p9 + 1)) := by rw [accF]; simp [zb, c2, c4, c8]
            rw [ev9] at hl
            exact ih (p9 + 1) (by omega) (by omega) _ _ ls hE (lv_sub hl [2, 1, 0] rfl)
          · refine lv_iconst (v := nI 1) hx hb dM_isAccepted_50 (by decide) ?_
            refine lv_goto (tgt := 55) hx hb dM_isAccepted_51 (by decide) ?_
            refine lv_istore_n (lv' := [(1, .int (nI 1)), (0, .ref (ad 0)), (2, .int (nI p9))]) hx hb dM_isAccepted_55 rfl hl (by decide) rfl (fun ls hl => ?_)
            refine lv_iinc (v := nI (p9 + 1)) (lv' := [(2, .int (nI (p9 + 1))), (1, .int (nI 1)), (0, .ref (ad 0))]) hx hb dM_isAccepted_56 hl (k := 2) rfl (by exact nI_1 _) (by decide) rfl (fun ls hl => ?_)
            refine lv_goto (tgt := 4) hx hb dM_isAccepted_59 (by decide) ?_
            have ev10 : (nI 1 : Int32) = zb (accF σ n9 (p9 + 1)) := by rw [accF]; simp [zb, c2, c4, c8]
            rw [ev10] at hl
            exact ih (p9 + 1) (by omega) (by omega) _ _ ls hE (lv_sub hl [2, 1, 0] rfl)
set_option maxHeartbeats 4000000 in
set_option maxRecDepth 100000 in
theorem c_M_isAccepted (l : Launch) (D : va_G) (cs : Nat → ClassId) (ad : Nat → Nat) (σ : Mem) (P n9 V9 T9 : Nat) (hI : mI σ P n9 V9 T9) : MetI l (wM D cs ad) cs yM_isAccepted bM_isAccepted 3 (some .boolean) 1 24 [.ref (ad 0)] σ (fun r τ => r = zb (accF σ n9 P) ∧ τ = σ) := by
  refine MetI.start (by decide) (Nat.le_of_ble_eq_true rfl) ?_
  intro p e s m below meth c A ls C hk hA hE hl
  obtain ⟨hx, hb, hml, hown, hts, hr, hlocks⟩ := id C
  have hl : lv_has ls 3 [(0, .ref (ad 0))] := hl
  obtain ⟨hg, hn8, hn7, hvb, hV6, hV, hT6, hT⟩ := id hI
  have hP8 := hg.1
  refine lv_iconst (v := nI 0) hx hb dM_isAccepted_0 (by decide) ?_
  refine lv_istore_n (lv' := [(1, .int (nI 0)), (0, .ref (ad 0))]) hx hb dM_isAccepted_1 rfl hl (by decide) rfl (fun ls hl => ?_)
  refine lv_iconst (v := nI 0) hx hb dM_isAccepted_2 (by decide) ?_
  refine lv_istore_n (lv' := [(2, .int (nI 0)), (1, .int (nI 0)), (0, .ref (ad 0))]) hx hb dM_isAccepted_3 rfl hl (by decide) rfl (fun ls hl => ?_)
  have ev1 : (nI 0 : Int32) = zb (accF σ n9 0) := by rfl
  rw [ev1] at hl
  exact lp_M_isAccepted C hk hA hI _ 0 (Nat.lt_succ_self _) (Nat.zero_le _) _ _ ls hE (lv_sub hl [2, 1, 0] rfl)
set_option maxHeartbeats 4000000 in
set_option maxRecDepth 100000 in
theorem c_M_accepts (l : Launch) (D : va_G) (cs : Nat → ClassId) (ad : Nat → Nat) (σ : Mem) (P n9 V9 T9 : Nat) (hI : mI σ P n9 V9 T9) : MetI l (wM D cs ad) cs yM_accepts bM_accepts 1 (some .boolean) 2 46 [.ref (ad 0)] σ (fun r τ => r = zb (accF σ n9 P) ∧ τ = mset σ 0 2 (nI 0)) := by
  refine MetI.start (by decide) (Nat.le_of_ble_eq_true rfl) ?_
  intro p e s m below meth c A ls C hk hA hE hl
  obtain ⟨hx, hb, hml, hown, hts, hr, hlocks⟩ := id C
  have hl : lv_has ls 1 [(0, .ref (ad 0))] := hl
  refine lv_aload_n hx hb dM_accepts_0 rfl (lv_at hl 0 rfl) ?_
  refine lv_iconst (v := nI 0) hx hb dM_accepts_1 (by decide) ?_
  refine w_put C hk hE (K := R_M) (T := F_M) (N := 17) (ci := 6) in_M ft_M_ok fn_M 0 (Nat.le_of_ble_eq_true rfl) rfl rfl 2 (by decide) tw_583 rfl rfl (rfl) (rfl) (Nat.le_of_ble_eq_true rfl) rfl dM_accepts_2 (fun H locs hE => ?_)
  refine lv_aload_n hx hb dM_accepts_5 rfl (lv_at hl 0 rfl) ?_
  refine w_ci hE hA (w_runV C hk hE hl.1 (As := []) (rest := []) (q := 0) (c_M_isAccepted l D cs ad (mset σ 0 2 (nI 0)) P n9 V9 T9 (mI_thr hI) _) (Nat.le_of_ble_eq_true rfl) (ci := 6) (N := 17) (T := F_M) rfl rfl tw_702 tw_704 ts_29 tw_9 tw_705 (n := 0) (by decide +kernel) rfl rfl (Nat.le_of_ble_eq_true rfl) dM_accepts_6 ⟨Nat.le_of_ble_eq_true rfl, Nat.le_of_ble_eq_true rfl⟩ ⟨Nat.zero_le _, Nat.zero_le _⟩) (fun r1 τ2 H locs hp hE _ _ => ?_)
  refine w_top (y := zb (accF σ n9 P)) (hp.1.trans (by rw [accF_thr])) ?_
  have hE := wS_eq hp.2 hE
  exact w_retz C hE (zb_01 _) (⟨rfl, rfl⟩) dM_accepts_9
set_option maxHeartbeats 4000000 in
set_option maxRecDepth 100000 in
theorem c_M_addProd (l : Launch) (D : va_G) (cs : Nat → ClassId) (ad : Nat → Nat) (σ : Mem) (P n9 V9 T9 : Nat) (x : Int32) (hI : mI σ P n9 V9 T9) : MetI l (wM D cs ad) cs yM_addProd bM_addProd 2 (some .int) 4 97 [.ref (ad 0), .int x] σ (fun r τ => (0 < n9 ∨ 8 ≤ P) ∧ r = nI 0 ∧ τ = mset σ 0 2 (nI 1) ∨ ¬ (0 < n9 ∨ 8 ≤ P) ∧ isVn V9 x = false ∧ r = nI 0 ∧ τ = mset σ 0 2 (nI 2) ∨ ¬ (0 < n9 ∨ 8 ≤ P) ∧ isVn V9 x = true ∧ r = nI P ∧ filQ (mAdd σ P x) (P + 1) 0 τ) := by
  refine MetI.start (by decide) (Nat.le_of_ble_eq_true rfl) ?_
  intro p e s m below meth c A ls C hk hA hE hl
  obtain ⟨hx, hb, hml, hown, hts, hr, hlocks⟩ := id C
  have hl : lv_has ls 2 [(0, .ref (ad 0)), (1, .int x)] := hl
  obtain ⟨hg, hn8, hn7, hvb, hV6, hV, hT6, hT⟩ := id hI
  have hP8 := hg.1
  refine lv_aload_n hx hb dM_addProd_0 rfl (lv_at hl 0 rfl) ?_
  refine lv_aload_n hx hb dM_addProd_1 rfl (lv_at hl 0 rfl) ?_
  refine w_get C hk hE (K := R_M) (T := F_M) (N := 17) (ci := 6) in_M 0 (Nat.le_of_ble_eq_true rfl) rfl rfl 7 (by decide) tw_588 rfl rfl dM_addProd_2 ?_
  refine w_top (y := nI n9) (hn7) ?_
  refine lv_if_gt (tgt := 17) hx hb dM_addProd_5 (by decide) (fun c1 => ?_) (fun c1 => ?_)
  · have c1 := w_gt0 (by omega) c1
    refine lv_iconst (v := nI 1) hx hb dM_addProd_17 (by decide) ?_
    refine lv_goto (tgt := 34) hx hb dM_addProd_18 (by decide) ?_
    refine w_ci hE hA (w_runV C hk hE hl.1 (As := [.int (nI 1)]) (rest := []) (q := 0) (c_M_throwsBy l D cs ad (σ) 1 (by decide) _) (Nat.le_of_ble_eq_true rfl) (ci := 6) (N := 17) (T := F_M) rfl rfl tw_646 tw_648 ts_19 tw_9 tw_649 (n := 1) (by decide +kernel) rfl rfl (Nat.le_of_ble_eq_true rfl) dM_addProd_34 ⟨Nat.le_of_ble_eq_true rfl, Nat.le_of_ble_eq_true rfl⟩ ⟨Nat.zero_le _, Nat.zero_le _⟩) (fun r2 τ3 H locs hp hE _ _ => ?_)
    refine w_top (y := nI 1) (hp.1.trans rfl) ?_
    have hE := wS_eq hp.2 hE
    refine lv_if_eq (tgt := 42) hx hb dM_addProd_37 (by decide) (fun c4 => ?_) (fun c4 => ?_)
    · have c4 := w_z0 (by omega) c4
      first | exact absurd c4 (by decide) | exact c4.elim | exact absurd rfl c4
    · have c4 := w_n0 (by omega) c4
      refine lv_iconst (v := nI 0) hx hb dM_addProd_40 (by decide) ?_
      exact w_reti C hE (by first | exact Or.inl ⟨by omega, rfl, rfl⟩ | exact Or.inr (Or.inl ⟨by omega, by assumption, rfl, rfl⟩) | exact Or.inr (Or.inr ⟨by omega, by assumption, rfl, hfil⟩)) dM_addProd_41
  · have c1 := w_ngt0 (by omega) c1
    refine lv_aload_n hx hb dM_addProd_8 rfl (lv_at hl 0 rfl) ?_
    refine w_get C hk hE (K := R_M) (T := F_M) (N := 17) (ci := 6) in_M 0 (Nat.le_of_ble_eq_true rfl) rfl rfl 3 (by decide) tw_584 rfl rfl dM_addProd_9 ?_
    refine w_top (y := nI P) (hg.2.1) ?_
    refine lv_bipush (v := nI 8) hx hb dM_addProd_12 (by decide) ?_
    refine lv_icmp_lt (tgt := 21) hx hb dM_addProd_14 (by decide) (fun c5 => ?_) (fun c5 => ?_)
    · have c5 : P < 8 := (nI_ltI (by omega) (by omega)).mp c5
      refine lv_aload_n hx hb dM_addProd_21 rfl (lv_at hl 0 rfl) ?_
      refine lv_iload_n hx hb dM_addProd_22 rfl (lv_at hl 1 rfl) ?_
      refine w_ci hE hA (w_runV C hk hE hl.1 (As := [.int x]) (rest := [.ref (ad 0)]) (q := 0) (c_M_isVariable l D cs ad σ V9 x hV hV6 _) (Nat.le_of_ble_eq_true rfl) (ci := 6) (N := 17) (T := F_M) rfl rfl tw_642 tw_644 ts_18 tw_9 tw_645 (n := 1) (by decide +kernel) rfl rfl (Nat.le_of_ble_eq_true rfl) dM_addProd_23 ⟨Nat.le_of_ble_eq_true rfl, Nat.le_of_ble_eq_true rfl⟩ ⟨Nat.zero_le _, Nat.zero_le _⟩) (fun r6 τ7 H locs hp hE _ _ => ?_)
      refine w_top hp.1 ?_
      have hE := wS_eq hp.2 hE
      refine lv_if_ne (tgt := 33) hx hb dM_addProd_26 (by decide) (fun c8 => ?_) (fun c8 => ?_)
      · have c8 := zb_ne0 c8
        obtain ⟨hv1, hv2⟩ := isVn_of hV6 c8
        refine lv_iconst (v := nI 0) hx hb dM_addProd_33 (by decide) ?_
        refine w_ci hE hA (w_runV C hk hE hl.1 (As := [.int (nI 0)]) (rest := []) (q := 0) (c_M_throwsBy l D cs ad (σ) 0 (by decide) _) (Nat.le_of_ble_eq_true rfl) (ci := 6) (N := 17) (T := F_M) rfl rfl tw_646 tw_648 ts_19 tw_9 tw_649 (n := 1) (by decide +kernel) rfl rfl (Nat.le_of_ble_eq_true rfl) dM_addProd_34 ⟨Nat.le_of_ble_eq_true rfl, Nat.le_of_ble_eq_true rfl⟩ ⟨Nat.zero_le _, Nat.zero_le _⟩) (fun r9 τ10 H locs hp hE _ _ => ?_)
        refine w_top (y := nI 0) (hp.1.trans rfl) ?_
        have hE := wS_eq hp.2 hE
        refine lv_if_eq (tgt := 42) hx hb dM_addProd_37 (by decide) (fun c11 => ?_) (fun c11 => ?_)
        · have c11 := w_z0 (by omega) c11
          refine lv_aload_n hx hb dM_addProd_42 rfl (lv_at hl 0 rfl) ?_
          refine w_get C hk hE (K := R_M) (T := F_M) (N := 17) (ci := 6) in_M 0 (Nat.le_of_ble_eq_true rfl) rfl rfl 4 (by decide) tw_585 rfl rfl dM_addProd_43 ?_
          refine lv_aload_n hx hb dM_addProd_46 rfl (lv_at hl 0 rfl) ?_
          refine w_get C hk hE (K := R_M) (T := F_M) (N := 17) (ci := 6) in_M 0 (Nat.le_of_ble_eq_true rfl) rfl rfl 3 (by decide) tw_584 rfl rfl dM_addProd_47 ?_
          refine w_top (y := σ 0 3) (by simp [mset, mrow, upd, mhc]) ?_
          refine w_top (y := nI P) (hg.2.1) ?_
          refine lv_iload_n hx hb dM_addProd_50 rfl (lv_at hl 1 rfl) ?_
          refine w_iast C hk hE 1 (by exact Nat.le_of_ble_eq_true rfl) (n := 8) (fun _ => rfl) (by omega) (by first | decide | omega) dM_addProd_51 (fun H locs hE => ?_)
          refine lv_aload_n hx hb dM_addProd_52 rfl (lv_at hl 0 rfl) ?_
          refine w_get C hk hE (K := R_M) (T := F_M) (N := 17) (ci := 6) in_M 0 (Nat.le_of_ble_eq_true rfl) rfl rfl 5 (by decide) tw_586 rfl rfl dM_addProd_53 ?_
          refine lv_aload_n hx hb dM_addProd_56 rfl (lv_at hl 0 rfl) ?_
          refine w_get C hk hE (K := R_M) (T := F_M) (N := 17) (ci := 6) in_M 0 (Nat.le_of_ble_eq_true rfl) rfl rfl 3 (by decide) tw_584 rfl rfl dM_addProd_57 ?_
          refine w_top (y := σ 0 3) (by simp [mset, mrow, upd, mhc]) ?_
          refine w_top (y := nI P) (hg.2.1) ?_
          refine lv_iconst (v := nI 0) hx hb dM_addProd_60 (by decide) ?_
          refine w_iast C hk hE 2 (by exact Nat.le_of_ble_eq_true rfl) (n := 8) (fun _ => rfl) (by omega) (by first | decide | omega) dM_addProd_61 (fun H locs hE => ?_)
          refine lv_aload_n hx hb dM_addProd_62 rfl (lv_at hl 0 rfl) ?_
          refine lv_aload_n hx hb dM_addProd_63 rfl (lv_at hl 0 rfl) ?_
          refine w_get C hk hE (K := R_M) (T := F_M) (N := 17) (ci := 6) in_M 0 (Nat.le_of_ble_eq_true rfl) rfl rfl 3 (by decide) tw_584 rfl rfl dM_addProd_64 ?_
          refine w_top (y := σ 0 3) (by simp [mset, mrow, upd, mhc]) ?_
          refine w_top (y := nI P) (hg.2.1) ?_
          refine lv_iconst (v := nI 1) hx hb dM_addProd_67 (by decide) ?_
          refine lv_iadd hx hb dM_addProd_68 ?_
          refine w_top (y := nI (P + 1)) (by first | exact nI_add _ _ | simp only [nI_add, Nat.add_assoc, Nat.add_zero, Nat.zero_add]) ?_
          refine w_put C hk hE (K := R_M) (T := F_M) (N := 17) (ci := 6) in_M ft_M_ok fn_M 0 (Nat.le_of_ble_eq_true rfl) rfl rfl 3 (by decide) tw_584 rfl rfl (rfl) (rfl) (Nat.le_of_ble_eq_true rfl) rfl dM_addProd_69 (fun H locs hE => ?_)
          have hE : wS (wM D cs ad) A s.heap (mAdd σ P x) H locs := hE
          refine lv_aload_n hx hb dM_addProd_72 rfl (lv_at hl 0 rfl) ?_
          refine w_cv hE hA (w_runV C hk hE hl.1 (As := []) (rest := []) (q := 0) (c_M_grammarChanged l D cs ad (mAdd σ P x) (P + 1) (by rw [hv1]; exact mG_add hg (by omega) (by omega)) (bH_add hvb) _) (Nat.le_of_ble_eq_true rfl) (ci := 6) (N := 17) (T := F_M) rfl rfl tw_650 tw_652 ts_20 tw_9 tw_653 (n := 0) (by decide +kernel) rfl rfl (Nat.le_of_ble_eq_true rfl) dM_addProd_73 ⟨Nat.le_of_ble_eq_true rfl, Nat.le_of_ble_eq_true rfl⟩ ⟨Nat.zero_le _, Nat.zero_le _⟩) (fun τ13 H locs hp hE _ _ => ?_)
          have hfil := hp
          refine lv_aload_n hx hb dM_addProd_76 rfl (lv_at hl 0 rfl) ?_
          refine w_get C hk hE (K := R_M) (T := F_M) (N := 17) (ci := 6) in_M 0 (Nat.le_of_ble_eq_true rfl) rfl rfl 3 (by decide) tw_584 rfl rfl dM_addProd_77 ?_
          refine w_top (y := nI (P + 1)) (filQ_03 hfil (by unfold mAdd; exact mset_s)) ?_
          refine lv_iconst (v := nI 1) hx hb dM_addProd_80 (by decide) ?_
          refine lv_isub hx hb dM_addProd_81 ?_
          refine w_top (y := nI P) (w_sub (by omega) (by omega)) ?_
          exact w_reti C hE (by first | exact Or.inl ⟨by omega, rfl, rfl⟩ | exact Or.inr (Or.inl ⟨by omega, by assumption, rfl, rfl⟩) | exact Or.inr (Or.inr ⟨by omega, by assumption, rfl, hfil⟩)) dM_addProd_82
        · have c11 := w_n0 (by omega) c11
          first | exact absurd c11 (by decide) | exact c11.elim | exact absurd rfl c11
      · have c8 := zb_eq0 c8
        refine lv_iconst (v := nI 2) hx hb dM_addProd_29 (by decide) ?_
        refine lv_goto (tgt := 34) hx hb dM_addProd_30 (by decide) ?_
        refine w_ci hE hA (w_runV C hk hE hl.1 (As := [.int (nI 2)]) (rest := []) (q := 0) (c_M_throwsBy l D cs ad (σ) 2 (by decide) _) (Nat.le_of_ble_eq_true rfl) (ci := 6) (N := 17) (T := F_M) rfl rfl tw_646 tw_648 ts_19 tw_9 tw_649 (n := 1) (by decide +kernel) rfl rfl (Nat.le_of_ble_eq_true rfl) dM_addProd_34 ⟨Nat.le_of_ble_eq_true rfl, Nat.le_of_ble_eq_true rfl⟩ ⟨Nat.zero_le _, Nat.zero_le _⟩) (fun r14 τ15 H locs hp hE _ _ => ?_)
        refine w_top (y := nI 1) (hp.1.trans rfl) ?_
        have hE := wS_eq hp.2 hE
        refine lv_if_eq (tgt := 42) hx hb dM_addProd_37 (by decide) (fun c16 => ?_) (fun c16 => ?_)
        · have c16 := w_z0 (by omega) c16
          first | exact absurd c16 (by decide) | exact c16.elim | exact absurd rfl c16
        · have c16 := w_n0 (by omega) c16
          refine lv_iconst (v := nI 0) hx hb dM_addProd_40 (by decide) ?_
          exact w_reti C hE (by first | exact Or.inl ⟨by omega, rfl, rfl⟩ | exact Or.inr (Or.inl ⟨by omega, by assumption, rfl, rfl⟩) | exact Or.inr (Or.inr ⟨by omega, by assumption, rfl, hfil⟩)) dM_addProd_41
    · have c5 : ¬ (P < 8) := fun h => c5 ((nI_ltI (by omega) (by omega)).mpr h)
      refine lv_iconst (v := nI 1) hx hb dM_addProd_17 (by decide) ?_
      refine lv_goto (tgt := 34) hx hb dM_addProd_18 (by decide) ?_
      refine w_ci hE hA (w_runV C hk hE hl.1 (As := [.int (nI 1)]) (rest := []) (q := 0) (c_M_throwsBy l D cs ad (σ) 1 (by decide) _) (Nat.le_of_ble_eq_true rfl) (ci := 6) (N := 17) (T := F_M) rfl rfl tw_646 tw_648 ts_19 tw_9 tw_649 (n := 1) (by decide +kernel) rfl rfl (Nat.le_of_ble_eq_true rfl) dM_addProd_34 ⟨Nat.le_of_ble_eq_true rfl, Nat.le_of_ble_eq_true rfl⟩ ⟨Nat.zero_le _, Nat.zero_le _⟩) (fun r17 τ18 H locs hp hE _ _ => ?_)
      refine w_top (y := nI 1) (hp.1.trans rfl) ?_
      have hE := wS_eq hp.2 hE
      refine lv_if_eq (tgt := 42) hx hb dM_addProd_37 (by decide) (fun c19 => ?_) (fun c19 => ?_)
      · have c19 := w_z0 (by omega) c19
        first | exact absurd c19 (by decide) | exact c19.elim | exact absurd rfl c19
      · have c19 := w_n0 (by omega) c19
        refine lv_iconst (v := nI 0) hx hb dM_addProd_40 (by decide) ?_
        exact w_reti C hE (by first | exact Or.inl ⟨by omega, rfl, rfl⟩ | exact Or.inr (Or.inl ⟨by omega, by assumption, rfl, rfl⟩) | exact Or.inr (Or.inr ⟨by omega, by assumption, rfl, hfil⟩)) dM_addProd_41
set_option maxHeartbeats 4000000 in
set_option maxRecDepth 100000 in
theorem c_M_feed (l : Launch) (D : va_G) (cs : Nat → ClassId) (ad : Nat → Nat) (σ : Mem) (P n9 V9 T9 : Nat) (x : Int32) (hI : mI σ P n9 V9 T9) : MetI l (wM D cs ad) cs yM_feed bM_feed 2 (some .int) 3 77 [.ref (ad 0), .int x] σ (fun r τ => (P = 0 ∨ 8 ≤ n9) ∧ r = nI 0 ∧ τ = mset σ 0 2 (nI 1) ∨ ¬ (P = 0 ∨ 8 ≤ n9) ∧ isTn T9 x = false ∧ r = nI 0 ∧ τ = mset σ 0 2 (nI 2) ∨ ¬ (P = 0 ∨ 8 ≤ n9) ∧ isTn T9 x = true ∧ r = nI (cntH (τ 5) (360 * (n9 + 1)) 360) ∧ filQ (mFed σ n9 x) P (n9 + 1) τ) := by
  refine MetI.start (by decide) (Nat.le_of_ble_eq_true rfl) ?_
  intro p e s m below meth c A ls C hk hA hE hl
  obtain ⟨hx, hb, hml, hown, hts, hr, hlocks⟩ := id C
  have hl : lv_has ls 2 [(0, .ref (ad 0)), (1, .int x)] := hl
  obtain ⟨hg, hn8, hn7, hvb, hV6, hV, hT6, hT⟩ := id hI
  have hP8 := hg.1
  refine lv_aload_n hx hb dM_feed_0 rfl (lv_at hl 0 rfl) ?_
  refine lv_aload_n hx hb dM_feed_1 rfl (lv_at hl 0 rfl) ?_
  refine w_get C hk hE (K := R_M) (T := F_M) (N := 17) (ci := 6) in_M 0 (Nat.le_of_ble_eq_true rfl) rfl rfl 3 (by decide) tw_584 rfl rfl dM_feed_2 ?_
  refine w_top (y := nI P) (hg.2.1) ?_
  refine lv_if_eq (tgt := 17) hx hb dM_feed_5 (by decide) (fun c1 => ?_) (fun c1 => ?_)
  · have c1 := w_z0 (by omega) c1
    refine lv_iconst (v := nI 1) hx hb dM_feed_17 (by decide) ?_
    refine lv_goto (tgt := 34) hx hb dM_feed_18 (by decide) ?_
    refine w_ci hE hA (w_runV C hk hE hl.1 (As := [.int (nI 1)]) (rest := []) (q := 0) (c_M_throwsBy l D cs ad (σ) 1 (by decide) _) (Nat.le_of_ble_eq_true rfl) (ci := 6) (N := 17) (T := F_M) rfl rfl tw_646 tw_648 ts_19 tw_9 tw_649 (n := 1) (by decide +kernel) rfl rfl (Nat.le_of_ble_eq_true rfl) dM_feed_34 ⟨Nat.le_of_ble_eq_true rfl, Nat.le_of_ble_eq_true rfl⟩ ⟨Nat.zero_le _, Nat.zero_le _⟩) (fun r2 τ3 H locs hp hE _ _ => ?_)
    refine w_top (y := nI 1) (hp.1.trans rfl) ?_
    have hE := wS_eq hp.2 hE
    refine lv_if_eq (tgt := 42) hx hb dM_feed_37 (by decide) (fun c4 => ?_) (fun c4 => ?_)
    · have c4 := w_z0 (by omega) c4
      first | exact absurd c4 (by decide) | exact c4.elim | exact absurd rfl c4
    · have c4 := w_n0 (by omega) c4
      refine lv_iconst (v := nI 0) hx hb dM_feed_40 (by decide) ?_
      exact w_reti C hE (by first | exact Or.inl ⟨by omega, rfl, rfl⟩ | exact Or.inr (Or.inl ⟨by omega, by assumption, rfl, rfl⟩) | exact Or.inr (Or.inr ⟨by omega, by assumption, rfl, hfil⟩)) dM_feed_41
  · have c1 := w_n0 (by omega) c1
    refine lv_aload_n hx hb dM_feed_8 rfl (lv_at hl 0 rfl) ?_
    refine w_get C hk hE (K := R_M) (T := F_M) (N := 17) (ci := 6) in_M 0 (Nat.le_of_ble_eq_true rfl) rfl rfl 7 (by decide) tw_588 rfl rfl dM_feed_9 ?_
    refine w_top (y := nI n9) (hn7) ?_
    refine lv_bipush (v := nI 8) hx hb dM_feed_12 (by decide) ?_
    refine lv_icmp_lt (tgt := 21) hx hb dM_feed_14 (by decide) (fun c5 => ?_) (fun c5 => ?_)
    · have c5 : n9 < 8 := (nI_ltI (by omega) (by omega)).mp c5
      refine lv_aload_n hx hb dM_feed_21 rfl (lv_at hl 0 rfl) ?_
      refine lv_iload_n hx hb dM_feed_22 rfl (lv_at hl 1 rfl) ?_
      refine w_ci hE hA (w_runV C hk hE hl.1 (As := [.int x]) (rest := [.ref (ad 0)]) (q := 0) (c_M_isToken l D cs ad σ T9 x hT hT6 _) (Nat.le_of_ble_eq_true rfl) (ci := 6) (N := 17) (T := F_M) rfl rfl tw_682 tw_684 ts_27 tw_9 tw_685 (n := 1) (by decide +kernel) rfl rfl (Nat.le_of_ble_eq_true rfl) dM_feed_23 ⟨Nat.le_of_ble_eq_true rfl, Nat.le_of_ble_eq_true rfl⟩ ⟨Nat.zero_le _, Nat.zero_le _⟩) (fun r6 τ7 H locs hp hE _ _ => ?_)
      refine w_top hp.1 ?_
      have hE := wS_eq hp.2 hE
      refine lv_if_ne (tgt := 33) hx hb dM_feed_26 (by decide) (fun c8 => ?_) (fun c8 => ?_)
      · have c8 := zb_ne0 c8
        refine lv_iconst (v := nI 0) hx hb dM_feed_33 (by decide) ?_
        refine w_ci hE hA (w_runV C hk hE hl.1 (As := [.int (nI 0)]) (rest := []) (q := 0) (c_M_throwsBy l D cs ad (σ) 0 (by decide) _) (Nat.le_of_ble_eq_true rfl) (ci := 6) (N := 17) (T := F_M) rfl rfl tw_646 tw_648 ts_19 tw_9 tw_649 (n := 1) (by decide +kernel) rfl rfl (Nat.le_of_ble_eq_true rfl) dM_feed_34 ⟨Nat.le_of_ble_eq_true rfl, Nat.le_of_ble_eq_true rfl⟩ ⟨Nat.zero_le _, Nat.zero_le _⟩) (fun r9 τ10 H locs hp hE _ _ => ?_)
        refine w_top (y := nI 0) (hp.1.trans rfl) ?_
        have hE := wS_eq hp.2 hE
        refine lv_if_eq (tgt := 42) hx hb dM_feed_37 (by decide) (fun c11 => ?_) (fun c11 => ?_)
        · have c11 := w_z0 (by omega) c11
          refine lv_aload_n hx hb dM_feed_42 rfl (lv_at hl 0 rfl) ?_
          refine lv_aload_n hx hb dM_feed_43 rfl (lv_at hl 0 rfl) ?_
          refine w_get C hk hE (K := R_M) (T := F_M) (N := 17) (ci := 6) in_M 0 (Nat.le_of_ble_eq_true rfl) rfl rfl 7 (by decide) tw_588 rfl rfl dM_feed_44 ?_
          refine w_top (y := σ 0 7) (by simp [mset, mrow, upd, mhc]) ?_
          refine w_top (y := nI n9) (hn7) ?_
          refine lv_iconst (v := nI 1) hx hb dM_feed_47 (by decide) ?_
          refine lv_iadd hx hb dM_feed_48 ?_
          refine w_top (y := nI (n9 + 1)) (by first | exact nI_add _ _ | simp only [nI_add, Nat.add_assoc, Nat.add_zero, Nat.zero_add]) ?_
          refine w_put C hk hE (K := R_M) (T := F_M) (N := 17) (ci := 6) in_M ft_M_ok fn_M 0 (Nat.le_of_ble_eq_true rfl) rfl rfl 7 (by decide) tw_588 rfl rfl (rfl) (rfl) (Nat.le_of_ble_eq_true rfl) rfl dM_feed_49 (fun H locs hE => ?_)
          refine lv_aload_n hx hb dM_feed_52 rfl (lv_at hl 0 rfl) ?_
          refine w_get C hk hE (K := R_M) (T := F_M) (N := 17) (ci := 6) in_M 0 (Nat.le_of_ble_eq_true rfl) rfl rfl 8 (by decide) tw_589 rfl rfl dM_feed_53 ?_
          refine lv_aload_n hx hb dM_feed_56 rfl (lv_at hl 0 rfl) ?_
          refine w_get C hk hE (K := R_M) (T := F_M) (N := 17) (ci := 6) in_M 0 (Nat.le_of_ble_eq_true rfl) rfl rfl 7 (by decide) tw_588 rfl rfl dM_feed_57 ?_
          refine w_top (y := nI (n9 + 1)) (by simp [mset, mrow, upd, mhc]) ?_
          refine lv_iload_n hx hb dM_feed_60 rfl (lv_at hl 1 rfl) ?_
          refine w_iast C hk hE 4 (by exact Nat.le_of_ble_eq_true rfl) (n := 9) (fun _ => rfl) (by omega) (by first | decide | omega) dM_feed_61 (fun H locs hE => ?_)
          refine lv_aload_n hx hb dM_feed_62 rfl (lv_at hl 0 rfl) ?_
          refine lv_iconst (v := nI 0) hx hb dM_feed_63 (by decide) ?_
          refine w_put C hk hE (K := R_M) (T := F_M) (N := 17) (ci := 6) in_M ft_M_ok fn_M 0 (Nat.le_of_ble_eq_true rfl) rfl rfl 14 (by decide) tw_595 rfl rfl (rfl) (rfl) (Nat.le_of_ble_eq_true rfl) rfl dM_feed_64 (fun H locs hE => ?_)
          refine lv_aload_n hx hb dM_feed_67 rfl (lv_at hl 0 rfl) ?_
          refine lv_iconst (v := nI 0) hx hb dM_feed_68 (by decide) ?_
          refine w_put C hk hE (K := R_M) (T := F_M) (N := 17) (ci := 6) in_M ft_M_ok fn_M 0 (Nat.le_of_ble_eq_true rfl) rfl rfl 12 (by decide) tw_593 rfl rfl (rfl) (rfl) (Nat.le_of_ble_eq_true rfl) rfl dM_feed_69 (fun H locs hE => ?_)
          have hE : wS (wM D cs ad) A s.heap (mCh (mFed σ n9 x)) H locs := hE
          refine lv_aload_n hx hb dM_feed_72 rfl (lv_at hl 0 rfl) ?_
          refine lv_aload_n hx hb dM_feed_73 rfl (lv_at hl 0 rfl) ?_
          refine w_get C hk hE (K := R_M) (T := F_M) (N := 17) (ci := 6) in_M 0 (Nat.le_of_ble_eq_true rfl) rfl rfl 7 (by decide) tw_588 rfl rfl dM_feed_74 ?_
          refine w_top (y := nI (n9 + 1)) mChFed_07 ?_
          refine w_cv hE hA (w_runV C hk hE hl.1 (As := [.int (nI (n9 + 1))]) (rest := []) (q := 0) (c_M_fill l D cs ad (mCh (mFed σ n9 x)) P (n9 + 1) (mG_ch (mG_fed hg)) (by omega) (bH_ch (bH_fed hvb)) _) (Nat.le_of_ble_eq_true rfl) (ci := 6) (N := 17) (T := F_M) rfl rfl tw_654 tw_656 ts_21 tw_9 tw_657 (n := 1) (by decide +kernel) rfl rfl (Nat.le_of_ble_eq_true rfl) dM_feed_77 ⟨Nat.le_of_ble_eq_true rfl, Nat.le_of_ble_eq_true rfl⟩ ⟨Nat.zero_le _, Nat.zero_le _⟩) (fun τ13 H locs hp hE _ _ => ?_)
          have hfil := hp
          refine lv_aload_n hx hb dM_feed_80 rfl (lv_at hl 0 rfl) ?_
          refine lv_aload_n hx hb dM_feed_81 rfl (lv_at hl 0 rfl) ?_
          refine w_get C hk hE (K := R_M) (T := F_M) (N := 17) (ci := 6) in_M 0 (Nat.le_of_ble_eq_true rfl) rfl rfl 7 (by decide) tw_588 rfl rfl dM_feed_82 ?_
          refine w_top (y := nI (n9 + 1)) (filP_07 hfil mChFed_07) ?_
          refine w_ci hE hA (w_runV C hk hE hl.1 (As := [.int (nI (n9 + 1))]) (rest := []) (q := 0) (c_M_sizeOf l D cs ad τ13 (n9 + 1) (by omega) _) (Nat.le_of_ble_eq_true rfl) (ci := 6) (N := 17) (T := F_M) rfl rfl tw_690 tw_692 ts_28 tw_9 tw_693 (n := 1) (by decide +kernel) rfl rfl (Nat.le_of_ble_eq_true rfl) dM_feed_85 ⟨Nat.le_of_ble_eq_true rfl, Nat.le_of_ble_eq_true rfl⟩ ⟨Nat.zero_le _, Nat.zero_le _⟩) (fun r14 τ15 H locs hp hE _ _ => ?_)
          refine w_top hp.1 ?_
          have hE := wS_eq hp.2 hE
          exact w_reti C hE (by first | exact Or.inl ⟨by omega, rfl, rfl⟩ | exact Or.inr (Or.inl ⟨by omega, by assumption, rfl, rfl⟩) | exact Or.inr (Or.inr ⟨by omega, by assumption, rfl, hfil⟩)) dM_feed_88
        · have c11 := w_n0 (by omega) c11
          first | exact absurd c11 (by decide) | exact c11.elim | exact absurd rfl c11
      · have c8 := zb_eq0 c8
        refine lv_iconst (v := nI 2) hx hb dM_feed_29 (by decide) ?_
        refine lv_goto (tgt := 34) hx hb dM_feed_30 (by decide) ?_
        refine w_ci hE hA (w_runV C hk hE hl.1 (As := [.int (nI 2)]) (rest := []) (q := 0) (c_M_throwsBy l D cs ad (σ) 2 (by decide) _) (Nat.le_of_ble_eq_true rfl) (ci := 6) (N := 17) (T := F_M) rfl rfl tw_646 tw_648 ts_19 tw_9 tw_649 (n := 1) (by decide +kernel) rfl rfl (Nat.le_of_ble_eq_true rfl) dM_feed_34 ⟨Nat.le_of_ble_eq_true rfl, Nat.le_of_ble_eq_true rfl⟩ ⟨Nat.zero_le _, Nat.zero_le _⟩) (fun r16 τ17 H locs hp hE _ _ => ?_)
        refine w_top (y := nI 1) (hp.1.trans rfl) ?_
        have hE := wS_eq hp.2 hE
        refine lv_if_eq (tgt := 42) hx hb dM_feed_37 (by decide) (fun c18 => ?_) (fun c18 => ?_)
        · have c18 := w_z0 (by omega) c18
          first | exact absurd c18 (by decide) | exact c18.elim | exact absurd rfl c18
        · have c18 := w_n0 (by omega) c18
          refine lv_iconst (v := nI 0) hx hb dM_feed_40 (by decide) ?_
          exact w_reti C hE (by first | exact Or.inl ⟨by omega, rfl, rfl⟩ | exact Or.inr (Or.inl ⟨by omega, by assumption, rfl, rfl⟩) | exact Or.inr (Or.inr ⟨by omega, by assumption, rfl, hfil⟩)) dM_feed_41
    · have c5 : ¬ (n9 < 8) := fun h => c5 ((nI_ltI (by omega) (by omega)).mpr h)
      refine lv_iconst (v := nI 1) hx hb dM_feed_17 (by decide) ?_
      refine lv_goto (tgt := 34) hx hb dM_feed_18 (by decide) ?_
      refine w_ci hE hA (w_runV C hk hE hl.1 (As := [.int (nI 1)]) (rest := []) (q := 0) (c_M_throwsBy l D cs ad (σ) 1 (by decide) _) (Nat.le_of_ble_eq_true rfl) (ci := 6) (N := 17) (T := F_M) rfl rfl tw_646 tw_648 ts_19 tw_9 tw_649 (n := 1) (by decide +kernel) rfl rfl (Nat.le_of_ble_eq_true rfl) dM_feed_34 ⟨Nat.le_of_ble_eq_true rfl, Nat.le_of_ble_eq_true rfl⟩ ⟨Nat.zero_le _, Nat.zero_le _⟩) (fun r19 τ20 H locs hp hE _ _ => ?_)
      refine w_top (y := nI 1) (hp.1.trans rfl) ?_
      have hE := wS_eq hp.2 hE
      refine lv_if_eq (tgt := 42) hx hb dM_feed_37 (by decide) (fun c21 => ?_) (fun c21 => ?_)
      · have c21 := w_z0 (by omega) c21
        first | exact absurd c21 (by decide) | exact c21.elim | exact absurd rfl c21
      · have c21 := w_n0 (by omega) c21
        refine lv_iconst (v := nI 0) hx hb dM_feed_40 (by decide) ?_
        exact w_reti C hE (by first | exact Or.inl ⟨by omega, rfl, rfl⟩ | exact Or.inr (Or.inl ⟨by omega, by assumption, rfl, rfl⟩) | exact Or.inr (Or.inr ⟨by omega, by assumption, rfl, hfil⟩)) dM_feed_41
set_option maxHeartbeats 4000000 in
set_option maxRecDepth 100000 in
theorem c_M_items (l : Launch) (D : va_G) (cs : Nat → ClassId) (ad : Nat → Nat) (σ : Mem) (P n9 V9 T9 : Nat) (x : Int32) (hI : mI σ P n9 V9 T9) : MetI l (wM D cs ad) cs yM_items bM_items 2 (some .int) 1 23 [.ref (ad 0), .int x] σ (fun r τ => isKn n9 x = false ∧ r = nI 0 ∧ τ = mset σ 0 2 (nI 1) ∨ isKn n9 x = true ∧ r = nI (cntH (σ 5) (360 * x.toNatClampNeg) 360) ∧ τ = mset σ 0 2 (nI 0)) := by
  refine MetI.start (by decide) (Nat.le_of_ble_eq_true rfl) ?_
  intro p e s m below meth c A ls C hk hA hE hl
  obtain ⟨hx, hb, hml, hown, hts, hr, hlocks⟩ := id C
  have hl : lv_has ls 2 [(0, .ref (ad 0)), (1, .int x)] := hl
  obtain ⟨hg, hn8, hn7, hvb, hV6, hV, hT6, hT⟩ := id hI
  have hP8 := hg.1
  refine lv_aload_n hx hb dM_items_0 rfl (lv_at hl 0 rfl) ?_
  refine lv_iload_n hx hb dM_items_1 rfl (lv_at hl 1 rfl) ?_
  refine lv_if_lt (tgt := 13) hx hb dM_items_2 (by decide) (fun c1 => ?_) (fun c1 => ?_)
  · refine lv_iconst (v := nI 1) hx hb dM_items_13 (by decide) ?_
    refine lv_goto (tgt := 18) hx hb dM_items_14 (by decide) ?_
    refine w_ci hE hA (w_runV C hk hE hl.1 (As := [.int (nI 1)]) (rest := []) (q := 0) (c_M_throwsBy l D cs ad (σ) 1 (by decide) _) (Nat.le_of_ble_eq_true rfl) (ci := 6) (N := 17) (T := F_M) rfl rfl tw_646 tw_648 ts_19 tw_9 tw_649 (n := 1) (by decide +kernel) rfl rfl (Nat.le_of_ble_eq_true rfl) dM_items_18 ⟨Nat.le_of_ble_eq_true rfl, Nat.le_of_ble_eq_true rfl⟩ ⟨Nat.zero_le _, Nat.zero_le _⟩) (fun r2 τ3 H locs hp hE _ _ => ?_)
    refine w_top (y := nI 1) (hp.1.trans rfl) ?_
    have hE := wS_eq hp.2 hE
    refine lv_if_eq (tgt := 28) hx hb dM_items_21 (by decide) (fun c4 => ?_) (fun c4 => ?_)
    · have c4 := w_z0 (by omega) c4
      first | exact absurd c4 (by decide) | exact c4.elim | exact absurd rfl c4
    · have c4 := w_n0 (by omega) c4
      refine lv_iconst (v := nI 0) hx hb dM_items_24 (by decide) ?_
      refine lv_goto (tgt := 33) hx hb dM_items_25 (by decide) ?_
      exact w_reti C hE (Or.inl ⟨by simp [isKn, c1], rfl, rfl⟩) dM_items_33
  · have c9a := c1
    refine lv_iload_n hx hb dM_items_5 rfl (lv_at hl 1 rfl) ?_
    refine lv_aload_n hx hb dM_items_6 rfl (lv_at hl 0 rfl) ?_
    refine w_get C hk hE (K := R_M) (T := F_M) (N := 17) (ci := 6) in_M 0 (Nat.le_of_ble_eq_true rfl) rfl rfl 7 (by decide) tw_588 rfl rfl dM_items_7 ?_
    refine w_top (y := nI n9) (hn7) ?_
    refine lv_icmp_le (tgt := 17) hx hb dM_items_10 (by decide) (fun c5 => ?_) (fun c5 => ?_)
    · obtain ⟨hx1, hx2⟩ := isKn_of hn8 c9a c5
      refine lv_iconst (v := nI 0) hx hb dM_items_17 (by decide) ?_
      refine w_ci hE hA (w_runV C hk hE hl.1 (As := [.int (nI 0)]) (rest := []) (q := 0) (c_M_throwsBy l D cs ad (σ) 0 (by decide) _) (Nat.le_of_ble_eq_true rfl) (ci := 6) (N := 17) (T := F_M) rfl rfl tw_646 tw_648 ts_19 tw_9 tw_649 (n := 1) (by decide +kernel) rfl rfl (Nat.le_of_ble_eq_true rfl) dM_items_18 ⟨Nat.le_of_ble_eq_true rfl, Nat.le_of_ble_eq_true rfl⟩ ⟨Nat.zero_le _, Nat.zero_le _⟩) (fun r6 τ7 H locs hp hE _ _ => ?_)
      refine w_top (y := nI 0) (hp.1.trans rfl) ?_
      have hE := wS_eq hp.2 hE
      refine lv_if_eq (tgt := 28) hx hb dM_items_21 (by decide) (fun c8 => ?_) (fun c8 => ?_)
      · have c8 := w_z0 (by omega) c8
        refine lv_aload_n hx hb dM_items_28 rfl (lv_at hl 0 rfl) ?_
        refine lv_iload_n hx hb dM_items_29 rfl (lv_at hl 1 rfl) ?_
        refine w_top (y := nI x.toNatClampNeg) hx1 ?_
        refine w_ci hE hA (w_runV C hk hE hl.1 (As := [.int (nI x.toNatClampNeg)]) (rest := []) (q := 0) (c_M_sizeOf l D cs ad (mset (σ) 0 2 (nI 0)) x.toNatClampNeg (by omega) _) (Nat.le_of_ble_eq_true rfl) (ci := 6) (N := 17) (T := F_M) rfl rfl tw_690 tw_692 ts_28 tw_9 tw_693 (n := 1) (by decide +kernel) rfl rfl (Nat.le_of_ble_eq_true rfl) dM_items_30 ⟨Nat.le_of_ble_eq_true rfl, Nat.le_of_ble_eq_true rfl⟩ ⟨Nat.zero_le _, Nat.zero_le _⟩) (fun r9 τ10 H locs hp hE _ _ => ?_)
        refine w_top (y := nI (cntH (σ 5) (360 * x.toNatClampNeg) 360)) (hp.1.trans (by rw [mset_n (by decide)])) ?_
        have hE := wS_eq hp.2 hE
        exact w_reti C hE (Or.inr ⟨by simp [isKn, c9a, Int32.not_lt.mpr c5], rfl, rfl⟩) dM_items_33
      · have c8 := w_n0 (by omega) c8
        first | exact absurd c8 (by decide) | exact c8.elim | exact absurd rfl c8
    · refine lv_iconst (v := nI 1) hx hb dM_items_13 (by decide) ?_
      refine lv_goto (tgt := 18) hx hb dM_items_14 (by decide) ?_
      refine w_ci hE hA (w_runV C hk hE hl.1 (As := [.int (nI 1)]) (rest := []) (q := 0) (c_M_throwsBy l D cs ad (σ) 1 (by decide) _) (Nat.le_of_ble_eq_true rfl) (ci := 6) (N := 17) (T := F_M) rfl rfl tw_646 tw_648 ts_19 tw_9 tw_649 (n := 1) (by decide +kernel) rfl rfl (Nat.le_of_ble_eq_true rfl) dM_items_18 ⟨Nat.le_of_ble_eq_true rfl, Nat.le_of_ble_eq_true rfl⟩ ⟨Nat.zero_le _, Nat.zero_le _⟩) (fun r11 τ12 H locs hp hE _ _ => ?_)
      refine w_top (y := nI 1) (hp.1.trans rfl) ?_
      have hE := wS_eq hp.2 hE
      refine lv_if_eq (tgt := 28) hx hb dM_items_21 (by decide) (fun c13 => ?_) (fun c13 => ?_)
      · have c13 := w_z0 (by omega) c13
        first | exact absurd c13 (by decide) | exact c13.elim | exact absurd rfl c13
      · have c13 := w_n0 (by omega) c13
        refine lv_iconst (v := nI 0) hx hb dM_items_24 (by decide) ?_
        refine lv_goto (tgt := 33) hx hb dM_items_25 (by decide) ?_
        exact w_reti C hE (Or.inl ⟨by simp [isKn, Int32.not_le.mp c5], rfl, rfl⟩) dM_items_33
set_option maxHeartbeats 4000000 in
set_option maxRecDepth 100000 in
theorem c_M_wit (l : Launch) (D : va_G) (cs : Nat → ClassId) (ad : Nat → Nat) (σ : Mem) (m9 : Nat) (x : Int32) (hm : σ 0 14 = nI m9) (hm8 : m9 ≤ 8000) : MetI l (wM D cs ad) cs yM_wit bM_wit 2 (some .int) 1 21 [.ref (ad 0), .int x] σ (fun r τ => isVn m9 x = false ∧ r = nI 0 ∧ τ = mset σ 0 2 (nI 1) ∨ isVn m9 x = true ∧ r = σ 8 x.toNatClampNeg ∧ τ = mset σ 0 2 (nI 0)) := by
  refine MetI.start (by decide) (Nat.le_of_ble_eq_true rfl) ?_
  intro p e s m below meth c A ls C hk hA hE hl
  obtain ⟨hx, hb, hml, hown, hts, hr, hlocks⟩ := id C
  have hl : lv_has ls 2 [(0, .ref (ad 0)), (1, .int x)] := hl
  refine lv_aload_n hx hb dM_wit_0 rfl (lv_at hl 0 rfl) ?_
  refine lv_iload_n hx hb dM_wit_1 rfl (lv_at hl 1 rfl) ?_
  refine lv_if_lt (tgt := 13) hx hb dM_wit_2 (by decide) (fun c1 => ?_) (fun c1 => ?_)
  · refine lv_iconst (v := nI 1) hx hb dM_wit_13 (by decide) ?_
    refine lv_goto (tgt := 18) hx hb dM_wit_14 (by decide) ?_
    refine w_ci hE hA (w_runV C hk hE hl.1 (As := [.int (nI 1)]) (rest := []) (q := 0) (c_M_throwsBy l D cs ad (σ) 1 (by decide) _) (Nat.le_of_ble_eq_true rfl) (ci := 6) (N := 17) (T := F_M) rfl rfl tw_646 tw_648 ts_19 tw_9 tw_649 (n := 1) (by decide +kernel) rfl rfl (Nat.le_of_ble_eq_true rfl) dM_wit_18 ⟨Nat.le_of_ble_eq_true rfl, Nat.le_of_ble_eq_true rfl⟩ ⟨Nat.zero_le _, Nat.zero_le _⟩) (fun r2 τ3 H locs hp hE _ _ => ?_)
    refine w_top (y := nI 1) (hp.1.trans rfl) ?_
    have hE := wS_eq hp.2 hE
    refine lv_if_eq (tgt := 28) hx hb dM_wit_21 (by decide) (fun c4 => ?_) (fun c4 => ?_)
    · have c4 := w_z0 (by omega) c4
      first | exact absurd c4 (by decide) | exact c4.elim | exact absurd rfl c4
    · have c4 := w_n0 (by omega) c4
      refine lv_iconst (v := nI 0) hx hb dM_wit_24 (by decide) ?_
      refine lv_goto (tgt := 34) hx hb dM_wit_25 (by decide) ?_
      exact w_reti C hE (Or.inl ⟨by simp [isVn, c1], rfl, rfl⟩) dM_wit_34
  · have c9a := c1
    refine lv_iload_n hx hb dM_wit_5 rfl (lv_at hl 1 rfl) ?_
    refine lv_aload_n hx hb dM_wit_6 rfl (lv_at hl 0 rfl) ?_
    refine w_get C hk hE (K := R_M) (T := F_M) (N := 17) (ci := 6) in_M 0 (Nat.le_of_ble_eq_true rfl) rfl rfl 14 (by decide) tw_595 rfl rfl dM_wit_7 ?_
    refine w_top (y := nI m9) (hm) ?_
    refine lv_icmp_lt (tgt := 17) hx hb dM_wit_10 (by decide) (fun c5 => ?_) (fun c5 => ?_)
    · obtain ⟨hx1, hx2⟩ := isVn_of2 hm8 c9a c5
      refine lv_iconst (v := nI 0) hx hb dM_wit_17 (by decide) ?_
      refine w_ci hE hA (w_runV C hk hE hl.1 (As := [.int (nI 0)]) (rest := []) (q := 0) (c_M_throwsBy l D cs ad (σ) 0 (by decide) _) (Nat.le_of_ble_eq_true rfl) (ci := 6) (N := 17) (T := F_M) rfl rfl tw_646 tw_648 ts_19 tw_9 tw_649 (n := 1) (by decide +kernel) rfl rfl (Nat.le_of_ble_eq_true rfl) dM_wit_18 ⟨Nat.le_of_ble_eq_true rfl, Nat.le_of_ble_eq_true rfl⟩ ⟨Nat.zero_le _, Nat.zero_le _⟩) (fun r6 τ7 H locs hp hE _ _ => ?_)
      refine w_top (y := nI 0) (hp.1.trans rfl) ?_
      have hE := wS_eq hp.2 hE
      refine lv_if_eq (tgt := 28) hx hb dM_wit_21 (by decide) (fun c8 => ?_) (fun c8 => ?_)
      · have c8 := w_z0 (by omega) c8
        refine lv_aload_n hx hb dM_wit_28 rfl (lv_at hl 0 rfl) ?_
        refine w_get C hk hE (K := R_M) (T := F_M) (N := 17) (ci := 6) in_M 0 (Nat.le_of_ble_eq_true rfl) rfl rfl 15 (by decide) tw_596 rfl rfl dM_wit_29 ?_
        refine lv_iload_n hx hb dM_wit_32 rfl (lv_at hl 1 rfl) ?_
        refine w_top (y := nI x.toNatClampNeg) hx1 ?_
        refine w_iald C hk hE 8 (by exact Nat.le_of_ble_eq_true rfl) (n := 8000) rfl (by omega) (by first | decide | omega) dM_wit_33 ?_
        refine w_top (y := σ 8 x.toNatClampNeg) (by simp [mset, mrow, upd, mhc]) ?_
        exact w_reti C hE (Or.inr ⟨by simp [isVn, c9a, Int32.not_le.mpr c5], rfl, rfl⟩) dM_wit_34
      · have c8 := w_n0 (by omega) c8
        first | exact absurd c8 (by decide) | exact c8.elim | exact absurd rfl c8
    · refine lv_iconst (v := nI 1) hx hb dM_wit_13 (by decide) ?_
      refine lv_goto (tgt := 18) hx hb dM_wit_14 (by decide) ?_
      refine w_ci hE hA (w_runV C hk hE hl.1 (As := [.int (nI 1)]) (rest := []) (q := 0) (c_M_throwsBy l D cs ad (σ) 1 (by decide) _) (Nat.le_of_ble_eq_true rfl) (ci := 6) (N := 17) (T := F_M) rfl rfl tw_646 tw_648 ts_19 tw_9 tw_649 (n := 1) (by decide +kernel) rfl rfl (Nat.le_of_ble_eq_true rfl) dM_wit_18 ⟨Nat.le_of_ble_eq_true rfl, Nat.le_of_ble_eq_true rfl⟩ ⟨Nat.zero_le _, Nat.zero_le _⟩) (fun r9 τ10 H locs hp hE _ _ => ?_)
      refine w_top (y := nI 1) (hp.1.trans rfl) ?_
      have hE := wS_eq hp.2 hE
      refine lv_if_eq (tgt := 28) hx hb dM_wit_21 (by decide) (fun c11 => ?_) (fun c11 => ?_)
      · have c11 := w_z0 (by omega) c11
        first | exact absurd c11 (by decide) | exact c11.elim | exact absurd rfl c11
      · have c11 := w_n0 (by omega) c11
        refine lv_iconst (v := nI 0) hx hb dM_wit_24 (by decide) ?_
        refine lv_goto (tgt := 34) hx hb dM_wit_25 (by decide) ?_
        exact w_reti C hE (Or.inl ⟨by simp [isVn, Int32.not_lt.mp c5], rfl, rfl⟩) dM_wit_34
set_option maxHeartbeats 4000000 in
set_option maxRecDepth 100000 in
theorem c_M_erase (l : Launch) (D : va_G) (cs : Nat → ClassId) (ad : Nat → Nat) (σ : Mem) (P n9 V9 T9 : Nat) (hI : mI σ P n9 V9 T9) : MetI l (wM D cs ad) cs yM_erase bM_erase 2 (some .int) 4 97 [.ref (ad 0)] σ (fun r τ => r = nI P ∧ filQ (mset (mset (mset σ 0 2 (nI 0)) 0 7 (nI 0)) 0 3 (nI 0)) 0 0 τ) := by
  refine MetI.start (by decide) (Nat.le_of_ble_eq_true rfl) ?_
  intro p e s m below meth c A ls C hk hA hE hl
  obtain ⟨hx, hb, hml, hown, hts, hr, hlocks⟩ := id C
  have hl : lv_has ls 2 [(0, .ref (ad 0))] := hl
  obtain ⟨hg, hn8, hn7, hvb, hV6, hV, hT6, hT⟩ := id hI
  have hP8 := hg.1
  refine lv_aload_n hx hb dM_erase_0 rfl (lv_at hl 0 rfl) ?_
  refine lv_iconst (v := nI 0) hx hb dM_erase_1 (by decide) ?_
  refine w_put C hk hE (K := R_M) (T := F_M) (N := 17) (ci := 6) in_M ft_M_ok fn_M 0 (Nat.le_of_ble_eq_true rfl) rfl rfl 2 (by decide) tw_583 rfl rfl (rfl) (rfl) (Nat.le_of_ble_eq_true rfl) rfl dM_erase_2 (fun H locs hE => ?_)
  refine lv_aload_n hx hb dM_erase_5 rfl (lv_at hl 0 rfl) ?_
  refine w_get C hk hE (K := R_M) (T := F_M) (N := 17) (ci := 6) in_M 0 (Nat.le_of_ble_eq_true rfl) rfl rfl 3 (by decide) tw_584 rfl rfl dM_erase_6 ?_
  refine w_top (y := σ 0 3) (by simp [mset, mrow, upd, mhc]) ?_
  refine w_top (y := nI P) (hg.2.1) ?_
  refine lv_istore_n (lv' := [(1, .int (nI P)), (0, .ref (ad 0))]) hx hb dM_erase_9 rfl hl (by decide) rfl (fun ls hl => ?_)
  refine lv_aload_n hx hb dM_erase_10 rfl (lv_at hl 1 rfl) ?_
  refine lv_iconst (v := nI 0) hx hb dM_erase_11 (by decide) ?_
  refine w_put C hk hE (K := R_M) (T := F_M) (N := 17) (ci := 6) in_M ft_M_ok fn_M 0 (Nat.le_of_ble_eq_true rfl) rfl rfl 7 (by decide) tw_588 rfl rfl (rfl) (rfl) (Nat.le_of_ble_eq_true rfl) rfl dM_erase_12 (fun H locs hE => ?_)
  refine lv_aload_n hx hb dM_erase_15 rfl (lv_at hl 1 rfl) ?_
  refine lv_iconst (v := nI 0) hx hb dM_erase_16 (by decide) ?_
  refine w_put C hk hE (K := R_M) (T := F_M) (N := 17) (ci := 6) in_M ft_M_ok fn_M 0 (Nat.le_of_ble_eq_true rfl) rfl rfl 3 (by decide) tw_584 rfl rfl (rfl) (rfl) (Nat.le_of_ble_eq_true rfl) rfl dM_erase_17 (fun H locs hE => ?_)
  refine lv_aload_n hx hb dM_erase_20 rfl (lv_at hl 1 rfl) ?_
  refine w_cv hE hA (w_runV C hk hE hl.1 (As := []) (rest := []) (q := 0) (c_M_grammarChanged l D cs ad (mset (mset (mset σ 0 2 (nI 0)) 0 7 (nI 0)) 0 3 (nI 0)) 0 ⟨by decide, mset_s, fun _ h => absurd h (Nat.not_lt_zero _)⟩ (by rw [mset_n (by decide), mset_n (by decide), mset_n (by decide), mset_i (by decide), mset_i (by decide), mset_i (by decide)]; exact hvb) _) (Nat.le_of_ble_eq_true rfl) (ci := 6) (N := 17) (T := F_M) rfl rfl tw_650 tw_652 ts_20 tw_9 tw_653 (n := 0) (by decide +kernel) rfl rfl (Nat.le_of_ble_eq_true rfl) dM_erase_21 ⟨Nat.le_of_ble_eq_true rfl, Nat.le_of_ble_eq_true rfl⟩ ⟨Nat.zero_le _, Nat.zero_le _⟩) (fun τ2 H locs hp hE _ _ => ?_)
  have hfil := hp
  refine lv_iload_n hx hb dM_erase_24 rfl (lv_at hl 0 rfl) ?_
  exact w_reti C hE (⟨rfl, hfil⟩) dM_erase_25
end
