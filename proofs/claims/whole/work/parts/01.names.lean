/-- the words of the tables that stay true along a run -/
def tbG : List Cond := lw_tbl.filter goodWord
theorem tbG_of {w : Cond} (h : w ∈ tables_1) (g : goodWord w = true) : w ∈ tbG := List.mem_filter.mpr ⟨List.mem_append_right _ h, g⟩
theorem tbG_sel {w : Cond} (h : w ∈ k2_sels lw_privs) (g : goodWord w = true) : w ∈ tbG := List.mem_filter.mpr ⟨List.mem_append_left _ h, g⟩
theorem tbG_good : tbG.all goodWord = true := List.all_eq_true.mpr fun w h => (List.mem_filter.mp h).2
def R_G : String := "EarleyChart$Grammar"
def F_G : u_T := fun k => match k with
  | 0 => ("EarleyChart$Grammar", "leftSide", "[I", true)
  | 1 => ("EarleyChart$Grammar", "firstSlot", "[I", true)
  | 2 => ("EarleyChart$Grammar", "symbolBehind", "[I", true)
  | 3 => ("EarleyChart$Grammar", "productionOf", "[I", true)
  | 4 => ("EarleyChart$Grammar", "productions", "I", false)
  | _ => ("EarleyChart$Grammar", "slots", "I", false)
def ft_G : Nat → FieldType := fun k => match k with
  | 0 => .array .int
  | 1 => .array .int
  | 2 => .array .int
  | 3 => .array .int
  | 4 => .int
  | _ => .int
theorem fn_G : ∀ a, a < 6 → ∀ b, b < 6 → a ≠ b → (F_G a).2.1 ≠ (F_G b).2.1 := by decide +kernel
theorem ft_G_ok : ∀ k, k < 6 → parseFieldDescriptor (F_G k).2.2.1 = some (ft_G k) := by decide +kernel
theorem in_G : ∀ w ∈ u_ws R_G F_G 6, w ∈ tbG := by
  intro w hw
  obtain ⟨k, hk, rfl⟩ := List.mem_map.mp hw
  have hk := List.mem_range.mp hk
  match k, hk with
  | 0, _ => exact tbG_of (List.mem_of_getElem? (i := 50) (by decide +kernel)) (by decide +kernel)
  | 1, _ => exact tbG_of (List.mem_of_getElem? (i := 52) (by decide +kernel)) (by decide +kernel)
  | 2, _ => exact tbG_of (List.mem_of_getElem? (i := 54) (by decide +kernel)) (by decide +kernel)
  | 3, _ => exact tbG_of (List.mem_of_getElem? (i := 56) (by decide +kernel)) (by decide +kernel)
  | 4, _ => exact tbG_of (List.mem_of_getElem? (i := 58) (by decide +kernel)) (by decide +kernel)
  | 5, _ => exact tbG_of (List.mem_of_getElem? (i := 60) (by decide +kernel)) (by decide +kernel)
  | k + 6, hk => exact absurd hk (by omega)
def R_I : String := "EarleyChart$Input"
def F_I : u_T := fun k => match k with
  | 0 => ("EarleyChart$Input", "tokens", "[I", true)
  | _ => ("EarleyChart$Input", "length", "I", false)
def ft_I : Nat → FieldType := fun k => match k with
  | 0 => .array .int
  | _ => .int
theorem fn_I : ∀ a, a < 2 → ∀ b, b < 2 → a ≠ b → (F_I a).2.1 ≠ (F_I b).2.1 := by decide +kernel
theorem ft_I_ok : ∀ k, k < 2 → parseFieldDescriptor (F_I k).2.2.1 = some (ft_I k) := by decide +kernel
theorem in_I : ∀ w ∈ u_ws R_I F_I 2, w ∈ tbG := by
  intro w hw
  obtain ⟨k, hk, rfl⟩ := List.mem_map.mp hw
  have hk := List.mem_range.mp hk
  match k, hk with
  | 0, _ => exact tbG_of (List.mem_of_getElem? (i := 73) (by decide +kernel)) (by decide +kernel)
  | 1, _ => exact tbG_of (List.mem_of_getElem? (i := 75) (by decide +kernel)) (by decide +kernel)
  | k + 2, hk => exact absurd hk (by omega)
def R_S : String := "EarleyChart$ItemSets"
def F_S : u_T := fun k => match k with
  | 0 => ("EarleyChart$ItemSets", "grammar", "LEarleyChart$Grammar;", true)
  | 1 => ("EarleyChart$ItemSets", "origins", "[[I", true)
  | _ => ("EarleyChart$ItemSets", "wholeOrigins", "[I", true)
def ft_S : Nat → FieldType := fun k => match k with
  | 0 => .object "EarleyChart$Grammar"
  | 1 => .array (.array .int)
  | _ => .array .int
theorem fn_S : ∀ a, a < 3 → ∀ b, b < 3 → a ≠ b → (F_S a).2.1 ≠ (F_S b).2.1 := by decide +kernel
theorem ft_S_ok : ∀ k, k < 3 → parseFieldDescriptor (F_S k).2.2.1 = some (ft_S k) := by decide +kernel
theorem in_S : ∀ w ∈ u_ws R_S F_S 3, w ∈ tbG := by
  intro w hw
  obtain ⟨k, hk, rfl⟩ := List.mem_map.mp hw
  have hk := List.mem_range.mp hk
  match k, hk with
  | 0, _ => exact tbG_of (List.mem_of_getElem? (i := 109) (by decide +kernel)) (by decide +kernel)
  | 1, _ => exact tbG_of (List.mem_of_getElem? (i := 111) (by decide +kernel)) (by decide +kernel)
  | 2, _ => exact tbG_of (List.mem_of_getElem? (i := 113) (by decide +kernel)) (by decide +kernel)
  | k + 3, hk => exact absurd hk (by omega)
def R_T : String := "EarleyChart$StepTable"
def F_T : u_T := fun k => match k with
  | 0 => ("EarleyChart$StepTable", "grammar", "LEarleyChart$Grammar;", true)
  | 1 => ("EarleyChart$StepTable", "input", "LEarleyChart$Input;", true)
  | 2 => ("EarleyChart$StepTable", "ofVariable", "[[I", true)
  | _ => ("EarleyChart$StepTable", "ofRowBehind", "[[I", true)
def ft_T : Nat → FieldType := fun k => match k with
  | 0 => .object "EarleyChart$Grammar"
  | 1 => .object "EarleyChart$Input"
  | 2 => .array (.array .int)
  | _ => .array (.array .int)
theorem fn_T : ∀ a, a < 4 → ∀ b, b < 4 → a ≠ b → (F_T a).2.1 ≠ (F_T b).2.1 := by decide +kernel
theorem ft_T_ok : ∀ k, k < 4 → parseFieldDescriptor (F_T k).2.2.1 = some (ft_T k) := by decide +kernel
theorem in_T : ∀ w ∈ u_ws R_T F_T 4, w ∈ tbG := by
  intro w hw
  obtain ⟨k, hk, rfl⟩ := List.mem_map.mp hw
  have hk := List.mem_range.mp hk
  match k, hk with
  | 0, _ => exact tbG_of (List.mem_of_getElem? (i := 90) (by decide +kernel)) (by decide +kernel)
  | 1, _ => exact tbG_of (List.mem_of_getElem? (i := 92) (by decide +kernel)) (by decide +kernel)
  | 2, _ => exact tbG_of (List.mem_of_getElem? (i := 94) (by decide +kernel)) (by decide +kernel)
  | 3, _ => exact tbG_of (List.mem_of_getElem? (i := 96) (by decide +kernel)) (by decide +kernel)
  | k + 4, hk => exact absurd hk (by omega)
def R_W : String := "EarleyChart$Witness"
def F_W : u_T := fun k => match k with
  | 0 => ("EarleyChart$Witness", "grammar", "LEarleyChart$Grammar;", true)
  | 1 => ("EarleyChart$Witness", "table", "LEarleyChart$StepTable;", true)
  | 2 => ("EarleyChart$Witness", "row", "[I", true)
  | 3 => ("EarleyChart$Witness", "count", "I", false)
  | 4 => ("EarleyChart$Witness", "openSlots", "[I", true)
  | 5 => ("EarleyChart$Witness", "froms", "[I", true)
  | 6 => ("EarleyChart$Witness", "tos", "[I", true)
  | _ => ("EarleyChart$Witness", "depth", "I", false)
def ft_W : Nat → FieldType := fun k => match k with
  | 0 => .object "EarleyChart$Grammar"
  | 1 => .object "EarleyChart$StepTable"
  | 2 => .array .int
  | 3 => .int
  | 4 => .array .int
  | 5 => .array .int
  | 6 => .array .int
  | _ => .int
theorem fn_W : ∀ a, a < 8 → ∀ b, b < 8 → a ≠ b → (F_W a).2.1 ≠ (F_W b).2.1 := by decide +kernel
theorem ft_W_ok : ∀ k, k < 8 → parseFieldDescriptor (F_W k).2.2.1 = some (ft_W k) := by decide +kernel
theorem in_W : ∀ w ∈ u_ws R_W F_W 8, w ∈ tbG := by
  intro w hw
  obtain ⟨k, hk, rfl⟩ := List.mem_map.mp hw
  have hk := List.mem_range.mp hk
  match k, hk with
  | 0, _ => exact tbG_of (List.mem_of_getElem? (i := 132) (by decide +kernel)) (by decide +kernel)
  | 1, _ => exact tbG_of (List.mem_of_getElem? (i := 134) (by decide +kernel)) (by decide +kernel)
  | 2, _ => exact tbG_of (List.mem_of_getElem? (i := 136) (by decide +kernel)) (by decide +kernel)
  | 3, _ => exact tbG_of (List.mem_of_getElem? (i := 138) (by decide +kernel)) (by decide +kernel)
  | 4, _ => exact tbG_of (List.mem_of_getElem? (i := 140) (by decide +kernel)) (by decide +kernel)
  | 5, _ => exact tbG_of (List.mem_of_getElem? (i := 142) (by decide +kernel)) (by decide +kernel)
  | 6, _ => exact tbG_of (List.mem_of_getElem? (i := 144) (by decide +kernel)) (by decide +kernel)
  | 7, _ => exact tbG_of (List.mem_of_getElem? (i := 146) (by decide +kernel)) (by decide +kernel)
  | k + 8, hk => exact absurd hk (by omega)
def R_E : String := "EarleyChart"
def F_E : u_T := fun k => match k with
  | 0 => ("EarleyChart", "variableCount", "I", true)
  | 1 => ("EarleyChart", "tokenCount", "I", true)
  | 2 => ("EarleyChart", "grammar", "LEarleyChart$Grammar;", true)
  | 3 => ("EarleyChart", "input", "LEarleyChart$Input;", true)
  | 4 => ("EarleyChart", "sets", "LEarleyChart$ItemSets;", true)
  | 5 => ("EarleyChart", "table", "LEarleyChart$StepTable;", true)
  | _ => ("EarleyChart", "witness", "LEarleyChart$Witness;", true)
def ft_E : Nat → FieldType := fun k => match k with
  | 0 => .int
  | 1 => .int
  | 2 => .object "EarleyChart$Grammar"
  | 3 => .object "EarleyChart$Input"
  | 4 => .object "EarleyChart$ItemSets"
  | 5 => .object "EarleyChart$StepTable"
  | _ => .object "EarleyChart$Witness"
theorem fn_E : ∀ a, a < 7 → ∀ b, b < 7 → a ≠ b → (F_E a).2.1 ≠ (F_E b).2.1 := by decide +kernel
theorem ft_E_ok : ∀ k, k < 7 → parseFieldDescriptor (F_E k).2.2.1 = some (ft_E k) := by decide +kernel
theorem in_E : ∀ w ∈ u_ws R_E F_E 7, w ∈ tbG := by
  intro w hw
  obtain ⟨k, hk, rfl⟩ := List.mem_map.mp hw
  have hk := List.mem_range.mp hk
  match k, hk with
  | 0, _ => exact tbG_of (List.mem_of_getElem? (i := 252) (by decide +kernel)) (by decide +kernel)
  | 1, _ => exact tbG_of (List.mem_of_getElem? (i := 254) (by decide +kernel)) (by decide +kernel)
  | 2, _ => exact tbG_of (List.mem_of_getElem? (i := 256) (by decide +kernel)) (by decide +kernel)
  | 3, _ => exact tbG_of (List.mem_of_getElem? (i := 258) (by decide +kernel)) (by decide +kernel)
  | 4, _ => exact tbG_of (List.mem_of_getElem? (i := 260) (by decide +kernel)) (by decide +kernel)
  | 5, _ => exact tbG_of (List.mem_of_getElem? (i := 262) (by decide +kernel)) (by decide +kernel)
  | 6, _ => exact tbG_of (List.mem_of_getElem? (i := 264) (by decide +kernel)) (by decide +kernel)
  | k + 7, hk => exact absurd hk (by omega)
def R_M : String := "EarleyChartModel"
def F_M : u_T := fun k => match k with
  | 0 => ("EarleyChartModel", "variables", "I", true)
  | 1 => ("EarleyChartModel", "tokens", "I", true)
  | 2 => ("EarleyChartModel", "thrown", "I", false)
  | 3 => ("EarleyChartModel", "productions", "I", false)
  | 4 => ("EarleyChartModel", "left", "[I", true)
  | 5 => ("EarleyChartModel", "length", "[I", true)
  | 6 => ("EarleyChartModel", "right", "[I", true)
  | 7 => ("EarleyChartModel", "fed", "I", false)
  | 8 => ("EarleyChartModel", "input", "[I", true)
  | 9 => ("EarleyChartModel", "has", "[Z", true)
  | 10 => ("EarleyChartModel", "changed", "Z", false)
  | 11 => ("EarleyChartModel", "steps", "[I", true)
  | 12 => ("EarleyChartModel", "known", "Z", false)
  | 13 => ("EarleyChartModel", "rest", "[I", true)
  | 14 => ("EarleyChartModel", "made", "I", false)
  | 15 => ("EarleyChartModel", "witness", "[I", true)
  | _ => ("EarleyChartModel", "stack", "[I", true)
def ft_M : Nat → FieldType := fun k => match k with
  | 0 => .int
  | 1 => .int
  | 2 => .int
  | 3 => .int
  | 4 => .array .int
  | 5 => .array .int
  | 6 => .array .int
  | 7 => .int
  | 8 => .array .int
  | 9 => .array .boolean
  | 10 => .boolean
  | 11 => .array .int
  | 12 => .boolean
  | 13 => .array .int
  | 14 => .int
  | 15 => .array .int
  | _ => .array .int
theorem fn_M : ∀ a, a < 17 → ∀ b, b < 17 → a ≠ b → (F_M a).2.1 ≠ (F_M b).2.1 := by decide +kernel
theorem ft_M_ok : ∀ k, k < 17 → parseFieldDescriptor (F_M k).2.2.1 = some (ft_M k) := by decide +kernel
theorem in_M : ∀ w ∈ u_ws R_M F_M 17, w ∈ tbG := by
  intro w hw
  obtain ⟨k, hk, rfl⟩ := List.mem_map.mp hw
  have hk := List.mem_range.mp hk
  match k, hk with
  | 0, _ => exact tbG_of (List.mem_of_getElem? (i := 599) (by decide +kernel)) (by decide +kernel)
  | 1, _ => exact tbG_of (List.mem_of_getElem? (i := 601) (by decide +kernel)) (by decide +kernel)
  | 2, _ => exact tbG_of (List.mem_of_getElem? (i := 603) (by decide +kernel)) (by decide +kernel)
  | 3, _ => exact tbG_of (List.mem_of_getElem? (i := 605) (by decide +kernel)) (by decide +kernel)
  | 4, _ => exact tbG_of (List.mem_of_getElem? (i := 607) (by decide +kernel)) (by decide +kernel)
  | 5, _ => exact tbG_of (List.mem_of_getElem? (i := 609) (by decide +kernel)) (by decide +kernel)
  | 6, _ => exact tbG_of (List.mem_of_getElem? (i := 611) (by decide +kernel)) (by decide +kernel)
  | 7, _ => exact tbG_of (List.mem_of_getElem? (i := 613) (by decide +kernel)) (by decide +kernel)
  | 8, _ => exact tbG_of (List.mem_of_getElem? (i := 615) (by decide +kernel)) (by decide +kernel)
  | 9, _ => exact tbG_of (List.mem_of_getElem? (i := 617) (by decide +kernel)) (by decide +kernel)
  | 10, _ => exact tbG_of (List.mem_of_getElem? (i := 619) (by decide +kernel)) (by decide +kernel)
  | 11, _ => exact tbG_of (List.mem_of_getElem? (i := 621) (by decide +kernel)) (by decide +kernel)
  | 12, _ => exact tbG_of (List.mem_of_getElem? (i := 623) (by decide +kernel)) (by decide +kernel)
  | 13, _ => exact tbG_of (List.mem_of_getElem? (i := 625) (by decide +kernel)) (by decide +kernel)
  | 14, _ => exact tbG_of (List.mem_of_getElem? (i := 627) (by decide +kernel)) (by decide +kernel)
  | 15, _ => exact tbG_of (List.mem_of_getElem? (i := 629) (by decide +kernel)) (by decide +kernel)
  | 16, _ => exact tbG_of (List.mem_of_getElem? (i := 631) (by decide +kernel)) (by decide +kernel)
  | k + 17, hk => exact absurd hk (by omega)
def R_L : String := "EarleyChartLaw"
def R_J : String := "java/lang/Integer"
def R_A : String := "java/util/Arrays"
/-- the classes whose objects the worlds hold -/
abbrev classes : List vw_C := [(R_G, F_G, 6), (R_I, F_I, 2), (R_S, F_S, 3), (R_T, F_T, 4), (R_W, F_W, 8), (R_E, F_E, 7), (R_M, F_M, 17)]
abbrev bE_init : ByteArray := prog_1_method_1_code
abbrev yE_init : MethodName := ⟨"EarleyChart", "<init>", "(II)V"⟩
abbrev bG_init : ByteArray := prog_2_method_1_code
abbrev yG_init : MethodName := ⟨"EarleyChart$Grammar", "<init>", "()V"⟩
abbrev bI_init : ByteArray := prog_3_method_1_code
abbrev yI_init : MethodName := ⟨"EarleyChart$Input", "<init>", "()V"⟩
abbrev bT_init : ByteArray := prog_5_method_1_code
abbrev yT_init : MethodName := ⟨"EarleyChart$StepTable", "<init>", "(LEarleyChart$Grammar;LEarleyChart$Input;)V"⟩
abbrev bS_init : ByteArray := prog_4_method_1_code
abbrev yS_init : MethodName := ⟨"EarleyChart$ItemSets", "<init>", "(LEarleyChart$Grammar;)V"⟩
abbrev bW_init : ByteArray := prog_6_method_1_code
abbrev yW_init : MethodName := ⟨"EarleyChart$Witness", "<init>", "(LEarleyChart$Grammar;LEarleyChart$StepTable;)V"⟩
abbrev bE_grammarChanged : ByteArray := prog_1_method_20_code
abbrev yE_grammarChanged : MethodName := ⟨"EarleyChart", "grammarChanged", "()V"⟩
abbrev bW_forget : ByteArray := prog_6_method_2_code
abbrev yW_forget : MethodName := ⟨"EarleyChart$Witness", "forget", "()V"⟩
abbrev bS_makeFirst : ByteArray := prog_4_method_2_code
abbrev yS_makeFirst : MethodName := ⟨"EarleyChart$ItemSets", "makeFirst", "()V"⟩
abbrev bJ_fill : ByteArray := prog_17_method_103_code
abbrev yJ_fill : MethodName := ⟨"java/util/Arrays", "fill", "([II)V"⟩
abbrev bG_start : ByteArray := prog_2_method_2_code
abbrev yG_start : MethodName := ⟨"EarleyChart$Grammar", "start", "()I"⟩
abbrev bS_predict : ByteArray := prog_4_method_11_code
abbrev yS_predict : MethodName := ⟨"EarleyChart$ItemSets", "predict", "(II)V"⟩
abbrev bS_close : ByteArray := prog_4_method_8_code
abbrev yS_close : MethodName := ⟨"EarleyChart$ItemSets", "close", "(I)V"⟩
abbrev bS_size : ByteArray := prog_4_method_4_code
abbrev yS_size : MethodName := ⟨"EarleyChart$ItemSets", "size", "(I)I"⟩
abbrev bJ_bitCount : ByteArray := prog_13_method_49_code
abbrev yJ_bitCount : MethodName := ⟨"java/lang/Integer", "bitCount", "(I)I"⟩
abbrev bS_gatherWholeOrigins : ByteArray := prog_4_method_9_code
abbrev yS_gatherWholeOrigins : MethodName := ⟨"EarleyChart$ItemSets", "gatherWholeOrigins", "(I)V"⟩
abbrev bG_leftSideAt : ByteArray := prog_2_method_8_code
abbrev yG_leftSideAt : MethodName := ⟨"EarleyChart$Grammar", "leftSideAt", "(I)I"⟩
abbrev bS_grow : ByteArray := prog_4_method_10_code
abbrev yS_grow : MethodName := ⟨"EarleyChart$ItemSets", "grow", "(I)V"⟩
abbrev bE_isVariable : ByteArray := prog_1_method_21_code
abbrev yE_isVariable : MethodName := ⟨"EarleyChart", "isVariable", "(I)Z"⟩
abbrev bS_originsIn : ByteArray := prog_4_method_12_code
abbrev yS_originsIn : MethodName := ⟨"EarleyChart$ItemSets", "originsIn", "(II)I"⟩
abbrev bT_fillStretch : ByteArray := prog_5_method_6_code
abbrev yT_fillStretch : MethodName := ⟨"EarleyChart$StepTable", "fillStretch", "(II)V"⟩
abbrev bT_stretch : ByteArray := prog_5_method_7_code
abbrev yT_stretch : MethodName := ⟨"EarleyChart$StepTable", "stretch", "(II)I"⟩
abbrev bT_lower : ByteArray := prog_5_method_8_code
abbrev yT_lower : MethodName := ⟨"EarleyChart$StepTable", "lower", "(II)Z"⟩
abbrev bT_leastOfRow : ByteArray := prog_5_method_9_code
abbrev yT_leastOfRow : MethodName := ⟨"EarleyChart$StepTable", "leastOfRow", "(III)I"⟩
abbrev bT_ofSplitRow : ByteArray := prog_5_method_4_code
abbrev yT_ofSplitRow : MethodName := ⟨"EarleyChart$StepTable", "ofSplitRow", "(IIII)I"⟩
abbrev bT_ofSymbol : ByteArray := prog_5_method_2_code
abbrev yT_ofSymbol : MethodName := ⟨"EarleyChart$StepTable", "ofSymbol", "(III)I"⟩
abbrev bI_isJust : ByteArray := prog_3_method_3_code
abbrev yI_isJust : MethodName := ⟨"EarleyChart$Input", "isJust", "(III)Z"⟩
abbrev bT_ofRow : ByteArray := prog_5_method_3_code
abbrev yT_ofRow : MethodName := ⟨"EarleyChart$StepTable", "ofRow", "(III)I"⟩
abbrev bT_isFewer : ByteArray := prog_5_method_10_code
abbrev yT_isFewer : MethodName := ⟨"EarleyChart$StepTable", "isFewer", "(II)Z"⟩
abbrev bG_dotAt : ByteArray := prog_2_method_9_code
abbrev yG_dotAt : MethodName := ⟨"EarleyChart$Grammar", "dotAt", "(I)I"⟩
abbrev bE_alive : ByteArray := prog_1_method_5_code
abbrev yE_alive : MethodName := ⟨"EarleyChart", "alive", "()Z"⟩
abbrev bE_accepts : ByteArray := prog_1_method_6_code
abbrev yE_accepts : MethodName := ⟨"EarleyChart", "accepts", "()Z"⟩
abbrev bS_holdWholeStart : ByteArray := prog_4_method_5_code
abbrev yS_holdWholeStart : MethodName := ⟨"EarleyChart$ItemSets", "holdWholeStart", "(I)Z"⟩
abbrev bE_witCount : ByteArray := prog_1_method_8_code
abbrev yE_witCount : MethodName := ⟨"EarleyChart", "witCount", "()I"⟩
abbrev bE_clear : ByteArray := prog_1_method_10_code
abbrev yE_clear : MethodName := ⟨"EarleyChart", "clear", "()I"⟩
abbrev bE_erase : ByteArray := prog_1_method_11_code
abbrev yE_erase : MethodName := ⟨"EarleyChart", "erase", "()I"⟩
abbrev bG_forget : ByteArray := prog_2_method_10_code
abbrev yG_forget : MethodName := ⟨"EarleyChart$Grammar", "forget", "()V"⟩
abbrev bE_fed : ByteArray := prog_1_method_16_code
abbrev yE_fed : MethodName := ⟨"EarleyChart", "fed", "()I"⟩
abbrev bL_cell : ByteArray := method_2_code
abbrev yL_cell : MethodName := ⟨"EarleyChartLaw", "cell", "([II)I"⟩
abbrev bL_addProd : ByteArray := method_3_code
abbrev yL_addProd : MethodName := ⟨"EarleyChartLaw", "addProd", "(LEarleyChart;I[J)I"⟩
abbrev bE_addProd : ByteArray := prog_1_method_2_code
abbrev yE_addProd : MethodName := ⟨"EarleyChart", "addProd", "(I)I"⟩
abbrev bE_hasVariable : ByteArray := prog_1_method_17_code
abbrev yE_hasVariable : MethodName := ⟨"EarleyChart", "hasVariable", "(I)Z"⟩
abbrev bG_openProduction : ByteArray := prog_2_method_5_code
abbrev yG_openProduction : MethodName := ⟨"EarleyChart$Grammar", "openProduction", "(I)V"⟩
abbrev bG_openSlot : ByteArray := prog_2_method_7_code
abbrev yG_openSlot : MethodName := ⟨"EarleyChart$Grammar", "openSlot", "()V"⟩
abbrev bL_addRhs : ByteArray := method_4_code
abbrev yL_addRhs : MethodName := ⟨"EarleyChartLaw", "addRhs", "(LEarleyChart;I[J)I"⟩
abbrev bE_addRhs : ByteArray := prog_1_method_3_code
abbrev yE_addRhs : MethodName := ⟨"EarleyChart", "addRhs", "(I)I"⟩
abbrev bG_hasRoomForSymbol : ByteArray := prog_2_method_4_code
abbrev yG_hasRoomForSymbol : MethodName := ⟨"EarleyChart$Grammar", "hasRoomForSymbol", "()Z"⟩
abbrev bG_lastLength : ByteArray := prog_2_method_3_code
abbrev yG_lastLength : MethodName := ⟨"EarleyChart$Grammar", "lastLength", "()I"⟩
abbrev bE_hasToken : ByteArray := prog_1_method_18_code
abbrev yE_hasToken : MethodName := ⟨"EarleyChart", "hasToken", "(I)Z"⟩
abbrev bG_appendSymbol : ByteArray := prog_2_method_6_code
abbrev yG_appendSymbol : MethodName := ⟨"EarleyChart$Grammar", "appendSymbol", "(I)V"⟩
abbrev bL_feed : ByteArray := method_5_code
abbrev yL_feed : MethodName := ⟨"EarleyChartLaw", "feed", "(LEarleyChart;I[J)I"⟩
abbrev bE_feed : ByteArray := prog_1_method_4_code
abbrev yE_feed : MethodName := ⟨"EarleyChart", "feed", "(I)I"⟩
abbrev bI_append : ByteArray := prog_3_method_2_code
abbrev yI_append : MethodName := ⟨"EarleyChart$Input", "append", "(I)V"⟩
abbrev bS_makeNext : ByteArray := prog_4_method_3_code
abbrev yS_makeNext : MethodName := ⟨"EarleyChart$ItemSets", "makeNext", "(II)V"⟩
abbrev bT_fillUpTo : ByteArray := prog_5_method_5_code
abbrev yT_fillUpTo : MethodName := ⟨"EarleyChart$StepTable", "fillUpTo", "(I)V"⟩
abbrev bL_extract : ByteArray := method_6_code
abbrev yL_extract : MethodName := ⟨"EarleyChartLaw", "extract", "(LEarleyChart;[J)I"⟩
abbrev bE_extract : ByteArray := prog_1_method_7_code
abbrev yE_extract : MethodName := ⟨"EarleyChart", "extract", "()I"⟩
abbrev bW_tell : ByteArray := prog_6_method_3_code
abbrev yW_tell : MethodName := ⟨"EarleyChart$Witness", "tell", "(II)V"⟩
abbrev bW_open : ByteArray := prog_6_method_4_code
abbrev yW_open : MethodName := ⟨"EarleyChart$Witness", "open", "(III)V"⟩
abbrev bW_lowestProduction : ByteArray := prog_6_method_6_code
abbrev yW_lowestProduction : MethodName := ⟨"EarleyChart$Witness", "lowestProduction", "(III)I"⟩
abbrev bW_goOn : ByteArray := prog_6_method_5_code
abbrev yW_goOn : MethodName := ⟨"EarleyChart$Witness", "goOn", "()V"⟩
abbrev bW_shortestEnd : ByteArray := prog_6_method_7_code
abbrev yW_shortestEnd : MethodName := ⟨"EarleyChart$Witness", "shortestEnd", "(III)I"⟩
abbrev bL_wit : ByteArray := method_7_code
abbrev yL_wit : MethodName := ⟨"EarleyChartLaw", "wit", "(LEarleyChart;I[J)I"⟩
abbrev bE_wit : ByteArray := prog_1_method_9_code
abbrev yE_wit : MethodName := ⟨"EarleyChart", "wit", "(I)I"⟩
abbrev bL_items : ByteArray := method_8_code
abbrev yL_items : MethodName := ⟨"EarleyChartLaw", "items", "(LEarleyChart;I[J)I"⟩
abbrev bE_items : ByteArray := prog_1_method_12_code
abbrev yE_items : MethodName := ⟨"EarleyChart", "items", "(I)I"⟩
abbrev bE_hasSet : ByteArray := prog_1_method_19_code
abbrev yE_hasSet : MethodName := ⟨"EarleyChart", "hasSet", "(I)Z"⟩
abbrev bL_item : ByteArray := method_9_code
abbrev yL_item : MethodName := ⟨"EarleyChartLaw", "item", "(LEarleyChart;II[J)I"⟩
abbrev bE_item : ByteArray := prog_1_method_13_code
abbrev yE_item : MethodName := ⟨"EarleyChart", "item", "(II)I"⟩
abbrev bS_codeOf : ByteArray := prog_4_method_6_code
abbrev yS_codeOf : MethodName := ⟨"EarleyChart$ItemSets", "codeOf", "(II)I"⟩
abbrev bS_originAt : ByteArray := prog_4_method_7_code
abbrev yS_originAt : MethodName := ⟨"EarleyChart$ItemSets", "originAt", "(II)I"⟩
abbrev bL_steps : ByteArray := method_10_code
abbrev yL_steps : MethodName := ⟨"EarleyChartLaw", "steps", "(LEarleyChart;III[J)I"⟩
abbrev bE_steps : ByteArray := prog_1_method_14_code
abbrev yE_steps : MethodName := ⟨"EarleyChart", "steps", "(III)I"⟩
abbrev bL_nullable : ByteArray := method_11_code
abbrev yL_nullable : MethodName := ⟨"EarleyChartLaw", "nullable", "(LEarleyChart;I[J)I"⟩
abbrev bE_nullable : ByteArray := prog_1_method_15_code
abbrev yE_nullable : MethodName := ⟨"EarleyChart", "nullable", "(I)Z"⟩
abbrev bM_init : ByteArray := prog_8_method_1_code
abbrev yM_init : MethodName := ⟨"EarleyChartModel", "<init>", "(II)V"⟩
abbrev bM_thrown : ByteArray := prog_8_method_2_code
abbrev yM_thrown : MethodName := ⟨"EarleyChartModel", "thrown", "()I"⟩
abbrev bM_addProd : ByteArray := prog_8_method_8_code
abbrev yM_addProd : MethodName := ⟨"EarleyChartModel", "addProd", "(I)I"⟩
abbrev bM_isVariable : ByteArray := prog_8_method_3_code
abbrev yM_isVariable : MethodName := ⟨"EarleyChartModel", "isVariable", "(I)Z"⟩
abbrev bM_throwsBy : ByteArray := prog_8_method_5_code
abbrev yM_throwsBy : MethodName := ⟨"EarleyChartModel", "throwsBy", "(I)Z"⟩
abbrev bM_grammarChanged : ByteArray := prog_8_method_7_code
abbrev yM_grammarChanged : MethodName := ⟨"EarleyChartModel", "grammarChanged", "()V"⟩
abbrev bM_fill : ByteArray := prog_8_method_14_code
abbrev yM_fill : MethodName := ⟨"EarleyChartModel", "fill", "(I)V"⟩
abbrev bM_put : ByteArray := prog_8_method_10_code
abbrev yM_put : MethodName := ⟨"EarleyChartModel", "put", "(IIII)V"⟩
abbrev bM_behind : ByteArray := prog_8_method_12_code
abbrev yM_behind : MethodName := ⟨"EarleyChartModel", "behind", "(II)I"⟩
abbrev bM_isIn : ByteArray := prog_8_method_11_code
abbrev yM_isIn : MethodName := ⟨"EarleyChartModel", "isIn", "(IIII)Z"⟩
abbrev bM_bring : ByteArray := prog_8_method_13_code
abbrev yM_bring : MethodName := ⟨"EarleyChartModel", "bring", "(IIII)V"⟩
abbrev bM_addRhs : ByteArray := prog_8_method_9_code
abbrev yM_addRhs : MethodName := ⟨"EarleyChartModel", "addRhs", "(I)I"⟩
abbrev bM_allLengths : ByteArray := prog_8_method_6_code
abbrev yM_allLengths : MethodName := ⟨"EarleyChartModel", "allLengths", "()I"⟩
abbrev bM_isToken : ByteArray := prog_8_method_4_code
abbrev yM_isToken : MethodName := ⟨"EarleyChartModel", "isToken", "(I)Z"⟩
abbrev bM_feed : ByteArray := prog_8_method_16_code
abbrev yM_feed : MethodName := ⟨"EarleyChartModel", "feed", "(I)I"⟩
abbrev bM_sizeOf : ByteArray := prog_8_method_15_code
abbrev yM_sizeOf : MethodName := ⟨"EarleyChartModel", "sizeOf", "(I)I"⟩
abbrev bM_alive : ByteArray := prog_8_method_17_code
abbrev yM_alive : MethodName := ⟨"EarleyChartModel", "alive", "()Z"⟩
abbrev bM_accepts : ByteArray := prog_8_method_19_code
abbrev yM_accepts : MethodName := ⟨"EarleyChartModel", "accepts", "()Z"⟩
abbrev bM_isAccepted : ByteArray := prog_8_method_18_code
abbrev yM_isAccepted : MethodName := ⟨"EarleyChartModel", "isAccepted", "()Z"⟩
abbrev bM_steps : ByteArray := prog_8_method_23_code
abbrev yM_steps : MethodName := ⟨"EarleyChartModel", "steps", "(III)I"⟩
abbrev bM_work : ByteArray := prog_8_method_22_code
abbrev yM_work : MethodName := ⟨"EarleyChartModel", "work", "()V"⟩
abbrev bM_row : ByteArray := prog_8_method_21_code
abbrev yM_row : MethodName := ⟨"EarleyChartModel", "row", "(II)V"⟩
abbrev bM_stepsOf : ByteArray := prog_8_method_20_code
abbrev yM_stepsOf : MethodName := ⟨"EarleyChartModel", "stepsOf", "(III)I"⟩
abbrev bM_nullable : ByteArray := prog_8_method_24_code
abbrev yM_nullable : MethodName := ⟨"EarleyChartModel", "nullable", "(I)Z"⟩
abbrev bM_extract : ByteArray := prog_8_method_26_code
abbrev yM_extract : MethodName := ⟨"EarleyChartModel", "extract", "()I"⟩
abbrev bM_choose : ByteArray := prog_8_method_25_code
abbrev yM_choose : MethodName := ⟨"EarleyChartModel", "choose", "(III)I"⟩
abbrev bM_witCount : ByteArray := prog_8_method_27_code
abbrev yM_witCount : MethodName := ⟨"EarleyChartModel", "witCount", "()I"⟩
abbrev bM_wit : ByteArray := prog_8_method_28_code
abbrev yM_wit : MethodName := ⟨"EarleyChartModel", "wit", "(I)I"⟩
abbrev bM_clear : ByteArray := prog_8_method_29_code
abbrev yM_clear : MethodName := ⟨"EarleyChartModel", "clear", "()I"⟩
abbrev bM_erase : ByteArray := prog_8_method_30_code
abbrev yM_erase : MethodName := ⟨"EarleyChartModel", "erase", "()I"⟩
abbrev bM_items : ByteArray := prog_8_method_31_code
abbrev yM_items : MethodName := ⟨"EarleyChartModel", "items", "(I)I"⟩
abbrev bM_item : ByteArray := prog_8_method_32_code
abbrev yM_item : MethodName := ⟨"EarleyChartModel", "item", "(II)I"⟩
abbrev bM_fed : ByteArray := prog_8_method_33_code
abbrev yM_fed : MethodName := ⟨"EarleyChartModel", "fed", "()I"⟩
abbrev bL_law : ByteArray := code
abbrev yL_law : MethodName := ⟨"EarleyChartLaw", "law", "([I)Z"⟩
