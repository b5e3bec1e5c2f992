def xR_N : String := "NailRules"
def xF_N : u_T := fun k => match k with
  | 0 => ("NailRules", "text", "LNailRules$Text;", true)
  | 1 => ("NailRules", "rules", "[I", true)
  | 2 => ("NailRules", "wet", "I", false)
  | 3 => ("NailRules", "less", "I", false)
  | 4 => ("NailRules", "patternX", "[I", true)
  | 5 => ("NailRules", "patternY", "[I", true)
  | 6 => ("NailRules", "patternCount", "I", false)
  | 7 => ("NailRules", "placeX", "[I", true)
  | 8 => ("NailRules", "placeY", "[I", true)
  | 9 => ("NailRules", "placeCount", "I", false)
  | _ => ("NailRules", "members", "Ljava/util/ArrayList;", true)
def xt_N : Nat → FieldType := fun k => match k with
  | 0 => .object "NailRules$Text"
  | 1 => .array .int
  | 2 => .int
  | 3 => .int
  | 4 => .array .int
  | 5 => .array .int
  | 6 => .int
  | 7 => .array .int
  | 8 => .array .int
  | 9 => .int
  | _ => .object "java/util/ArrayList"
theorem xn_N : ∀ a, a < 11 → ∀ b, b < 11 → a ≠ b → (xF_N a).2.1 ≠ (xF_N b).2.1 := by decide +kernel
theorem xt_N_ok : ∀ k, k < 11 → parseFieldDescriptor (xF_N k).2.2.1 = some (xt_N k) := by decide +kernel
def xR_T : String := "NailRules$Text"
def xF_T : u_T := fun k => match k with
  | 0 => ("NailRules$Text", "units", "[C", true)
  | 1 => ("NailRules$Text", "length", "I", false)
  | _ => ("NailRules$Text", "next", "I", false)
def xt_T : Nat → FieldType := fun k => match k with
  | 0 => .array .char
  | 1 => .int
  | _ => .int
theorem xn_T : ∀ a, a < 3 → ∀ b, b < 3 → a ≠ b → (xF_T a).2.1 ≠ (xF_T b).2.1 := by decide +kernel
theorem xt_T_ok : ∀ k, k < 3 → parseFieldDescriptor (xF_T k).2.2.1 = some (xt_T k) := by decide +kernel
def xR_M : String := "NailRules$Member"
def xF_M : u_T := fun k => match k with
  | 0 => ("NailRules$Member", "x0", "J", true)
  | 1 => ("NailRules$Member", "y0", "J", true)
  | 2 => ("NailRules$Member", "alongX", "J", true)
  | 3 => ("NailRules$Member", "alongY", "J", true)
  | _ => ("NailRules$Member", "wide", "J", true)
def xt_M : Nat → FieldType := fun k => match k with
  | 0 => .long
  | 1 => .long
  | 2 => .long
  | 3 => .long
  | _ => .long
theorem xn_M : ∀ a, a < 5 → ∀ b, b < 5 → a ≠ b → (xF_M a).2.1 ≠ (xF_M b).2.1 := by decide +kernel
theorem xt_M_ok : ∀ k, k < 5 → parseFieldDescriptor (xF_M k).2.2.1 = some (xt_M k) := by decide +kernel
def xR_R : String := "NailRulesModel"
def xF_R : u_T := fun k => match k with
  | 0 => ("NailRulesModel", "thrown", "I", false)
  | 1 => ("NailRulesModel", "text", "[I", true)
  | 2 => ("NailRulesModel", "size", "I", false)
  | 3 => ("NailRulesModel", "at", "I", false)
  | 4 => ("NailRulesModel", "fault", "I", false)
  | 5 => ("NailRulesModel", "draft", "[I", true)
  | 6 => ("NailRulesModel", "rules", "[I", true)
  | 7 => ("NailRulesModel", "letters", "[I", true)
  | 8 => ("NailRulesModel", "wet", "J", false)
  | 9 => ("NailRulesModel", "less", "J", false)
  | 10 => ("NailRulesModel", "patternKind", "I", false)
  | 11 => ("NailRulesModel", "patternMany", "I", false)
  | 12 => ("NailRulesModel", "columns", "I", false)
  | 13 => ("NailRulesModel", "patternAt", "[I", true)
  | 14 => ("NailRulesModel", "places", "I", false)
  | 15 => ("NailRulesModel", "xs", "[I", true)
  | 16 => ("NailRulesModel", "ys", "[I", true)
  | 17 => ("NailRulesModel", "members", "I", false)
  | 18 => ("NailRulesModel", "ends", "[I", true)
  | _ => ("NailRulesModel", "wides", "[I", true)
def xt_R : Nat → FieldType := fun k => match k with
  | 0 => .int
  | 1 => .array .int
  | 2 => .int
  | 3 => .int
  | 4 => .int
  | 5 => .array .int
  | 6 => .array .int
  | 7 => .array .int
  | 8 => .long
  | 9 => .long
  | 10 => .int
  | 11 => .int
  | 12 => .int
  | 13 => .array .int
  | 14 => .int
  | 15 => .array .int
  | 16 => .array .int
  | 17 => .int
  | 18 => .array .int
  | _ => .array .int
theorem xn_R : ∀ a, a < 20 → ∀ b, b < 20 → a ≠ b → (xF_R a).2.1 ≠ (xF_R b).2.1 := by decide +kernel
theorem xt_R_ok : ∀ k, k < 20 → parseFieldDescriptor (xF_R k).2.2.1 = some (xt_R k) := by decide +kernel
def xR_A : String := "java/util/ArrayList"
def xF_A : u_T := fun k => match k with
  | 0 => ("java/util/ArrayList", "elementData", "[Ljava/lang/Object;", false)
  | 1 => ("java/util/ArrayList", "size", "I", false)
  | _ => ("java/util/AbstractList", "modCount", "I", false)
def xt_A : Nat → FieldType := fun k => match k with
  | 0 => .array (.object "java/lang/Object")
  | 1 => .int
  | _ => .int
theorem xn_A : ∀ a, a < 3 → ∀ b, b < 3 → a ≠ b → (xF_A a).2.1 ≠ (xF_A b).2.1 := by decide +kernel
theorem xt_A_ok : ∀ k, k < 3 → parseFieldDescriptor (xF_A k).2.2.1 = some (xt_A k) := by decide +kernel
abbrev classes : List vw_C := [(xR_N, xF_N, 11), (xR_T, xF_T, 3), (xR_M, xF_M, 5), (xR_R, xF_R, 20), (xR_A, xF_A, 3)]
abbrev bN_init : ByteArray := prog_1_method_1_code
abbrev yN_init : MethodName := ⟨"NailRules", "<init>", "()V"⟩
abbrev bN_unit : ByteArray := prog_1_method_2_code
abbrev yN_unit : MethodName := ⟨"NailRules", "unit", "(I)Z"⟩
abbrev bN_read : ByteArray := prog_1_method_3_code
abbrev yN_read : MethodName := ⟨"NailRules", "read", "()I"⟩
abbrev bN_rule : ByteArray := prog_1_method_4_code
abbrev yN_rule : MethodName := ⟨"NailRules", "rule", "(II)I"⟩
abbrev bN_set : ByteArray := prog_1_method_5_code
abbrev yN_set : MethodName := ⟨"NailRules", "set", "(II)V"⟩
abbrev bN_holds : ByteArray := prog_1_method_6_code
abbrev yN_holds : MethodName := ⟨"NailRules", "holds", "(IIIII)J"⟩
abbrev bN_together : ByteArray := prog_1_method_7_code
abbrev yN_together : MethodName := ⟨"NailRules", "together", "(IJ)J"⟩
abbrev bN_count : ByteArray := prog_1_method_8_code
abbrev yN_count : MethodName := ⟨"NailRules", "count", "(JJ)I"⟩
abbrev bN_pattern : ByteArray := prog_1_method_9_code
abbrev yN_pattern : MethodName := ⟨"NailRules", "pattern", "(IIII)Z"⟩
abbrev bN_at : ByteArray := prog_1_method_10_code
abbrev yN_at : MethodName := ⟨"NailRules", "at", "(II)I"⟩
abbrev bN_place : ByteArray := prog_1_method_11_code
abbrev yN_place : MethodName := ⟨"NailRules", "place", "(II)I"⟩
abbrev bN_clear : ByteArray := prog_1_method_12_code
abbrev yN_clear : MethodName := ⟨"NailRules", "clear", "()V"⟩
abbrev bN_keeps : ByteArray := prog_1_method_13_code
abbrev yN_keeps : MethodName := ⟨"NailRules", "keeps", "(III)I"⟩
abbrev bN_member : ByteArray := prog_1_method_14_code
abbrev yN_member : MethodName := ⟨"NailRules", "member", "(IIIII)I"⟩
abbrev bN_in : ByteArray := prog_1_method_15_code
abbrev yN_in : MethodName := ⟨"NailRules", "in", "(III)Z"⟩
abbrev bN_teeth : ByteArray := prog_1_method_16_code
abbrev yN_teeth : MethodName := ⟨"NailRules", "teeth", "(IIIIII)I"⟩
abbrev bN_thick : ByteArray := prog_1_method_17_code
abbrev yN_thick : MethodName := ⟨"NailRules", "thick", "(II)Z"⟩
abbrev bN_hole : ByteArray := prog_1_method_18_code
abbrev yN_hole : MethodName := ⟨"NailRules", "hole", "(I)I"⟩
abbrev bN_requireIndex : ByteArray := prog_1_method_19_code
abbrev yN_requireIndex : MethodName := ⟨"NailRules", "requireIndex", "(II)V"⟩
abbrev bN_requireWithin : ByteArray := prog_1_method_20_code
abbrev yN_requireWithin : MethodName := ⟨"NailRules", "requireWithin", "(JJJ)V"⟩
abbrev bN_told : ByteArray := prog_1_method_21_code
abbrev yN_told : MethodName := ⟨"NailRules", "told", "(II)I"⟩
abbrev bN_space : ByteArray := prog_1_method_22_code
abbrev yN_space : MethodName := ⟨"NailRules", "space", "(II)I"⟩
abbrev bN_readStatements : ByteArray := prog_1_method_23_code
abbrev yN_readStatements : MethodName := ⟨"NailRules", "readStatements", "()I"⟩
abbrev bN_readStatement : ByteArray := prog_1_method_24_code
abbrev yN_readStatement : MethodName := ⟨"NailRules", "readStatement", "()Z"⟩
abbrev bN_leastFormula : ByteArray := prog_1_method_25_code
abbrev yN_leastFormula : MethodName := ⟨"NailRules", "leastFormula", "(III)I"⟩
abbrev bN_formula : ByteArray := prog_1_method_26_code
abbrev yN_formula : MethodName := ⟨"NailRules", "formula", "(IIII)J"⟩
abbrev bN_heldByRow : ByteArray := prog_1_method_27_code
abbrev yN_heldByRow : MethodName := ⟨"NailRules", "heldByRow", "(IJ)J"⟩
abbrev bN_fitting : ByteArray := prog_1_method_28_code
abbrev yN_fitting : MethodName := ⟨"NailRules", "fitting", "(III)I"⟩
abbrev bN_layOut : ByteArray := prog_1_method_29_code
abbrev yN_layOut : MethodName := ⟨"NailRules", "layOut", "(III)V"⟩
abbrev bN_firstNearSide : ByteArray := prog_1_method_30_code
abbrev yN_firstNearSide : MethodName := ⟨"NailRules", "firstNearSide", "(III)I"⟩
abbrev bN_firstNearPair : ByteArray := prog_1_method_31_code
abbrev yN_firstNearPair : MethodName := ⟨"NailRules", "firstNearPair", "(J)I"⟩
abbrev bN_squareBetween : ByteArray := prog_1_method_32_code
abbrev yN_squareBetween : MethodName := ⟨"NailRules", "squareBetween", "(II)J"⟩
abbrev bN_wordOf : ByteArray := prog_1_method_33_code
abbrev yN_wordOf : MethodName := ⟨"NailRules", "wordOf", "(I)Ljava/lang/String;"⟩
abbrev bT_init : ByteArray := prog_3_method_1_code
abbrev yT_init : MethodName := ⟨"NailRules$Text", "<init>", "()V"⟩
abbrev bT_append : ByteArray := prog_3_method_2_code
abbrev yT_append : MethodName := ⟨"NailRules$Text", "append", "(I)Z"⟩
abbrev bT_empty : ByteArray := prog_3_method_3_code
abbrev yT_empty : MethodName := ⟨"NailRules$Text", "empty", "()V"⟩
abbrev bT_rewind : ByteArray := prog_3_method_4_code
abbrev yT_rewind : MethodName := ⟨"NailRules$Text", "rewind", "()V"⟩
abbrev bT_ended : ByteArray := prog_3_method_5_code
abbrev yT_ended : MethodName := ⟨"NailRules$Text", "ended", "()Z"⟩
abbrev bT_fault : ByteArray := prog_3_method_6_code
abbrev yT_fault : MethodName := ⟨"NailRules$Text", "fault", "()I"⟩
abbrev bT_look : ByteArray := prog_3_method_7_code
abbrev yT_look : MethodName := ⟨"NailRules$Text", "look", "(I)I"⟩
abbrev bT_take : ByteArray := prog_3_method_8_code
abbrev yT_take : MethodName := ⟨"NailRules$Text", "take", "(C)Z"⟩
abbrev bT_takeKind : ByteArray := prog_3_method_9_code
abbrev yT_takeKind : MethodName := ⟨"NailRules$Text", "takeKind", "()I"⟩
abbrev bT_kindOf : ByteArray := prog_3_method_10_code
abbrev yT_kindOf : MethodName := ⟨"NailRules$Text", "kindOf", "(I)I"⟩
abbrev bT_takeWord : ByteArray := prog_3_method_11_code
abbrev yT_takeWord : MethodName := ⟨"NailRules$Text", "takeWord", "()I"⟩
abbrev bT_unitsAlike : ByteArray := prog_3_method_12_code
abbrev yT_unitsAlike : MethodName := ⟨"NailRules$Text", "unitsAlike", "(Ljava/lang/String;)I"⟩
abbrev bT_takeNumber : ByteArray := prog_3_method_13_code
abbrev yT_takeNumber : MethodName := ⟨"NailRules$Text", "takeNumber", "()I"⟩
abbrev bT_isDigit : ByteArray := prog_3_method_14_code
abbrev yT_isDigit : MethodName := ⟨"NailRules$Text", "isDigit", "(I)Z"⟩
abbrev bM_init : ByteArray := prog_2_method_1_code
abbrev yM_init : MethodName := ⟨"NailRules$Member", "<init>", "(IIIII)V"⟩
abbrev bM_grips : ByteArray := prog_2_method_2_code
abbrev yM_grips : MethodName := ⟨"NailRules$Member", "grips", "(II)Z"⟩
abbrev bR_init : ByteArray := prog_5_method_1_code
abbrev yR_init : MethodName := ⟨"NailRulesModel", "<init>", "()V"⟩
abbrev bR_isIn : ByteArray := prog_5_method_3_code
abbrev yR_isIn : MethodName := ⟨"NailRulesModel", "isIn", "(JJJ)Z"⟩
abbrev bR_isFour : ByteArray := prog_5_method_4_code
abbrev yR_isFour : MethodName := ⟨"NailRulesModel", "isFour", "(I)Z"⟩
abbrev bR_unit : ByteArray := prog_5_method_5_code
abbrev yR_unit : MethodName := ⟨"NailRulesModel", "unit", "(I)Z"⟩
abbrev bR_now : ByteArray := prog_5_method_6_code
abbrev yR_now : MethodName := ⟨"NailRulesModel", "now", "()I"⟩
abbrev bR_must : ByteArray := prog_5_method_7_code
abbrev yR_must : MethodName := ⟨"NailRulesModel", "must", "(Z)V"⟩
abbrev bR_kindOf : ByteArray := prog_5_method_8_code
abbrev yR_kindOf : MethodName := ⟨"NailRulesModel", "kindOf", "(I)I"⟩
abbrev bR_may : ByteArray := prog_5_method_9_code
abbrev yR_may : MethodName := ⟨"NailRulesModel", "may", "(III)Z"⟩
abbrev bR_whole : ByteArray := prog_5_method_10_code
abbrev yR_whole : MethodName := ⟨"NailRulesModel", "whole", "(I)I"⟩
abbrev bR_word : ByteArray := prog_5_method_11_code
abbrev yR_word : MethodName := ⟨"NailRulesModel", "word", "()I"⟩
abbrev bR_isDigit : ByteArray := prog_5_method_12_code
abbrev yR_isDigit : MethodName := ⟨"NailRulesModel", "isDigit", "()Z"⟩
abbrev bR_number : ByteArray := prog_5_method_13_code
abbrev yR_number : MethodName := ⟨"NailRulesModel", "number", "()I"⟩
abbrev bR_read : ByteArray := prog_5_method_14_code
abbrev yR_read : MethodName := ⟨"NailRulesModel", "read", "()I"⟩
abbrev bR_rule : ByteArray := prog_5_method_15_code
abbrev yR_rule : MethodName := ⟨"NailRulesModel", "rule", "(II)I"⟩
abbrev bR_set : ByteArray := prog_5_method_16_code
abbrev yR_set : MethodName := ⟨"NailRulesModel", "set", "(II)V"⟩
abbrev bR_formula : ByteArray := prog_5_method_17_code
abbrev yR_formula : MethodName := ⟨"NailRulesModel", "formula", "(IIJJ)J"⟩
abbrev bR_holds : ByteArray := prog_5_method_18_code
abbrev yR_holds : MethodName := ⟨"NailRulesModel", "holds", "(IIIII)J"⟩
abbrev bR_all : ByteArray := prog_5_method_19_code
abbrev yR_all : MethodName := ⟨"NailRulesModel", "all", "(JJ)J"⟩
abbrev bR_together : ByteArray := prog_5_method_20_code
abbrev yR_together : MethodName := ⟨"NailRulesModel", "together", "(IJ)J"⟩
abbrev bR_count : ByteArray := prog_5_method_21_code
abbrev yR_count : MethodName := ⟨"NailRulesModel", "count", "(JJ)I"⟩
abbrev bR_space : ByteArray := prog_5_method_22_code
abbrev yR_space : MethodName := ⟨"NailRulesModel", "space", "(II)J"⟩
abbrev bR_fits : ByteArray := prog_5_method_23_code
abbrev yR_fits : MethodName := ⟨"NailRulesModel", "fits", "(JJJ)J"⟩
abbrev bR_pattern : ByteArray := prog_5_method_24_code
abbrev yR_pattern : MethodName := ⟨"NailRulesModel", "pattern", "(IIII)Z"⟩
abbrev bR_at : ByteArray := prog_5_method_25_code
abbrev yR_at : MethodName := ⟨"NailRulesModel", "at", "(II)I"⟩
abbrev bR_place : ByteArray := prog_5_method_26_code
abbrev yR_place : MethodName := ⟨"NailRulesModel", "place", "(II)I"⟩
abbrev bR_clear : ByteArray := prog_5_method_27_code
abbrev yR_clear : MethodName := ⟨"NailRulesModel", "clear", "()V"⟩
abbrev bR_keeps : ByteArray := prog_5_method_28_code
abbrev yR_keeps : MethodName := ⟨"NailRulesModel", "keeps", "(III)I"⟩
abbrev bR_isPlace : ByteArray := prog_5_method_29_code
abbrev yR_isPlace : MethodName := ⟨"NailRulesModel", "isPlace", "(I)Z"⟩
abbrev bR_member : ByteArray := prog_5_method_30_code
abbrev yR_member : MethodName := ⟨"NailRulesModel", "member", "(IIIII)I"⟩
abbrev bR_isWithin : ByteArray := prog_5_method_31_code
abbrev yR_isWithin : MethodName := ⟨"NailRulesModel", "isWithin", "(IJJ)Z"⟩
abbrev bR_noMember : ByteArray := prog_5_method_32_code
abbrev yR_noMember : MethodName := ⟨"NailRulesModel", "noMember", "(I)Z"⟩
abbrev bR_in : ByteArray := prog_5_method_33_code
abbrev yR_in : MethodName := ⟨"NailRulesModel", "in", "(III)Z"⟩
abbrev bR_teeth : ByteArray := prog_5_method_34_code
abbrev yR_teeth : MethodName := ⟨"NailRulesModel", "teeth", "(IIIIII)I"⟩
abbrev bR_thick : ByteArray := prog_5_method_35_code
abbrev yR_thick : MethodName := ⟨"NailRulesModel", "thick", "(II)Z"⟩
abbrev bR_hole : ByteArray := prog_5_method_36_code
abbrev yR_hole : MethodName := ⟨"NailRulesModel", "hole", "(I)I"⟩
abbrev bL_rule : ByteArray := method_3_code
abbrev yL_rule : MethodName := ⟨"NailRulesLaw", "rule", "(LNailRules;II[J)I"⟩
abbrev bL_set : ByteArray := method_4_code
abbrev yL_set : MethodName := ⟨"NailRulesLaw", "set", "(LNailRules;II)I"⟩
abbrev bL_holds : ByteArray := method_5_code
abbrev yL_holds : MethodName := ⟨"NailRulesLaw", "holds", "(LNailRules;IIIII[J)I"⟩
abbrev bL_together : ByteArray := method_6_code
abbrev yL_together : MethodName := ⟨"NailRulesLaw", "together", "(LNailRules;IJ[J)I"⟩
abbrev bL_count : ByteArray := method_7_code
abbrev yL_count : MethodName := ⟨"NailRulesLaw", "count", "(LNailRules;JJ[J)I"⟩
abbrev bL_pattern : ByteArray := method_8_code
abbrev yL_pattern : MethodName := ⟨"NailRulesLaw", "pattern", "(LNailRules;IIII[J)I"⟩
abbrev bL_at : ByteArray := method_9_code
abbrev yL_at : MethodName := ⟨"NailRulesLaw", "at", "(LNailRules;II[J)I"⟩
abbrev bL_place : ByteArray := method_10_code
abbrev yL_place : MethodName := ⟨"NailRulesLaw", "place", "(LNailRules;II[J)I"⟩
abbrev bL_keeps : ByteArray := method_11_code
abbrev yL_keeps : MethodName := ⟨"NailRulesLaw", "keeps", "(LNailRules;III[J)I"⟩
abbrev bL_member : ByteArray := method_12_code
abbrev yL_member : MethodName := ⟨"NailRulesLaw", "member", "(LNailRules;IIIII[J)I"⟩
abbrev bL_in : ByteArray := method_13_code
abbrev yL_in : MethodName := ⟨"NailRulesLaw", "in", "(LNailRules;III[J)I"⟩
abbrev bL_teeth : ByteArray := method_14_code
abbrev yL_teeth : MethodName := ⟨"NailRulesLaw", "teeth", "(LNailRules;IIIIII[J)I"⟩
abbrev bL_thick : ByteArray := method_15_code
abbrev yL_thick : MethodName := ⟨"NailRulesLaw", "thick", "(LNailRules;II[J)I"⟩
abbrev bL_hole : ByteArray := method_16_code
abbrev yL_hole : MethodName := ⟨"NailRulesLaw", "hole", "(LNailRules;I[J)I"⟩
abbrev bA_init : ByteArray := prog_22_method_2_code
abbrev yA_init : MethodName := ⟨"java/util/ArrayList", "<init>", "()V"⟩
abbrev bA_size : ByteArray := prog_22_method_8_code
abbrev yA_size : MethodName := ⟨"java/util/ArrayList", "size", "()I"⟩
abbrev bA_add : ByteArray := prog_22_method_25_code
abbrev yA_add : MethodName := ⟨"java/util/ArrayList", "add", "(Ljava/lang/Object;)Z"⟩
abbrev bA_addH : ByteArray := prog_22_method_24_code
abbrev yA_addH : MethodName := ⟨"java/util/ArrayList", "add", "(Ljava/lang/Object;[Ljava/lang/Object;I)V"⟩
abbrev bA_grow0 : ByteArray := prog_22_method_7_code
abbrev yA_grow0 : MethodName := ⟨"java/util/ArrayList", "grow", "()[Ljava/lang/Object;"⟩
abbrev bA_grow1 : ByteArray := prog_22_method_6_code
abbrev yA_grow1 : MethodName := ⟨"java/util/ArrayList", "grow", "(I)[Ljava/lang/Object;"⟩
abbrev bA_get : ByteArray := prog_22_method_20_code
abbrev yA_get : MethodName := ⟨"java/util/ArrayList", "get", "(I)Ljava/lang/Object;"⟩
abbrev bA_elementData : ByteArray := prog_22_method_18_code
abbrev yA_elementData : MethodName := ⟨"java/util/ArrayList", "elementData", "(I)Ljava/lang/Object;"⟩
abbrev bAL_init : ByteArray := prog_21_method_1_code
abbrev yAL_init : MethodName := ⟨"java/util/AbstractList", "<init>", "()V"⟩
abbrev bAC_init : ByteArray := prog_20_method_1_code
abbrev yAC_init : MethodName := ⟨"java/util/AbstractCollection", "<init>", "()V"⟩
abbrev bO_checkIndex : ByteArray := prog_26_method_17_code
abbrev yO_checkIndex : MethodName := ⟨"java/util/Objects", "checkIndex", "(II)I"⟩
abbrev bP_checkIndex : ByteArray := prog_30_method_11_code
abbrev yP_checkIndex : MethodName := ⟨"jdk/internal/util/Preconditions", "checkIndex", "(IILjava/util/function/BiFunction;)I"⟩
abbrev bS_length : ByteArray := prog_15_method_54_code
abbrev yS_length : MethodName := ⟨"java/lang/String", "length", "()I"⟩
abbrev bS_coder : ByteArray := prog_15_method_152_code
abbrev yS_coder : MethodName := ⟨"java/lang/String", "coder", "()B"⟩
abbrev bS_charAt : ByteArray := prog_15_method_56_code
abbrev yS_charAt : MethodName := ⟨"java/lang/String", "charAt", "(I)C"⟩
abbrev bS_isLatin1 : ByteArray := prog_15_method_154_code
abbrev yS_isLatin1 : MethodName := ⟨"java/lang/String", "isLatin1", "()Z"⟩
abbrev bS_checkIndex : ByteArray := prog_15_method_155_code
abbrev yS_checkIndex : MethodName := ⟨"java/lang/String", "checkIndex", "(II)V"⟩
abbrev bSL_charAt : ByteArray := prog_16_method_2_code
abbrev ySL_charAt : MethodName := ⟨"java/lang/StringLatin1", "charAt", "([BI)C"⟩
theorem xk_0 : Cond.selects "NailRules$Text" ⟨"NailRules$Text", "append", "(I)Z"⟩ ⟨"NailRules$Text", "append", "(I)Z"⟩ ∈ lw_gd := xb_mem 0 rfl rfl
theorem xk_1 : Cond.selects "NailRules" ⟨"NailRules", "readStatements", "()I"⟩ ⟨"NailRules", "readStatements", "()I"⟩ ∈ lw_gd := xb_mem 1 rfl rfl
theorem xk_2 : Cond.selects "NailRules$Text" ⟨"NailRules$Text", "rewind", "()V"⟩ ⟨"NailRules$Text", "rewind", "()V"⟩ ∈ lw_gd := xb_mem 2 rfl rfl
theorem xk_3 : Cond.selects "NailRules" ⟨"NailRules", "readStatement", "()Z"⟩ ⟨"NailRules", "readStatement", "()Z"⟩ ∈ lw_gd := xb_mem 3 rfl rfl
theorem xk_4 : Cond.selects "NailRules$Text" ⟨"NailRules$Text", "takeKind", "()I"⟩ ⟨"NailRules$Text", "takeKind", "()I"⟩ ∈ lw_gd := xb_mem 4 rfl rfl
theorem xk_5 : Cond.selects "NailRules$Text" ⟨"NailRules$Text", "look", "(I)I"⟩ ⟨"NailRules$Text", "look", "(I)I"⟩ ∈ lw_gd := xb_mem 5 rfl rfl
theorem xk_6 : Cond.selects "NailRules$Text" ⟨"NailRules$Text", "take", "(C)Z"⟩ ⟨"NailRules$Text", "take", "(C)Z"⟩ ∈ lw_gd := xb_mem 6 rfl rfl
theorem xk_7 : Cond.selects "NailRules$Text" ⟨"NailRules$Text", "takeWord", "()I"⟩ ⟨"NailRules$Text", "takeWord", "()I"⟩ ∈ lw_gd := xb_mem 7 rfl rfl
theorem xk_8 : Cond.selects "NailRules$Text" ⟨"NailRules$Text", "unitsAlike", "(Ljava/lang/String;)I"⟩ ⟨"NailRules$Text", "unitsAlike", "(Ljava/lang/String;)I"⟩ ∈ lw_gd := xb_mem 8 rfl rfl
theorem xk_9 : Cond.selects "NailRules$Text" ⟨"NailRules$Text", "takeNumber", "()I"⟩ ⟨"NailRules$Text", "takeNumber", "()I"⟩ ∈ lw_gd := xb_mem 9 rfl rfl
theorem xk_10 : Cond.selects "NailRules$Text" ⟨"NailRules$Text", "fault", "()I"⟩ ⟨"NailRules$Text", "fault", "()I"⟩ ∈ lw_gd := xb_mem 10 rfl rfl
theorem xk_11 : Cond.selects "NailRules$Text" ⟨"NailRules$Text", "ended", "()Z"⟩ ⟨"NailRules$Text", "ended", "()Z"⟩ ∈ lw_gd := xb_mem 11 rfl rfl
theorem xk_12 : Cond.selects "NailRules$Text" ⟨"NailRules$Text", "empty", "()V"⟩ ⟨"NailRules$Text", "empty", "()V"⟩ ∈ lw_gd := xb_mem 12 rfl rfl
theorem xk_14 : Cond.selects "NailRules" ⟨"NailRules", "told", "(II)I"⟩ ⟨"NailRules", "told", "(II)I"⟩ ∈ lw_gd := xb_mem 14 rfl rfl
theorem xk_15 : Cond.selects "NailRules" ⟨"NailRules", "leastFormula", "(III)I"⟩ ⟨"NailRules", "leastFormula", "(III)I"⟩ ∈ lw_gd := xb_mem 15 rfl rfl
theorem xk_16 : Cond.selects "NailRules" ⟨"NailRules", "formula", "(IIII)J"⟩ ⟨"NailRules", "formula", "(IIII)J"⟩ ∈ lw_gd := xb_mem 16 rfl rfl
theorem xk_17 : Cond.selects "NailRules" ⟨"NailRules", "heldByRow", "(IJ)J"⟩ ⟨"NailRules", "heldByRow", "(IJ)J"⟩ ∈ lw_gd := xb_mem 17 rfl rfl
theorem xk_18 : Cond.selects "NailRules" ⟨"NailRules", "space", "(II)I"⟩ ⟨"NailRules", "space", "(II)I"⟩ ∈ lw_gd := xb_mem 18 rfl rfl
theorem xk_19 : Cond.selects "NailRules" ⟨"NailRules", "layOut", "(III)V"⟩ ⟨"NailRules", "layOut", "(III)V"⟩ ∈ lw_gd := xb_mem 19 rfl rfl
theorem xk_20 : Cond.selects "NailRules" ⟨"NailRules", "firstNearSide", "(III)I"⟩ ⟨"NailRules", "firstNearSide", "(III)I"⟩ ∈ lw_gd := xb_mem 20 rfl rfl
theorem xk_21 : Cond.selects "NailRules" ⟨"NailRules", "firstNearPair", "(J)I"⟩ ⟨"NailRules", "firstNearPair", "(J)I"⟩ ∈ lw_gd := xb_mem 21 rfl rfl
theorem xk_22 : Cond.selects "NailRules" ⟨"NailRules", "squareBetween", "(II)J"⟩ ⟨"NailRules", "squareBetween", "(II)J"⟩ ∈ lw_gd := xb_mem 22 rfl rfl
theorem xk_23 : Cond.selects "java/util/ArrayList" ⟨"java/util/ArrayList", "add", "(Ljava/lang/Object;[Ljava/lang/Object;I)V"⟩ ⟨"java/util/ArrayList", "add", "(Ljava/lang/Object;[Ljava/lang/Object;I)V"⟩ ∈ lw_gd := xb_mem 23 rfl rfl
theorem xk_24 : Cond.selects "java/util/ArrayList" ⟨"java/util/ArrayList", "grow", "()[Ljava/lang/Object;"⟩ ⟨"java/util/ArrayList", "grow", "()[Ljava/lang/Object;"⟩ ∈ lw_gd := xb_mem 24 rfl rfl
theorem xk_25 : Cond.selects "java/util/ArrayList" ⟨"java/util/ArrayList", "grow", "(I)[Ljava/lang/Object;"⟩ ⟨"java/util/ArrayList", "grow", "(I)[Ljava/lang/Object;"⟩ ∈ lw_gd := xb_mem 25 rfl rfl
theorem xk_26 : Cond.selects "NailRules$Member" ⟨"NailRules$Member", "grips", "(II)Z"⟩ ⟨"NailRules$Member", "grips", "(II)Z"⟩ ∈ lw_gd := xb_mem 26 rfl rfl
theorem xk_27 : Cond.selects "NailRulesModel" ⟨"NailRulesModel", "now", "()I"⟩ ⟨"NailRulesModel", "now", "()I"⟩ ∈ lw_gd := xb_mem 27 rfl rfl
theorem xk_28 : Cond.selects "NailRulesModel" ⟨"NailRulesModel", "must", "(Z)V"⟩ ⟨"NailRulesModel", "must", "(Z)V"⟩ ∈ lw_gd := xb_mem 28 rfl rfl
theorem xk_29 : Cond.selects "NailRulesModel" ⟨"NailRulesModel", "word", "()I"⟩ ⟨"NailRulesModel", "word", "()I"⟩ ∈ lw_gd := xb_mem 29 rfl rfl
theorem xk_30 : Cond.selects "NailRulesModel" ⟨"NailRulesModel", "whole", "(I)I"⟩ ⟨"NailRulesModel", "whole", "(I)I"⟩ ∈ lw_gd := xb_mem 30 rfl rfl
theorem xk_31 : Cond.selects "NailRulesModel" ⟨"NailRulesModel", "may", "(III)Z"⟩ ⟨"NailRulesModel", "may", "(III)Z"⟩ ∈ lw_gd := xb_mem 31 rfl rfl
theorem xk_32 : Cond.selects "NailRulesModel" ⟨"NailRulesModel", "number", "()I"⟩ ⟨"NailRulesModel", "number", "()I"⟩ ∈ lw_gd := xb_mem 32 rfl rfl
theorem xk_33 : Cond.selects "NailRulesModel" ⟨"NailRulesModel", "isDigit", "()Z"⟩ ⟨"NailRulesModel", "isDigit", "()Z"⟩ ∈ lw_gd := xb_mem 33 rfl rfl
theorem xk_34 : Cond.selects "NailRulesModel" ⟨"NailRulesModel", "formula", "(IIJJ)J"⟩ ⟨"NailRulesModel", "formula", "(IIJJ)J"⟩ ∈ lw_gd := xb_mem 34 rfl rfl
theorem xk_35 : Cond.selects "NailRulesModel" ⟨"NailRulesModel", "all", "(JJ)J"⟩ ⟨"NailRulesModel", "all", "(JJ)J"⟩ ∈ lw_gd := xb_mem 35 rfl rfl
theorem xk_36 : Cond.selects "NailRulesModel" ⟨"NailRulesModel", "space", "(II)J"⟩ ⟨"NailRulesModel", "space", "(II)J"⟩ ∈ lw_gd := xb_mem 36 rfl rfl
theorem xk_37 : Cond.selects "NailRulesModel" ⟨"NailRulesModel", "noMember", "(I)Z"⟩ ⟨"NailRulesModel", "noMember", "(I)Z"⟩ ∈ lw_gd := xb_mem 37 rfl rfl
theorem xk_38 : Cond.selects "NailRulesModel" ⟨"NailRulesModel", "isWithin", "(IJJ)Z"⟩ ⟨"NailRulesModel", "isWithin", "(IJJ)Z"⟩ ∈ lw_gd := xb_mem 38 rfl rfl
set_option maxRecDepth 100000 in
theorem xk_39 : (Jvm.Cond.initialized "NailRulesLaw") ∈ lw_gd := xb_mem 39 rfl rfl
set_option maxRecDepth 100000 in
theorem xk_40 : (Jvm.Cond.initialized "NailRules") ∈ lw_gd := xb_mem 40 rfl rfl
set_option maxRecDepth 100000 in
theorem xk_41 : (Jvm.Cond.initialized "NailRules$Text") ∈ lw_gd := xb_mem 41 rfl rfl
set_option maxRecDepth 100000 in
theorem xk_42 : (Jvm.Cond.initialized "java/util/AbstractCollection") ∈ lw_gd := xb_mem 42 rfl rfl
set_option maxRecDepth 100000 in
theorem xk_43 : (Jvm.Cond.initialized "java/util/AbstractList") ∈ lw_gd := xb_mem 43 rfl rfl
set_option maxRecDepth 100000 in
theorem xk_44 : (Jvm.Cond.initialized "java/util/ArrayList") ∈ lw_gd := xb_mem 44 rfl rfl
set_option maxRecDepth 100000 in
theorem xk_45 : (Jvm.Cond.initialized "NailRulesModel") ∈ lw_gd := xb_mem 45 rfl rfl
set_option maxRecDepth 100000 in
theorem xk_46 : (Jvm.Cond.initialized "java/lang/String") ∈ lw_gd := xb_mem 46 rfl rfl
set_option maxRecDepth 100000 in
theorem xk_47 : (Jvm.Cond.initialized "java/lang/StringLatin1") ∈ lw_gd := xb_mem 47 rfl rfl
set_option maxRecDepth 100000 in
theorem xk_48 : (Jvm.Cond.initialized "jdk/internal/util/Preconditions") ∈ lw_gd := xb_mem 48 rfl rfl
set_option maxRecDepth 100000 in
theorem xk_50 : (Jvm.Cond.initialized "java/lang/Math") ∈ lw_gd := xb_mem 50 rfl rfl
set_option maxRecDepth 100000 in
theorem xk_54 : (Jvm.Cond.initialized "java/lang/IndexOutOfBoundsException") ∈ lw_gd := xb_mem 54 rfl rfl
set_option maxRecDepth 100000 in
theorem xk_55 : (Jvm.Cond.initialized "java/lang/IllegalArgumentException") ∈ lw_gd := xb_mem 55 rfl rfl
set_option maxRecDepth 100000 in
theorem xk_56 : (Jvm.Cond.initialized "java/lang/IllegalStateException") ∈ lw_gd := xb_mem 56 rfl rfl
set_option maxRecDepth 100000 in
theorem xk_57 : (Jvm.Cond.initialized "NailRules$Member") ∈ lw_gd := xb_mem 57 rfl rfl
set_option maxRecDepth 100000 in
theorem xk_61 : (Jvm.Cond.initialized "java/util/Objects") ∈ lw_gd := xb_mem 61 rfl rfl
set_option maxRecDepth 100000 in
theorem xk_62 : (Jvm.Cond.classLink "NailRulesLaw" (8 : Nat) "NailRules") ∈ lw_gd := xb_mem 62 rfl rfl
set_option maxRecDepth 100000 in
theorem xk_63 : (Jvm.Cond.instantiable "NailRules" (11 : Nat)) ∈ lw_gd := xb_mem 63 rfl rfl
set_option maxRecDepth 100000 in
theorem xk_64 : (Jvm.Cond.methodLink "NailRulesLaw" (69 : Nat) ({ cls := "NailRules", name := "<init>", desc := "()V" } : Jvm.MethodName)) ∈ lw_gd := xb_mem 64 rfl rfl
set_option maxRecDepth 100000 in
theorem xk_65 : (Jvm.Cond.instanceMethod ({ cls := "NailRules", name := "<init>", desc := "()V" } : Jvm.MethodName)) ∈ lw_gd := xb_mem 65 rfl rfl
set_option maxRecDepth 100000 in
theorem xk_66 : (Jvm.Cond.code ({ cls := "NailRules", name := "<init>", desc := "()V" } : Jvm.MethodName) prog_1_method_1_code (2 : Nat) (Option.none : Option Jvm.ClassFile.FieldType)) ∈ lw_gd := xb_mem 66 rfl rfl
set_option maxRecDepth 100000 in
theorem xk_67 : (Jvm.Cond.methodLink "NailRules" (1 : Nat) ({ cls := "java/lang/Object", name := "<init>", desc := "()V" } : Jvm.MethodName)) ∈ lw_gd := xb_mem 67 rfl rfl
set_option maxRecDepth 100000 in
theorem xk_68 : (Jvm.Cond.instanceMethod ({ cls := "java/lang/Object", name := "<init>", desc := "()V" } : Jvm.MethodName)) ∈ lw_gd := xb_mem 68 rfl rfl
set_option maxRecDepth 100000 in
theorem xk_69 : (Jvm.Cond.code ({ cls := "java/lang/Object", name := "<init>", desc := "()V" } : Jvm.MethodName) object_method_1_code (1 : Nat) (Option.none : Option Jvm.ClassFile.FieldType)) ∈ lw_gd := xb_mem 69 rfl rfl
set_option maxRecDepth 100000 in
theorem xk_70 : (Jvm.Cond.classLink "NailRules" (7 : Nat) "NailRules$Text") ∈ lw_gd := xb_mem 70 rfl rfl
set_option maxRecDepth 100000 in
theorem xk_71 : (Jvm.Cond.instantiable "NailRules$Text" (3 : Nat)) ∈ lw_gd := xb_mem 71 rfl rfl
set_option maxRecDepth 100000 in
theorem xk_72 : (Jvm.Cond.methodLinkNest "NailRules" (9 : Nat) ({ cls := "NailRules$Text", name := "<init>", desc := "()V" } : Jvm.MethodName) "NailRules") ∈ lw_tbl := List.mem_of_getElem? (i := 72) rfl
set_option maxRecDepth 100000 in
theorem xk_73 : (Jvm.Cond.instanceMethod ({ cls := "NailRules$Text", name := "<init>", desc := "()V" } : Jvm.MethodName)) ∈ lw_gd := xb_mem 73 rfl rfl
set_option maxRecDepth 100000 in
theorem xk_74 : (Jvm.Cond.code ({ cls := "NailRules$Text", name := "<init>", desc := "()V" } : Jvm.MethodName) prog_3_method_1_code (1 : Nat) (Option.none : Option Jvm.ClassFile.FieldType)) ∈ lw_gd := xb_mem 74 rfl rfl
set_option maxRecDepth 100000 in
theorem xk_75 : (Jvm.Cond.methodLink "NailRules$Text" (3 : Nat) ({ cls := "java/lang/Object", name := "<init>", desc := "()V" } : Jvm.MethodName)) ∈ lw_gd := xb_mem 75 rfl rfl
set_option maxRecDepth 100000 in
theorem xk_76 : (Jvm.Cond.fieldLink "NailRules$Text" (11 : Nat) "NailRules$Text" "units" "[C") ∈ lw_gd := xb_mem 76 rfl rfl
set_option maxRecDepth 100000 in
theorem xk_77 : (Jvm.Cond.fieldLink "NailRules$Text" (15 : Nat) "NailRules$Text" "length" "I") ∈ lw_gd := xb_mem 77 rfl rfl
set_option maxRecDepth 100000 in
theorem xk_78 : (Jvm.Cond.fieldLink "NailRules$Text" (19 : Nat) "NailRules$Text" "next" "I") ∈ lw_gd := xb_mem 78 rfl rfl
set_option maxRecDepth 100000 in
theorem xk_79 : (Jvm.Cond.laysFinal "NailRules$Text" "NailRules$Text" "units" "[C") ∈ lw_gd := xb_mem 79 rfl rfl
set_option maxRecDepth 100000 in
theorem xk_81 : (Jvm.Cond.lays "NailRules$Text" "NailRules$Text" "length" "I") ∈ lw_gd := xb_mem 81 rfl rfl
set_option maxRecDepth 100000 in
theorem xk_83 : (Jvm.Cond.lays "NailRules$Text" "NailRules$Text" "next" "I") ∈ lw_gd := xb_mem 83 rfl rfl
set_option maxRecDepth 100000 in
theorem xk_86 : (Jvm.Cond.arrayClass Jvm.ClassFile.FieldType.char) ∈ lw_gd := xb_mem 86 rfl rfl
set_option maxRecDepth 100000 in
theorem xk_87 : (Jvm.Cond.classLink "NailRules" (45 : Nat) "java/util/ArrayList") ∈ lw_gd := xb_mem 87 rfl rfl
set_option maxRecDepth 100000 in
theorem xk_88 : (Jvm.Cond.instantiable "java/util/ArrayList" (3 : Nat)) ∈ lw_gd := xb_mem 88 rfl rfl
set_option maxRecDepth 100000 in
theorem xk_89 : (Jvm.Cond.methodLink "NailRules" (47 : Nat) ({ cls := "java/util/ArrayList", name := "<init>", desc := "()V" } : Jvm.MethodName)) ∈ lw_gd := xb_mem 89 rfl rfl
set_option maxRecDepth 100000 in
theorem xk_90 : (Jvm.Cond.instanceMethod ({ cls := "java/util/ArrayList", name := "<init>", desc := "()V" } : Jvm.MethodName)) ∈ lw_gd := xb_mem 90 rfl rfl
set_option maxRecDepth 100000 in
theorem xk_91 : (Jvm.Cond.code ({ cls := "java/util/ArrayList", name := "<init>", desc := "()V" } : Jvm.MethodName) prog_22_method_2_code (1 : Nat) (Option.none : Option Jvm.ClassFile.FieldType)) ∈ lw_gd := xb_mem 91 rfl rfl
set_option maxRecDepth 100000 in
theorem xk_92 : (Jvm.Cond.methodLink "java/util/ArrayList" (1 : Nat) ({ cls := "java/util/AbstractList", name := "<init>", desc := "()V" } : Jvm.MethodName)) ∈ lw_gd := xb_mem 92 rfl rfl
set_option maxRecDepth 100000 in
theorem xk_93 : (Jvm.Cond.instanceMethod ({ cls := "java/util/AbstractList", name := "<init>", desc := "()V" } : Jvm.MethodName)) ∈ lw_gd := xb_mem 93 rfl rfl
set_option maxRecDepth 100000 in
theorem xk_94 : (Jvm.Cond.code ({ cls := "java/util/AbstractList", name := "<init>", desc := "()V" } : Jvm.MethodName) prog_21_method_1_code (1 : Nat) (Option.none : Option Jvm.ClassFile.FieldType)) ∈ lw_gd := xb_mem 94 rfl rfl
set_option maxRecDepth 100000 in
theorem xk_95 : (Jvm.Cond.methodLink "java/util/AbstractList" (1 : Nat) ({ cls := "java/util/AbstractCollection", name := "<init>", desc := "()V" } : Jvm.MethodName)) ∈ lw_gd := xb_mem 95 rfl rfl
set_option maxRecDepth 100000 in
theorem xk_96 : (Jvm.Cond.instanceMethod ({ cls := "java/util/AbstractCollection", name := "<init>", desc := "()V" } : Jvm.MethodName)) ∈ lw_gd := xb_mem 96 rfl rfl
set_option maxRecDepth 100000 in
theorem xk_97 : (Jvm.Cond.code ({ cls := "java/util/AbstractCollection", name := "<init>", desc := "()V" } : Jvm.MethodName) prog_20_method_1_code (1 : Nat) (Option.none : Option Jvm.ClassFile.FieldType)) ∈ lw_gd := xb_mem 97 rfl rfl
set_option maxRecDepth 100000 in
theorem xk_98 : (Jvm.Cond.methodLink "java/util/AbstractCollection" (1 : Nat) ({ cls := "java/lang/Object", name := "<init>", desc := "()V" } : Jvm.MethodName)) ∈ lw_gd := xb_mem 98 rfl rfl
set_option maxRecDepth 100000 in
theorem xk_99 : (Jvm.Cond.fieldLink "java/util/ArrayList" (39 : Nat) "java/util/ArrayList" "DEFAULTCAPACITY_EMPTY_ELEMENTDATA" "[Ljava/lang/Object;") ∈ lw_gd := xb_mem 99 rfl rfl
set_option maxRecDepth 100000 in
theorem xk_101 : (Jvm.Cond.fieldLink "java/util/ArrayList" (9 : Nat) "java/util/ArrayList" "elementData" "[Ljava/lang/Object;") ∈ lw_gd := xb_mem 101 rfl rfl
set_option maxRecDepth 100000 in
theorem xk_102 : (Jvm.Cond.fieldLink "java/util/ArrayList" (48 : Nat) "java/util/ArrayList" "size" "I") ∈ lw_gd := xb_mem 102 rfl rfl
set_option maxRecDepth 100000 in
theorem xk_103 : (Jvm.Cond.fieldLink "java/util/AbstractList" (7 : Nat) "java/util/AbstractList" "modCount" "I") ∈ lw_gd := xb_mem 103 rfl rfl
set_option maxRecDepth 100000 in
theorem xk_104 : (Jvm.Cond.fieldLink "java/util/ArrayList" (63 : Nat) "java/util/ArrayList" "modCount" "I") ∈ lw_gd := xb_mem 104 rfl rfl
set_option maxRecDepth 100000 in
theorem xk_105 : (Jvm.Cond.sameField "java/util/ArrayList" "java/util/AbstractList" "modCount" "I") ∈ lw_gd := xb_mem 105 rfl rfl
set_option maxRecDepth 100000 in
theorem xk_106 : (Jvm.Cond.lays "java/util/ArrayList" "java/util/ArrayList" "elementData" "[Ljava/lang/Object;") ∈ lw_gd := xb_mem 106 rfl rfl
set_option maxRecDepth 100000 in
theorem xk_108 : (Jvm.Cond.lays "java/util/ArrayList" "java/util/ArrayList" "size" "I") ∈ lw_gd := xb_mem 108 rfl rfl
set_option maxRecDepth 100000 in
theorem xk_110 : (Jvm.Cond.lays "java/util/ArrayList" "java/util/AbstractList" "modCount" "I") ∈ lw_gd := xb_mem 110 rfl rfl
set_option maxRecDepth 100000 in
theorem xk_113 : (Jvm.Cond.arrayClass Jvm.ClassFile.FieldType.int) ∈ lw_gd := xb_mem 113 rfl rfl
set_option maxRecDepth 100000 in
theorem xk_114 : (Jvm.Cond.fieldLink "NailRules" (10 : Nat) "NailRules" "text" "LNailRules$Text;") ∈ lw_gd := xb_mem 114 rfl rfl
set_option maxRecDepth 100000 in
theorem xk_115 : (Jvm.Cond.fieldLink "NailRules" (16 : Nat) "NailRules" "rules" "[I") ∈ lw_gd := xb_mem 115 rfl rfl
set_option maxRecDepth 100000 in
theorem xk_116 : (Jvm.Cond.fieldLink "NailRules" (20 : Nat) "NailRules" "wet" "I") ∈ lw_gd := xb_mem 116 rfl rfl
set_option maxRecDepth 100000 in
theorem xk_117 : (Jvm.Cond.fieldLink "NailRules" (24 : Nat) "NailRules" "less" "I") ∈ lw_gd := xb_mem 117 rfl rfl
set_option maxRecDepth 100000 in
theorem xk_118 : (Jvm.Cond.fieldLink "NailRules" (27 : Nat) "NailRules" "patternX" "[I") ∈ lw_gd := xb_mem 118 rfl rfl
set_option maxRecDepth 100000 in
theorem xk_119 : (Jvm.Cond.fieldLink "NailRules" (30 : Nat) "NailRules" "patternY" "[I") ∈ lw_gd := xb_mem 119 rfl rfl
set_option maxRecDepth 100000 in
theorem xk_120 : (Jvm.Cond.fieldLink "NailRules" (33 : Nat) "NailRules" "patternCount" "I") ∈ lw_gd := xb_mem 120 rfl rfl
set_option maxRecDepth 100000 in
theorem xk_121 : (Jvm.Cond.fieldLink "NailRules" (36 : Nat) "NailRules" "placeX" "[I") ∈ lw_gd := xb_mem 121 rfl rfl
set_option maxRecDepth 100000 in
theorem xk_122 : (Jvm.Cond.fieldLink "NailRules" (39 : Nat) "NailRules" "placeY" "[I") ∈ lw_gd := xb_mem 122 rfl rfl
set_option maxRecDepth 100000 in
theorem xk_123 : (Jvm.Cond.fieldLink "NailRules" (42 : Nat) "NailRules" "placeCount" "I") ∈ lw_gd := xb_mem 123 rfl rfl
set_option maxRecDepth 100000 in
theorem xk_124 : (Jvm.Cond.fieldLink "NailRules" (48 : Nat) "NailRules" "members" "Ljava/util/ArrayList;") ∈ lw_gd := xb_mem 124 rfl rfl
set_option maxRecDepth 100000 in
theorem xk_125 : (Jvm.Cond.laysFinal "NailRules" "NailRules" "text" "LNailRules$Text;") ∈ lw_gd := xb_mem 125 rfl rfl
set_option maxRecDepth 100000 in
theorem xk_127 : (Jvm.Cond.laysFinal "NailRules" "NailRules" "rules" "[I") ∈ lw_gd := xb_mem 127 rfl rfl
set_option maxRecDepth 100000 in
theorem xk_129 : (Jvm.Cond.lays "NailRules" "NailRules" "wet" "I") ∈ lw_gd := xb_mem 129 rfl rfl
set_option maxRecDepth 100000 in
theorem xk_131 : (Jvm.Cond.lays "NailRules" "NailRules" "less" "I") ∈ lw_gd := xb_mem 131 rfl rfl
set_option maxRecDepth 100000 in
theorem xk_133 : (Jvm.Cond.laysFinal "NailRules" "NailRules" "patternX" "[I") ∈ lw_gd := xb_mem 133 rfl rfl
set_option maxRecDepth 100000 in
theorem xk_135 : (Jvm.Cond.laysFinal "NailRules" "NailRules" "patternY" "[I") ∈ lw_gd := xb_mem 135 rfl rfl
set_option maxRecDepth 100000 in
theorem xk_137 : (Jvm.Cond.lays "NailRules" "NailRules" "patternCount" "I") ∈ lw_gd := xb_mem 137 rfl rfl
set_option maxRecDepth 100000 in
theorem xk_139 : (Jvm.Cond.laysFinal "NailRules" "NailRules" "placeX" "[I") ∈ lw_gd := xb_mem 139 rfl rfl
set_option maxRecDepth 100000 in
theorem xk_141 : (Jvm.Cond.laysFinal "NailRules" "NailRules" "placeY" "[I") ∈ lw_gd := xb_mem 141 rfl rfl
set_option maxRecDepth 100000 in
theorem xk_143 : (Jvm.Cond.lays "NailRules" "NailRules" "placeCount" "I") ∈ lw_gd := xb_mem 143 rfl rfl
set_option maxRecDepth 100000 in
theorem xk_145 : (Jvm.Cond.laysFinal "NailRules" "NailRules" "members" "Ljava/util/ArrayList;") ∈ lw_gd := xb_mem 145 rfl rfl
set_option maxRecDepth 100000 in
theorem xk_148 : (Jvm.Cond.methodLink "NailRulesLaw" (73 : Nat) ({ cls := "NailRules", name := "unit", desc := "(I)Z" } : Jvm.MethodName)) ∈ lw_gd := xb_mem 148 rfl rfl
set_option maxRecDepth 100000 in
theorem xk_149 : (Jvm.Cond.instanceMethod ({ cls := "NailRules", name := "unit", desc := "(I)Z" } : Jvm.MethodName)) ∈ lw_gd := xb_mem 149 rfl rfl
set_option maxRecDepth 100000 in
theorem xk_150 : (Jvm.Cond.selects "NailRules" ({ cls := "NailRules", name := "unit", desc := "(I)Z" } : Jvm.MethodName) ({ cls := "NailRules", name := "unit", desc := "(I)Z" } : Jvm.MethodName)) ∈ lw_gd := xb_mem 150 rfl rfl
set_option maxRecDepth 100000 in
theorem xk_151 : (Jvm.Cond.code ({ cls := "NailRules", name := "unit", desc := "(I)Z" } : Jvm.MethodName) prog_1_method_2_code (2 : Nat) (Option.some Jvm.ClassFile.FieldType.boolean)) ∈ lw_gd := xb_mem 151 rfl rfl
set_option maxRecDepth 100000 in
theorem xk_152 : (Jvm.Cond.methodLinkNest "NailRules" (52 : Nat) ({ cls := "NailRules$Text", name := "append", desc := "(I)Z" } : Jvm.MethodName) "NailRules") ∈ lw_tbl := List.mem_of_getElem? (i := 152) rfl
set_option maxRecDepth 100000 in
theorem xk_154 : (Jvm.Cond.instanceMethod ({ cls := "NailRules$Text", name := "append", desc := "(I)Z" } : Jvm.MethodName)) ∈ lw_gd := xb_mem 154 rfl rfl
set_option maxRecDepth 100000 in
theorem xk_155 : (Jvm.Cond.code ({ cls := "NailRules$Text", name := "append", desc := "(I)Z" } : Jvm.MethodName) prog_3_method_2_code (2 : Nat) (Option.some Jvm.ClassFile.FieldType.boolean)) ∈ lw_gd := xb_mem 155 rfl rfl
set_option maxRecDepth 100000 in
theorem xk_156 : (Jvm.Cond.methodLink "NailRulesLaw" (78 : Nat) ({ cls := "NailRules", name := "read", desc := "()I" } : Jvm.MethodName)) ∈ lw_gd := xb_mem 156 rfl rfl
set_option maxRecDepth 100000 in
theorem xk_157 : (Jvm.Cond.instanceMethod ({ cls := "NailRules", name := "read", desc := "()I" } : Jvm.MethodName)) ∈ lw_gd := xb_mem 157 rfl rfl
set_option maxRecDepth 100000 in
theorem xk_158 : (Jvm.Cond.selects "NailRules" ({ cls := "NailRules", name := "read", desc := "()I" } : Jvm.MethodName) ({ cls := "NailRules", name := "read", desc := "()I" } : Jvm.MethodName)) ∈ lw_gd := xb_mem 158 rfl rfl
set_option maxRecDepth 100000 in
theorem xk_159 : (Jvm.Cond.code ({ cls := "NailRules", name := "read", desc := "()I" } : Jvm.MethodName) prog_1_method_3_code (2 : Nat) (Option.some Jvm.ClassFile.FieldType.int)) ∈ lw_gd := xb_mem 159 rfl rfl
set_option maxRecDepth 100000 in
theorem xk_160 : (Jvm.Cond.methodLink "NailRules" (56 : Nat) ({ cls := "NailRules", name := "readStatements", desc := "()I" } : Jvm.MethodName)) ∈ lw_gd := xb_mem 160 rfl rfl
set_option maxRecDepth 100000 in
theorem xk_162 : (Jvm.Cond.instanceMethod ({ cls := "NailRules", name := "readStatements", desc := "()I" } : Jvm.MethodName)) ∈ lw_gd := xb_mem 162 rfl rfl
set_option maxRecDepth 100000 in
theorem xk_163 : (Jvm.Cond.code ({ cls := "NailRules", name := "readStatements", desc := "()I" } : Jvm.MethodName) prog_1_method_23_code (2 : Nat) (Option.some Jvm.ClassFile.FieldType.int)) ∈ lw_gd := xb_mem 163 rfl rfl
set_option maxRecDepth 100000 in
theorem xk_164 : (Jvm.Cond.methodLinkNest "NailRules" (167 : Nat) ({ cls := "NailRules$Text", name := "rewind", desc := "()V" } : Jvm.MethodName) "NailRules") ∈ lw_tbl := List.mem_of_getElem? (i := 164) rfl
set_option maxRecDepth 100000 in
theorem xk_166 : (Jvm.Cond.instanceMethod ({ cls := "NailRules$Text", name := "rewind", desc := "()V" } : Jvm.MethodName)) ∈ lw_gd := xb_mem 166 rfl rfl
set_option maxRecDepth 100000 in
theorem xk_167 : (Jvm.Cond.code ({ cls := "NailRules$Text", name := "rewind", desc := "()V" } : Jvm.MethodName) prog_3_method_4_code (1 : Nat) (Option.none : Option Jvm.ClassFile.FieldType)) ∈ lw_gd := xb_mem 167 rfl rfl
set_option maxRecDepth 100000 in
theorem xk_168 : (Jvm.Cond.methodLink "NailRules" (170 : Nat) ({ cls := "NailRules", name := "readStatement", desc := "()Z" } : Jvm.MethodName)) ∈ lw_gd := xb_mem 168 rfl rfl
set_option maxRecDepth 100000 in
theorem xk_170 : (Jvm.Cond.instanceMethod ({ cls := "NailRules", name := "readStatement", desc := "()Z" } : Jvm.MethodName)) ∈ lw_gd := xb_mem 170 rfl rfl
set_option maxRecDepth 100000 in
theorem xk_171 : (Jvm.Cond.code ({ cls := "NailRules", name := "readStatement", desc := "()Z" } : Jvm.MethodName) prog_1_method_24_code (4 : Nat) (Option.some Jvm.ClassFile.FieldType.boolean)) ∈ lw_gd := xb_mem 171 rfl rfl
set_option maxRecDepth 100000 in
theorem xk_172 : (Jvm.Cond.methodLinkNest "NailRules" (184 : Nat) ({ cls := "NailRules$Text", name := "takeKind", desc := "()I" } : Jvm.MethodName) "NailRules") ∈ lw_tbl := List.mem_of_getElem? (i := 172) rfl
set_option maxRecDepth 100000 in
theorem xk_174 : (Jvm.Cond.instanceMethod ({ cls := "NailRules$Text", name := "takeKind", desc := "()I" } : Jvm.MethodName)) ∈ lw_gd := xb_mem 174 rfl rfl
set_option maxRecDepth 100000 in
theorem xk_175 : (Jvm.Cond.code ({ cls := "NailRules$Text", name := "takeKind", desc := "()I" } : Jvm.MethodName) prog_3_method_9_code (2 : Nat) (Option.some Jvm.ClassFile.FieldType.int)) ∈ lw_gd := xb_mem 175 rfl rfl
set_option maxRecDepth 100000 in
theorem xk_176 : (Jvm.Cond.methodLink "NailRules$Text" (22 : Nat) ({ cls := "NailRules$Text", name := "look", desc := "(I)I" } : Jvm.MethodName)) ∈ lw_gd := xb_mem 176 rfl rfl
set_option maxRecDepth 100000 in
theorem xk_178 : (Jvm.Cond.instanceMethod ({ cls := "NailRules$Text", name := "look", desc := "(I)I" } : Jvm.MethodName)) ∈ lw_gd := xb_mem 178 rfl rfl
set_option maxRecDepth 100000 in
theorem xk_179 : (Jvm.Cond.code ({ cls := "NailRules$Text", name := "look", desc := "(I)I" } : Jvm.MethodName) prog_3_method_7_code (2 : Nat) (Option.some Jvm.ClassFile.FieldType.int)) ∈ lw_gd := xb_mem 179 rfl rfl
set_option maxRecDepth 100000 in
theorem xk_180 : (Jvm.Cond.methodLink "NailRules$Text" (26 : Nat) ({ cls := "NailRules$Text", name := "kindOf", desc := "(I)I" } : Jvm.MethodName)) ∈ lw_gd := xb_mem 180 rfl rfl
set_option maxRecDepth 100000 in
theorem xk_181 : (Jvm.Cond.static ({ cls := "NailRules$Text", name := "kindOf", desc := "(I)I" } : Jvm.MethodName)) ∈ lw_gd := xb_mem 181 rfl rfl
set_option maxRecDepth 100000 in
theorem xk_182 : (Jvm.Cond.code ({ cls := "NailRules$Text", name := "kindOf", desc := "(I)I" } : Jvm.MethodName) prog_3_method_10_code (1 : Nat) (Option.some Jvm.ClassFile.FieldType.int)) ∈ lw_gd := xb_mem 182 rfl rfl
set_option maxRecDepth 100000 in
theorem xk_183 : (Jvm.Cond.methodLinkNest "NailRules" (180 : Nat) ({ cls := "NailRules$Text", name := "take", desc := "(C)Z" } : Jvm.MethodName) "NailRules") ∈ lw_tbl := List.mem_of_getElem? (i := 183) rfl
set_option maxRecDepth 100000 in
theorem xk_185 : (Jvm.Cond.instanceMethod ({ cls := "NailRules$Text", name := "take", desc := "(C)Z" } : Jvm.MethodName)) ∈ lw_gd := xb_mem 185 rfl rfl
set_option maxRecDepth 100000 in
theorem xk_186 : (Jvm.Cond.code ({ cls := "NailRules$Text", name := "take", desc := "(C)Z" } : Jvm.MethodName) prog_3_method_8_code (2 : Nat) (Option.some Jvm.ClassFile.FieldType.boolean)) ∈ lw_gd := xb_mem 186 rfl rfl
set_option maxRecDepth 100000 in
theorem xk_187 : (Jvm.Cond.methodLinkNest "NailRules" (187 : Nat) ({ cls := "NailRules$Text", name := "takeWord", desc := "()I" } : Jvm.MethodName) "NailRules") ∈ lw_tbl := List.mem_of_getElem? (i := 187) rfl
set_option maxRecDepth 100000 in
theorem xk_189 : (Jvm.Cond.instanceMethod ({ cls := "NailRules$Text", name := "takeWord", desc := "()I" } : Jvm.MethodName)) ∈ lw_gd := xb_mem 189 rfl rfl
set_option maxRecDepth 100000 in
theorem xk_190 : (Jvm.Cond.code ({ cls := "NailRules$Text", name := "takeWord", desc := "()I" } : Jvm.MethodName) prog_3_method_11_code (5 : Nat) (Option.some Jvm.ClassFile.FieldType.int)) ∈ lw_gd := xb_mem 190 rfl rfl
set_option maxRecDepth 100000 in
theorem xk_191 : (Jvm.Cond.methodLinkNest "NailRules$Text" (29 : Nat) ({ cls := "NailRules", name := "wordOf", desc := "(I)Ljava/lang/String;" } : Jvm.MethodName) "NailRules") ∈ lw_tbl := List.mem_of_getElem? (i := 191) rfl
set_option maxRecDepth 100000 in
theorem xk_192 : (Jvm.Cond.static ({ cls := "NailRules", name := "wordOf", desc := "(I)Ljava/lang/String;" } : Jvm.MethodName)) ∈ lw_gd := xb_mem 192 rfl rfl
set_option maxRecDepth 100000 in
theorem xk_193 : (Jvm.Cond.code ({ cls := "NailRules", name := "wordOf", desc := "(I)Ljava/lang/String;" } : Jvm.MethodName) prog_1_method_33_code (1 : Nat) (Option.some (Jvm.ClassFile.FieldType.object "java/lang/String"))) ∈ lw_gd := xb_mem 193 rfl rfl
set_option maxRecDepth 100000 in
theorem xk_201 : (Jvm.Cond.methodLink "NailRules$Text" (33 : Nat) ({ cls := "NailRules$Text", name := "unitsAlike", desc := "(Ljava/lang/String;)I" } : Jvm.MethodName)) ∈ lw_gd := xb_mem 201 rfl rfl
set_option maxRecDepth 100000 in
theorem xk_203 : (Jvm.Cond.instanceMethod ({ cls := "NailRules$Text", name := "unitsAlike", desc := "(Ljava/lang/String;)I" } : Jvm.MethodName)) ∈ lw_gd := xb_mem 203 rfl rfl
set_option maxRecDepth 100000 in
theorem xk_204 : (Jvm.Cond.code ({ cls := "NailRules$Text", name := "unitsAlike", desc := "(Ljava/lang/String;)I" } : Jvm.MethodName) prog_3_method_12_code (3 : Nat) (Option.some Jvm.ClassFile.FieldType.int)) ∈ lw_gd := xb_mem 204 rfl rfl
set_option maxRecDepth 100000 in
theorem xk_205 : (Jvm.Cond.methodLink "NailRules$Text" (37 : Nat) ({ cls := "java/lang/String", name := "length", desc := "()I" } : Jvm.MethodName)) ∈ lw_gd := xb_mem 205 rfl rfl
set_option maxRecDepth 100000 in
theorem xk_206 : (Jvm.Cond.instanceMethod ({ cls := "java/lang/String", name := "length", desc := "()I" } : Jvm.MethodName)) ∈ lw_gd := xb_mem 206 rfl rfl
set_option maxRecDepth 100000 in
theorem xk_207 : (Jvm.Cond.selects "java/lang/String" ({ cls := "java/lang/String", name := "length", desc := "()I" } : Jvm.MethodName) ({ cls := "java/lang/String", name := "length", desc := "()I" } : Jvm.MethodName)) ∈ lw_gd := xb_mem 207 rfl rfl
set_option maxRecDepth 100000 in
theorem xk_208 : (Jvm.Cond.code ({ cls := "java/lang/String", name := "length", desc := "()I" } : Jvm.MethodName) prog_15_method_54_code (1 : Nat) (Option.some Jvm.ClassFile.FieldType.int)) ∈ lw_gd := xb_mem 208 rfl rfl
set_option maxRecDepth 100000 in
theorem xk_209 : (Jvm.Cond.methodLink "java/lang/String" (335 : Nat) ({ cls := "java/lang/String", name := "coder", desc := "()B" } : Jvm.MethodName)) ∈ lw_gd := xb_mem 209 rfl rfl
set_option maxRecDepth 100000 in
theorem xk_210 : (Jvm.Cond.instanceMethod ({ cls := "java/lang/String", name := "coder", desc := "()B" } : Jvm.MethodName)) ∈ lw_gd := xb_mem 210 rfl rfl
set_option maxRecDepth 100000 in
theorem xk_211 : (Jvm.Cond.selects "java/lang/String" ({ cls := "java/lang/String", name := "coder", desc := "()B" } : Jvm.MethodName) ({ cls := "java/lang/String", name := "coder", desc := "()B" } : Jvm.MethodName)) ∈ lw_gd := xb_mem 211 rfl rfl
set_option maxRecDepth 100000 in
theorem xk_212 : (Jvm.Cond.code ({ cls := "java/lang/String", name := "coder", desc := "()B" } : Jvm.MethodName) prog_15_method_152_code (1 : Nat) (Option.some Jvm.ClassFile.FieldType.byte)) ∈ lw_gd := xb_mem 212 rfl rfl
set_option maxRecDepth 100000 in
theorem xk_213 : (Jvm.Cond.fieldLink "java/lang/String" (38 : Nat) "java/lang/String" "COMPACT_STRINGS" "Z") ∈ lw_gd := xb_mem 213 rfl rfl
set_option maxRecDepth 100000 in
theorem xk_215 : (Jvm.Cond.methodLink "NailRules$Text" (48 : Nat) ({ cls := "java/lang/String", name := "charAt", desc := "(I)C" } : Jvm.MethodName)) ∈ lw_gd := xb_mem 215 rfl rfl
set_option maxRecDepth 100000 in
theorem xk_216 : (Jvm.Cond.instanceMethod ({ cls := "java/lang/String", name := "charAt", desc := "(I)C" } : Jvm.MethodName)) ∈ lw_gd := xb_mem 216 rfl rfl
set_option maxRecDepth 100000 in
theorem xk_217 : (Jvm.Cond.selects "java/lang/String" ({ cls := "java/lang/String", name := "charAt", desc := "(I)C" } : Jvm.MethodName) ({ cls := "java/lang/String", name := "charAt", desc := "(I)C" } : Jvm.MethodName)) ∈ lw_gd := xb_mem 217 rfl rfl
set_option maxRecDepth 100000 in
theorem xk_218 : (Jvm.Cond.code ({ cls := "java/lang/String", name := "charAt", desc := "(I)C" } : Jvm.MethodName) prog_15_method_56_code (2 : Nat) (Option.some Jvm.ClassFile.FieldType.char)) ∈ lw_gd := xb_mem 218 rfl rfl
set_option maxRecDepth 100000 in
theorem xk_219 : (Jvm.Cond.methodLink "java/lang/String" (492 : Nat) ({ cls := "java/lang/String", name := "isLatin1", desc := "()Z" } : Jvm.MethodName)) ∈ lw_gd := xb_mem 219 rfl rfl
set_option maxRecDepth 100000 in
theorem xk_220 : (Jvm.Cond.instanceMethod ({ cls := "java/lang/String", name := "isLatin1", desc := "()Z" } : Jvm.MethodName)) ∈ lw_gd := xb_mem 220 rfl rfl
set_option maxRecDepth 100000 in
theorem xk_221 : (Jvm.Cond.selects "java/lang/String" ({ cls := "java/lang/String", name := "isLatin1", desc := "()Z" } : Jvm.MethodName) ({ cls := "java/lang/String", name := "isLatin1", desc := "()Z" } : Jvm.MethodName)) ∈ lw_gd := xb_mem 221 rfl rfl
set_option maxRecDepth 100000 in
theorem xk_222 : (Jvm.Cond.code ({ cls := "java/lang/String", name := "isLatin1", desc := "()Z" } : Jvm.MethodName) prog_15_method_154_code (1 : Nat) (Option.some Jvm.ClassFile.FieldType.boolean)) ∈ lw_gd := xb_mem 222 rfl rfl
set_option maxRecDepth 100000 in
theorem xk_223 : (Jvm.Cond.methodLink "java/lang/String" (495 : Nat) ({ cls := "java/lang/StringLatin1", name := "charAt", desc := "([BI)C" } : Jvm.MethodName)) ∈ lw_gd := xb_mem 223 rfl rfl
set_option maxRecDepth 100000 in
theorem xk_224 : (Jvm.Cond.static ({ cls := "java/lang/StringLatin1", name := "charAt", desc := "([BI)C" } : Jvm.MethodName)) ∈ lw_gd := xb_mem 224 rfl rfl
set_option maxRecDepth 100000 in
theorem xk_225 : (Jvm.Cond.code ({ cls := "java/lang/StringLatin1", name := "charAt", desc := "([BI)C" } : Jvm.MethodName) prog_16_method_2_code (2 : Nat) (Option.some Jvm.ClassFile.FieldType.char)) ∈ lw_gd := xb_mem 225 rfl rfl
set_option maxRecDepth 100000 in
theorem xk_226 : (Jvm.Cond.methodLink "java/lang/StringLatin1" (9 : Nat) ({ cls := "java/lang/String", name := "checkIndex", desc := "(II)V" } : Jvm.MethodName)) ∈ lw_gd := xb_mem 226 rfl rfl
set_option maxRecDepth 100000 in
theorem xk_227 : (Jvm.Cond.static ({ cls := "java/lang/String", name := "checkIndex", desc := "(II)V" } : Jvm.MethodName)) ∈ lw_gd := xb_mem 227 rfl rfl
set_option maxRecDepth 100000 in
theorem xk_228 : (Jvm.Cond.code ({ cls := "java/lang/String", name := "checkIndex", desc := "(II)V" } : Jvm.MethodName) prog_15_method_155_code (2 : Nat) (Option.none : Option Jvm.ClassFile.FieldType)) ∈ lw_gd := xb_mem 228 rfl rfl
set_option maxRecDepth 100000 in
theorem xk_229 : (Jvm.Cond.fieldLink "java/lang/String" (1053 : Nat) "jdk/internal/util/Preconditions" "SIOOBE_FORMATTER" "Ljava/util/function/BiFunction;") ∈ lw_gd := xb_mem 229 rfl rfl
set_option maxRecDepth 100000 in
theorem xk_231 : (Jvm.Cond.methodLink "java/lang/String" (1059 : Nat) ({ cls := "jdk/internal/util/Preconditions", name := "checkIndex", desc := "(IILjava/util/function/BiFunction;)I" } : Jvm.MethodName)) ∈ lw_gd := xb_mem 231 rfl rfl
set_option maxRecDepth 100000 in
theorem xk_232 : (Jvm.Cond.static ({ cls := "jdk/internal/util/Preconditions", name := "checkIndex", desc := "(IILjava/util/function/BiFunction;)I" } : Jvm.MethodName)) ∈ lw_gd := xb_mem 232 rfl rfl
set_option maxRecDepth 100000 in
theorem xk_233 : (Jvm.Cond.code ({ cls := "jdk/internal/util/Preconditions", name := "checkIndex", desc := "(IILjava/util/function/BiFunction;)I" } : Jvm.MethodName) prog_30_method_11_code (3 : Nat) (Option.some Jvm.ClassFile.FieldType.int)) ∈ lw_gd := xb_mem 233 rfl rfl
set_option maxRecDepth 100000 in
theorem xk_253 : (Jvm.Cond.methodLink "NailRules$Text" (42 : Nat) ({ cls := "java/lang/Math", name := "max", desc := "(II)I" } : Jvm.MethodName)) ∈ lw_gd := xb_mem 253 rfl rfl
set_option maxRecDepth 100000 in
theorem xk_254 : (Jvm.Cond.static ({ cls := "java/lang/Math", name := "max", desc := "(II)I" } : Jvm.MethodName)) ∈ lw_gd := xb_mem 254 rfl rfl
set_option maxRecDepth 100000 in
theorem xk_255 : (Jvm.Cond.code ({ cls := "java/lang/Math", name := "max", desc := "(II)I" } : Jvm.MethodName) prog_13_method_65_code (2 : Nat) (Option.some Jvm.ClassFile.FieldType.int)) ∈ lw_gd := xb_mem 255 rfl rfl
set_option maxRecDepth 100000 in
theorem xk_256 : (Jvm.Cond.methodLinkNest "NailRules" (190 : Nat) ({ cls := "NailRules$Text", name := "takeNumber", desc := "()I" } : Jvm.MethodName) "NailRules") ∈ lw_tbl := List.mem_of_getElem? (i := 256) rfl
set_option maxRecDepth 100000 in
theorem xk_258 : (Jvm.Cond.instanceMethod ({ cls := "NailRules$Text", name := "takeNumber", desc := "()I" } : Jvm.MethodName)) ∈ lw_gd := xb_mem 258 rfl rfl
set_option maxRecDepth 100000 in
theorem xk_259 : (Jvm.Cond.code ({ cls := "NailRules$Text", name := "takeNumber", desc := "()I" } : Jvm.MethodName) prog_3_method_13_code (3 : Nat) (Option.some Jvm.ClassFile.FieldType.int)) ∈ lw_gd := xb_mem 259 rfl rfl
set_option maxRecDepth 100000 in
theorem xk_260 : (Jvm.Cond.methodLink "NailRules$Text" (52 : Nat) ({ cls := "NailRules$Text", name := "isDigit", desc := "(I)Z" } : Jvm.MethodName)) ∈ lw_gd := xb_mem 260 rfl rfl
set_option maxRecDepth 100000 in
theorem xk_261 : (Jvm.Cond.static ({ cls := "NailRules$Text", name := "isDigit", desc := "(I)Z" } : Jvm.MethodName)) ∈ lw_gd := xb_mem 261 rfl rfl
set_option maxRecDepth 100000 in
theorem xk_262 : (Jvm.Cond.code ({ cls := "NailRules$Text", name := "isDigit", desc := "(I)Z" } : Jvm.MethodName) prog_3_method_14_code (1 : Nat) (Option.some Jvm.ClassFile.FieldType.boolean)) ∈ lw_gd := xb_mem 262 rfl rfl
set_option maxRecDepth 100000 in
theorem xk_263 : (Jvm.Cond.methodLinkNest "NailRules" (174 : Nat) ({ cls := "NailRules$Text", name := "fault", desc := "()I" } : Jvm.MethodName) "NailRules") ∈ lw_tbl := List.mem_of_getElem? (i := 263) rfl
set_option maxRecDepth 100000 in
theorem xk_265 : (Jvm.Cond.instanceMethod ({ cls := "NailRules$Text", name := "fault", desc := "()I" } : Jvm.MethodName)) ∈ lw_gd := xb_mem 265 rfl rfl
set_option maxRecDepth 100000 in
theorem xk_266 : (Jvm.Cond.code ({ cls := "NailRules$Text", name := "fault", desc := "()I" } : Jvm.MethodName) prog_3_method_6_code (1 : Nat) (Option.some Jvm.ClassFile.FieldType.int)) ∈ lw_gd := xb_mem 266 rfl rfl
set_option maxRecDepth 100000 in
theorem xk_267 : (Jvm.Cond.methodLinkNest "NailRules" (177 : Nat) ({ cls := "NailRules$Text", name := "ended", desc := "()Z" } : Jvm.MethodName) "NailRules") ∈ lw_tbl := List.mem_of_getElem? (i := 267) rfl
set_option maxRecDepth 100000 in
theorem xk_269 : (Jvm.Cond.instanceMethod ({ cls := "NailRules$Text", name := "ended", desc := "()Z" } : Jvm.MethodName)) ∈ lw_gd := xb_mem 269 rfl rfl
set_option maxRecDepth 100000 in
theorem xk_270 : (Jvm.Cond.code ({ cls := "NailRules$Text", name := "ended", desc := "()Z" } : Jvm.MethodName) prog_3_method_5_code (1 : Nat) (Option.some Jvm.ClassFile.FieldType.boolean)) ∈ lw_gd := xb_mem 270 rfl rfl
set_option maxRecDepth 100000 in
theorem xk_271 : (Jvm.Cond.methodLinkNest "NailRules" (60 : Nat) ({ cls := "NailRules$Text", name := "empty", desc := "()V" } : Jvm.MethodName) "NailRules") ∈ lw_tbl := List.mem_of_getElem? (i := 271) rfl
set_option maxRecDepth 100000 in
theorem xk_273 : (Jvm.Cond.instanceMethod ({ cls := "NailRules$Text", name := "empty", desc := "()V" } : Jvm.MethodName)) ∈ lw_gd := xb_mem 273 rfl rfl
set_option maxRecDepth 100000 in
theorem xk_274 : (Jvm.Cond.code ({ cls := "NailRules$Text", name := "empty", desc := "()V" } : Jvm.MethodName) prog_3_method_3_code (1 : Nat) (Option.none : Option Jvm.ClassFile.FieldType)) ∈ lw_gd := xb_mem 274 rfl rfl
set_option maxRecDepth 100000 in
theorem xk_276 : (Jvm.Cond.methodLink "NailRulesLaw" (117 : Nat) ({ cls := "NailRules", name := "clear", desc := "()V" } : Jvm.MethodName)) ∈ lw_gd := xb_mem 276 rfl rfl
set_option maxRecDepth 100000 in
theorem xk_277 : (Jvm.Cond.instanceMethod ({ cls := "NailRules", name := "clear", desc := "()V" } : Jvm.MethodName)) ∈ lw_gd := xb_mem 277 rfl rfl
set_option maxRecDepth 100000 in
theorem xk_278 : (Jvm.Cond.selects "NailRules" ({ cls := "NailRules", name := "clear", desc := "()V" } : Jvm.MethodName) ({ cls := "NailRules", name := "clear", desc := "()V" } : Jvm.MethodName)) ∈ lw_gd := xb_mem 278 rfl rfl
set_option maxRecDepth 100000 in
theorem xk_279 : (Jvm.Cond.code ({ cls := "NailRules", name := "clear", desc := "()V" } : Jvm.MethodName) prog_1_method_12_code (1 : Nat) (Option.none : Option Jvm.ClassFile.FieldType)) ∈ lw_gd := xb_mem 279 rfl rfl
set_option maxRecDepth 100000 in
theorem xk_280 : (Jvm.Cond.methodLink "NailRulesLaw" (83 : Nat) ({ cls := "NailRulesLaw", name := "rule", desc := "(LNailRules;II[J)I" } : Jvm.MethodName)) ∈ lw_gd := xb_mem 280 rfl rfl
set_option maxRecDepth 100000 in
theorem xk_281 : (Jvm.Cond.static ({ cls := "NailRulesLaw", name := "rule", desc := "(LNailRules;II[J)I" } : Jvm.MethodName)) ∈ lw_gd := xb_mem 281 rfl rfl
set_option maxRecDepth 100000 in
theorem xk_282 : (Jvm.Cond.codeWith ({ cls := "NailRulesLaw", name := "rule", desc := "(LNailRules;II[J)I" } : Jvm.MethodName) method_3_code (5 : Nat) (Option.some Jvm.ClassFile.FieldType.int) [((0 : Nat), (10 : Nat), (13 : Nat), (13 : Nat))]) ∈ lw_gd := xb_mem 282 rfl rfl
set_option maxRecDepth 100000 in
theorem xk_283 : (Jvm.Cond.classLink "NailRulesLaw" (13 : Nat) "java/lang/IndexOutOfBoundsException") ∈ lw_gd := xb_mem 283 rfl rfl
set_option maxRecDepth 100000 in
theorem xk_284 : (Jvm.Cond.methodLink "NailRulesLaw" (7 : Nat) ({ cls := "NailRules", name := "rule", desc := "(II)I" } : Jvm.MethodName)) ∈ lw_gd := xb_mem 284 rfl rfl
set_option maxRecDepth 100000 in
theorem xk_285 : (Jvm.Cond.instanceMethod ({ cls := "NailRules", name := "rule", desc := "(II)I" } : Jvm.MethodName)) ∈ lw_gd := xb_mem 285 rfl rfl
set_option maxRecDepth 100000 in
theorem xk_286 : (Jvm.Cond.selects "NailRules" ({ cls := "NailRules", name := "rule", desc := "(II)I" } : Jvm.MethodName) ({ cls := "NailRules", name := "rule", desc := "(II)I" } : Jvm.MethodName)) ∈ lw_gd := xb_mem 286 rfl rfl
set_option maxRecDepth 100000 in
theorem xk_287 : (Jvm.Cond.code ({ cls := "NailRules", name := "rule", desc := "(II)I" } : Jvm.MethodName) prog_1_method_4_code (3 : Nat) (Option.some Jvm.ClassFile.FieldType.int)) ∈ lw_gd := xb_mem 287 rfl rfl
set_option maxRecDepth 100000 in
theorem xk_288 : (Jvm.Cond.methodLink "NailRules" (63 : Nat) ({ cls := "NailRules", name := "requireIndex", desc := "(II)V" } : Jvm.MethodName)) ∈ lw_gd := xb_mem 288 rfl rfl
set_option maxRecDepth 100000 in
theorem xk_289 : (Jvm.Cond.static ({ cls := "NailRules", name := "requireIndex", desc := "(II)V" } : Jvm.MethodName)) ∈ lw_gd := xb_mem 289 rfl rfl
set_option maxRecDepth 100000 in
theorem xk_290 : (Jvm.Cond.code ({ cls := "NailRules", name := "requireIndex", desc := "(II)V" } : Jvm.MethodName) prog_1_method_19_code (2 : Nat) (Option.none : Option Jvm.ClassFile.FieldType)) ∈ lw_gd := xb_mem 290 rfl rfl
set_option maxRecDepth 100000 in
theorem xk_291 : (Jvm.Cond.classLink "NailRules" (160 : Nat) "java/lang/IndexOutOfBoundsException") ∈ lw_gd := xb_mem 291 rfl rfl
set_option maxRecDepth 100000 in
theorem xk_293 : (Jvm.Cond.castable "java/lang/IndexOutOfBoundsException" "java/lang/IndexOutOfBoundsException") ∈ lw_tbl := List.mem_of_getElem? (i := 293) rfl
set_option maxRecDepth 100000 in
theorem xk_332 : (Jvm.Cond.stringRef "NailRules" (162 : Nat) "there is no such kind, part, place, member or axis") ∈ lw_tbl := List.mem_of_getElem? (i := 332) rfl
set_option maxRecDepth 100000 in
theorem xk_358 : (Jvm.Cond.methodLink "NailRules" (67 : Nat) ({ cls := "NailRules", name := "told", desc := "(II)I" } : Jvm.MethodName)) ∈ lw_gd := xb_mem 358 rfl rfl
set_option maxRecDepth 100000 in
theorem xk_360 : (Jvm.Cond.instanceMethod ({ cls := "NailRules", name := "told", desc := "(II)I" } : Jvm.MethodName)) ∈ lw_gd := xb_mem 360 rfl rfl
set_option maxRecDepth 100000 in
theorem xk_361 : (Jvm.Cond.code ({ cls := "NailRules", name := "told", desc := "(II)I" } : Jvm.MethodName) prog_1_method_21_code (3 : Nat) (Option.some Jvm.ClassFile.FieldType.int)) ∈ lw_gd := xb_mem 361 rfl rfl
set_option maxRecDepth 100000 in
theorem xk_362 : (Jvm.Cond.methodLink "NailRulesLaw" (89 : Nat) ({ cls := "NailRulesLaw", name := "set", desc := "(LNailRules;II)I" } : Jvm.MethodName)) ∈ lw_gd := xb_mem 362 rfl rfl
set_option maxRecDepth 100000 in
theorem xk_363 : (Jvm.Cond.static ({ cls := "NailRulesLaw", name := "set", desc := "(LNailRules;II)I" } : Jvm.MethodName)) ∈ lw_gd := xb_mem 363 rfl rfl
set_option maxRecDepth 100000 in
theorem xk_364 : (Jvm.Cond.codeWith ({ cls := "NailRulesLaw", name := "set", desc := "(LNailRules;II)I" } : Jvm.MethodName) method_4_code (4 : Nat) (Option.some Jvm.ClassFile.FieldType.int) [((0 : Nat), (6 : Nat), (9 : Nat), (13 : Nat)), ((0 : Nat), (6 : Nat), (12 : Nat), (19 : Nat))]) ∈ lw_gd := xb_mem 364 rfl rfl
set_option maxRecDepth 100000 in
theorem xk_365 : (Jvm.Cond.classLink "NailRulesLaw" (19 : Nat) "java/lang/IllegalArgumentException") ∈ lw_gd := xb_mem 365 rfl rfl
set_option maxRecDepth 100000 in
theorem xk_366 : (Jvm.Cond.methodLink "NailRulesLaw" (15 : Nat) ({ cls := "NailRules", name := "set", desc := "(II)V" } : Jvm.MethodName)) ∈ lw_gd := xb_mem 366 rfl rfl
set_option maxRecDepth 100000 in
theorem xk_367 : (Jvm.Cond.instanceMethod ({ cls := "NailRules", name := "set", desc := "(II)V" } : Jvm.MethodName)) ∈ lw_gd := xb_mem 367 rfl rfl
set_option maxRecDepth 100000 in
theorem xk_368 : (Jvm.Cond.selects "NailRules" ({ cls := "NailRules", name := "set", desc := "(II)V" } : Jvm.MethodName) ({ cls := "NailRules", name := "set", desc := "(II)V" } : Jvm.MethodName)) ∈ lw_gd := xb_mem 368 rfl rfl
set_option maxRecDepth 100000 in
theorem xk_369 : (Jvm.Cond.code ({ cls := "NailRules", name := "set", desc := "(II)V" } : Jvm.MethodName) prog_1_method_5_code (3 : Nat) (Option.none : Option Jvm.ClassFile.FieldType)) ∈ lw_gd := xb_mem 369 rfl rfl
set_option maxRecDepth 100000 in
theorem xk_370 : (Jvm.Cond.constantLong "NailRules" (71 : Nat) (100 : Int64)) ∈ lw_gd := xb_mem 370 rfl rfl
set_option maxRecDepth 100000 in
theorem xk_371 : (Jvm.Cond.methodLink "NailRules" (73 : Nat) ({ cls := "NailRules", name := "requireWithin", desc := "(JJJ)V" } : Jvm.MethodName)) ∈ lw_gd := xb_mem 371 rfl rfl
set_option maxRecDepth 100000 in
theorem xk_372 : (Jvm.Cond.static ({ cls := "NailRules", name := "requireWithin", desc := "(JJJ)V" } : Jvm.MethodName)) ∈ lw_gd := xb_mem 372 rfl rfl
set_option maxRecDepth 100000 in
theorem xk_373 : (Jvm.Cond.code ({ cls := "NailRules", name := "requireWithin", desc := "(JJJ)V" } : Jvm.MethodName) prog_1_method_20_code (6 : Nat) (Option.none : Option Jvm.ClassFile.FieldType)) ∈ lw_gd := xb_mem 373 rfl rfl
set_option maxRecDepth 100000 in
theorem xk_374 : (Jvm.Cond.classLink "NailRules" (129 : Nat) "java/lang/IllegalArgumentException") ∈ lw_gd := xb_mem 374 rfl rfl
set_option maxRecDepth 100000 in
theorem xk_376 : (Jvm.Cond.castable "java/lang/IllegalArgumentException" "java/lang/IllegalArgumentException") ∈ lw_tbl := List.mem_of_getElem? (i := 376) rfl
set_option maxRecDepth 100000 in
theorem xk_383 : (Jvm.Cond.stringRef "NailRules" (165 : Nat) "a number is not within its bounds") ∈ lw_tbl := List.mem_of_getElem? (i := 383) rfl
set_option maxRecDepth 100000 in
theorem xk_390 : (Jvm.Cond.methodLink "NailRulesLaw" (93 : Nat) ({ cls := "NailRulesLaw", name := "holds", desc := "(LNailRules;IIIII[J)I" } : Jvm.MethodName)) ∈ lw_gd := xb_mem 390 rfl rfl
set_option maxRecDepth 100000 in
theorem xk_391 : (Jvm.Cond.static ({ cls := "NailRulesLaw", name := "holds", desc := "(LNailRules;IIIII[J)I" } : Jvm.MethodName)) ∈ lw_gd := xb_mem 391 rfl rfl
set_option maxRecDepth 100000 in
theorem xk_392 : (Jvm.Cond.codeWith ({ cls := "NailRulesLaw", name := "holds", desc := "(LNailRules;IIIII[J)I" } : Jvm.MethodName) method_5_code (8 : Nat) (Option.some Jvm.ClassFile.FieldType.int) [((0 : Nat), (15 : Nat), (18 : Nat), (13 : Nat)), ((0 : Nat), (15 : Nat), (22 : Nat), (19 : Nat))]) ∈ lw_gd := xb_mem 392 rfl rfl
set_option maxRecDepth 100000 in
theorem xk_393 : (Jvm.Cond.methodLink "NailRulesLaw" (21 : Nat) ({ cls := "NailRules", name := "holds", desc := "(IIIII)J" } : Jvm.MethodName)) ∈ lw_gd := xb_mem 393 rfl rfl
set_option maxRecDepth 100000 in
theorem xk_394 : (Jvm.Cond.instanceMethod ({ cls := "NailRules", name := "holds", desc := "(IIIII)J" } : Jvm.MethodName)) ∈ lw_gd := xb_mem 394 rfl rfl
set_option maxRecDepth 100000 in
theorem xk_395 : (Jvm.Cond.selects "NailRules" ({ cls := "NailRules", name := "holds", desc := "(IIIII)J" } : Jvm.MethodName) ({ cls := "NailRules", name := "holds", desc := "(IIIII)J" } : Jvm.MethodName)) ∈ lw_gd := xb_mem 395 rfl rfl
set_option maxRecDepth 100000 in
theorem xk_396 : (Jvm.Cond.code ({ cls := "NailRules", name := "holds", desc := "(IIIII)J" } : Jvm.MethodName) prog_1_method_6_code (9 : Nat) (Option.some Jvm.ClassFile.FieldType.long)) ∈ lw_gd := xb_mem 396 rfl rfl
set_option maxRecDepth 100000 in
theorem xk_397 : (Jvm.Cond.constantLong "NailRules" (77 : Nat) (1000 : Int64)) ∈ lw_gd := xb_mem 397 rfl rfl
set_option maxRecDepth 100000 in
theorem xk_398 : (Jvm.Cond.constantLong "NailRules" (79 : Nat) (90 : Int64)) ∈ lw_gd := xb_mem 398 rfl rfl
set_option maxRecDepth 100000 in
theorem xk_399 : (Jvm.Cond.methodLink "NailRules" (81 : Nat) ({ cls := "NailRules", name := "leastFormula", desc := "(III)I" } : Jvm.MethodName)) ∈ lw_gd := xb_mem 399 rfl rfl
set_option maxRecDepth 100000 in
theorem xk_401 : (Jvm.Cond.instanceMethod ({ cls := "NailRules", name := "leastFormula", desc := "(III)I" } : Jvm.MethodName)) ∈ lw_gd := xb_mem 401 rfl rfl
set_option maxRecDepth 100000 in
theorem xk_402 : (Jvm.Cond.code ({ cls := "NailRules", name := "leastFormula", desc := "(III)I" } : Jvm.MethodName) prog_1_method_25_code (6 : Nat) (Option.some Jvm.ClassFile.FieldType.int)) ∈ lw_gd := xb_mem 402 rfl rfl
set_option maxRecDepth 100000 in
theorem xk_403 : (Jvm.Cond.methodLink "NailRules" (85 : Nat) ({ cls := "NailRules", name := "formula", desc := "(IIII)J" } : Jvm.MethodName)) ∈ lw_gd := xb_mem 403 rfl rfl
set_option maxRecDepth 100000 in
theorem xk_405 : (Jvm.Cond.instanceMethod ({ cls := "NailRules", name := "formula", desc := "(IIII)J" } : Jvm.MethodName)) ∈ lw_gd := xb_mem 405 rfl rfl
set_option maxRecDepth 100000 in
theorem xk_406 : (Jvm.Cond.code ({ cls := "NailRules", name := "formula", desc := "(IIII)J" } : Jvm.MethodName) prog_1_method_26_code (9 : Nat) (Option.some Jvm.ClassFile.FieldType.long)) ∈ lw_gd := xb_mem 406 rfl rfl
set_option maxRecDepth 100000 in
theorem xk_407 : (Jvm.Cond.constantLong "NailRules" (193 : Nat) (2 : Int64)) ∈ lw_gd := xb_mem 407 rfl rfl
set_option maxRecDepth 100000 in
theorem xk_408 : (Jvm.Cond.constantLong "NailRules" (195 : Nat) (4 : Int64)) ∈ lw_gd := xb_mem 408 rfl rfl
set_option maxRecDepth 100000 in
theorem xk_409 : (Jvm.Cond.constantLong "NailRules" (89 : Nat) (200 : Int64)) ∈ lw_gd := xb_mem 409 rfl rfl
set_option maxRecDepth 100000 in
theorem xk_410 : (Jvm.Cond.methodLink "NailRulesLaw" (99 : Nat) ({ cls := "NailRulesLaw", name := "together", desc := "(LNailRules;IJ[J)I" } : Jvm.MethodName)) ∈ lw_gd := xb_mem 410 rfl rfl
set_option maxRecDepth 100000 in
theorem xk_411 : (Jvm.Cond.static ({ cls := "NailRulesLaw", name := "together", desc := "(LNailRules;IJ[J)I" } : Jvm.MethodName)) ∈ lw_gd := xb_mem 411 rfl rfl
set_option maxRecDepth 100000 in
theorem xk_412 : (Jvm.Cond.codeWith ({ cls := "NailRulesLaw", name := "together", desc := "(LNailRules;IJ[J)I" } : Jvm.MethodName) method_6_code (6 : Nat) (Option.some Jvm.ClassFile.FieldType.int) [((0 : Nat), (10 : Nat), (13 : Nat), (19 : Nat))]) ∈ lw_gd := xb_mem 412 rfl rfl
set_option maxRecDepth 100000 in
theorem xk_413 : (Jvm.Cond.methodLink "NailRulesLaw" (25 : Nat) ({ cls := "NailRules", name := "together", desc := "(IJ)J" } : Jvm.MethodName)) ∈ lw_gd := xb_mem 413 rfl rfl
set_option maxRecDepth 100000 in
theorem xk_414 : (Jvm.Cond.instanceMethod ({ cls := "NailRules", name := "together", desc := "(IJ)J" } : Jvm.MethodName)) ∈ lw_gd := xb_mem 414 rfl rfl
set_option maxRecDepth 100000 in
theorem xk_415 : (Jvm.Cond.selects "NailRules" ({ cls := "NailRules", name := "together", desc := "(IJ)J" } : Jvm.MethodName) ({ cls := "NailRules", name := "together", desc := "(IJ)J" } : Jvm.MethodName)) ∈ lw_gd := xb_mem 415 rfl rfl
set_option maxRecDepth 100000 in
theorem xk_416 : (Jvm.Cond.code ({ cls := "NailRules", name := "together", desc := "(IJ)J" } : Jvm.MethodName) prog_1_method_7_code (4 : Nat) (Option.some Jvm.ClassFile.FieldType.long)) ∈ lw_gd := xb_mem 416 rfl rfl
set_option maxRecDepth 100000 in
theorem xk_417 : (Jvm.Cond.constantLong "NailRules" (91 : Nat) (1000000000000 : Int64)) ∈ lw_gd := xb_mem 417 rfl rfl
set_option maxRecDepth 100000 in
theorem xk_418 : (Jvm.Cond.methodLink "NailRules" (93 : Nat) ({ cls := "NailRules", name := "heldByRow", desc := "(IJ)J" } : Jvm.MethodName)) ∈ lw_gd := xb_mem 418 rfl rfl
set_option maxRecDepth 100000 in
theorem xk_420 : (Jvm.Cond.instanceMethod ({ cls := "NailRules", name := "heldByRow", desc := "(IJ)J" } : Jvm.MethodName)) ∈ lw_gd := xb_mem 420 rfl rfl
set_option maxRecDepth 100000 in
theorem xk_421 : (Jvm.Cond.code ({ cls := "NailRules", name := "heldByRow", desc := "(IJ)J" } : Jvm.MethodName) prog_1_method_27_code (5 : Nat) (Option.some Jvm.ClassFile.FieldType.long)) ∈ lw_gd := xb_mem 421 rfl rfl
set_option maxRecDepth 100000 in
theorem xk_422 : (Jvm.Cond.methodLink "NailRules" (197 : Nat) ({ cls := "java/lang/Math", name := "max", desc := "(II)I" } : Jvm.MethodName)) ∈ lw_gd := xb_mem 422 rfl rfl
set_option maxRecDepth 100000 in
theorem xk_423 : (Jvm.Cond.methodLink "NailRulesLaw" (103 : Nat) ({ cls := "NailRulesLaw", name := "count", desc := "(LNailRules;JJ[J)I" } : Jvm.MethodName)) ∈ lw_gd := xb_mem 423 rfl rfl
set_option maxRecDepth 100000 in
theorem xk_424 : (Jvm.Cond.static ({ cls := "NailRulesLaw", name := "count", desc := "(LNailRules;JJ[J)I" } : Jvm.MethodName)) ∈ lw_gd := xb_mem 424 rfl rfl
set_option maxRecDepth 100000 in
theorem xk_425 : (Jvm.Cond.codeWith ({ cls := "NailRulesLaw", name := "count", desc := "(LNailRules;JJ[J)I" } : Jvm.MethodName) method_7_code (7 : Nat) (Option.some Jvm.ClassFile.FieldType.int) [((0 : Nat), (11 : Nat), (14 : Nat), (19 : Nat))]) ∈ lw_gd := xb_mem 425 rfl rfl
set_option maxRecDepth 100000 in
theorem xk_426 : (Jvm.Cond.methodLink "NailRulesLaw" (29 : Nat) ({ cls := "NailRules", name := "count", desc := "(JJ)I" } : Jvm.MethodName)) ∈ lw_gd := xb_mem 426 rfl rfl
set_option maxRecDepth 100000 in
theorem xk_427 : (Jvm.Cond.instanceMethod ({ cls := "NailRules", name := "count", desc := "(JJ)I" } : Jvm.MethodName)) ∈ lw_gd := xb_mem 427 rfl rfl
set_option maxRecDepth 100000 in
theorem xk_428 : (Jvm.Cond.selects "NailRules" ({ cls := "NailRules", name := "count", desc := "(JJ)I" } : Jvm.MethodName) ({ cls := "NailRules", name := "count", desc := "(JJ)I" } : Jvm.MethodName)) ∈ lw_gd := xb_mem 428 rfl rfl
set_option maxRecDepth 100000 in
theorem xk_429 : (Jvm.Cond.code ({ cls := "NailRules", name := "count", desc := "(JJ)I" } : Jvm.MethodName) prog_1_method_8_code (6 : Nat) (Option.some Jvm.ClassFile.FieldType.int)) ∈ lw_gd := xb_mem 429 rfl rfl
set_option maxRecDepth 100000 in
theorem xk_430 : (Jvm.Cond.methodLink "NailRulesLaw" (107 : Nat) ({ cls := "NailRulesLaw", name := "pattern", desc := "(LNailRules;IIII[J)I" } : Jvm.MethodName)) ∈ lw_gd := xb_mem 430 rfl rfl
set_option maxRecDepth 100000 in
theorem xk_431 : (Jvm.Cond.static ({ cls := "NailRulesLaw", name := "pattern", desc := "(LNailRules;IIII[J)I" } : Jvm.MethodName)) ∈ lw_gd := xb_mem 431 rfl rfl
set_option maxRecDepth 100000 in
theorem xk_432 : (Jvm.Cond.codeWith ({ cls := "NailRulesLaw", name := "pattern", desc := "(LNailRules;IIII[J)I" } : Jvm.MethodName) method_8_code (7 : Nat) (Option.some Jvm.ClassFile.FieldType.int) [((0 : Nat), (21 : Nat), (24 : Nat), (13 : Nat)), ((0 : Nat), (21 : Nat), (28 : Nat), (19 : Nat))]) ∈ lw_gd := xb_mem 432 rfl rfl
set_option maxRecDepth 100000 in
theorem xk_433 : (Jvm.Cond.methodLink "NailRulesLaw" (33 : Nat) ({ cls := "NailRules", name := "pattern", desc := "(IIII)Z" } : Jvm.MethodName)) ∈ lw_gd := xb_mem 433 rfl rfl
set_option maxRecDepth 100000 in
theorem xk_434 : (Jvm.Cond.instanceMethod ({ cls := "NailRules", name := "pattern", desc := "(IIII)Z" } : Jvm.MethodName)) ∈ lw_gd := xb_mem 434 rfl rfl
set_option maxRecDepth 100000 in
theorem xk_435 : (Jvm.Cond.selects "NailRules" ({ cls := "NailRules", name := "pattern", desc := "(IIII)Z" } : Jvm.MethodName) ({ cls := "NailRules", name := "pattern", desc := "(IIII)Z" } : Jvm.MethodName)) ∈ lw_gd := xb_mem 435 rfl rfl
set_option maxRecDepth 100000 in
theorem xk_436 : (Jvm.Cond.code ({ cls := "NailRules", name := "pattern", desc := "(IIII)Z" } : Jvm.MethodName) prog_1_method_9_code (7 : Nat) (Option.some Jvm.ClassFile.FieldType.boolean)) ∈ lw_gd := xb_mem 436 rfl rfl
set_option maxRecDepth 100000 in
theorem xk_437 : (Jvm.Cond.constantLong "NailRules" (97 : Nat) (100000 : Int64)) ∈ lw_gd := xb_mem 437 rfl rfl
set_option maxRecDepth 100000 in
theorem xk_438 : (Jvm.Cond.methodLink "NailRules" (99 : Nat) ({ cls := "NailRules", name := "space", desc := "(II)I" } : Jvm.MethodName)) ∈ lw_gd := xb_mem 438 rfl rfl
set_option maxRecDepth 100000 in
theorem xk_440 : (Jvm.Cond.instanceMethod ({ cls := "NailRules", name := "space", desc := "(II)I" } : Jvm.MethodName)) ∈ lw_gd := xb_mem 440 rfl rfl
set_option maxRecDepth 100000 in
theorem xk_441 : (Jvm.Cond.code ({ cls := "NailRules", name := "space", desc := "(II)I" } : Jvm.MethodName) prog_1_method_22_code (3 : Nat) (Option.some Jvm.ClassFile.FieldType.int)) ∈ lw_gd := xb_mem 441 rfl rfl
set_option maxRecDepth 100000 in
theorem xk_442 : (Jvm.Cond.methodLink "NailRules" (102 : Nat) ({ cls := "NailRules", name := "fitting", desc := "(III)I" } : Jvm.MethodName)) ∈ lw_gd := xb_mem 442 rfl rfl
set_option maxRecDepth 100000 in
theorem xk_443 : (Jvm.Cond.static ({ cls := "NailRules", name := "fitting", desc := "(III)I" } : Jvm.MethodName)) ∈ lw_gd := xb_mem 443 rfl rfl
set_option maxRecDepth 100000 in
theorem xk_444 : (Jvm.Cond.code ({ cls := "NailRules", name := "fitting", desc := "(III)I" } : Jvm.MethodName) prog_1_method_28_code (4 : Nat) (Option.some Jvm.ClassFile.FieldType.int)) ∈ lw_gd := xb_mem 444 rfl rfl
set_option maxRecDepth 100000 in
theorem xk_445 : (Jvm.Cond.methodLink "NailRules" (105 : Nat) ({ cls := "NailRules", name := "layOut", desc := "(III)V" } : Jvm.MethodName)) ∈ lw_gd := xb_mem 445 rfl rfl
set_option maxRecDepth 100000 in
theorem xk_447 : (Jvm.Cond.instanceMethod ({ cls := "NailRules", name := "layOut", desc := "(III)V" } : Jvm.MethodName)) ∈ lw_gd := xb_mem 447 rfl rfl
set_option maxRecDepth 100000 in
theorem xk_448 : (Jvm.Cond.code ({ cls := "NailRules", name := "layOut", desc := "(III)V" } : Jvm.MethodName) prog_1_method_29_code (7 : Nat) (Option.none : Option Jvm.ClassFile.FieldType)) ∈ lw_gd := xb_mem 448 rfl rfl
set_option maxRecDepth 100000 in
theorem xk_449 : (Jvm.Cond.methodLink "NailRulesLaw" (111 : Nat) ({ cls := "NailRulesLaw", name := "at", desc := "(LNailRules;II[J)I" } : Jvm.MethodName)) ∈ lw_gd := xb_mem 449 rfl rfl
set_option maxRecDepth 100000 in
theorem xk_450 : (Jvm.Cond.static ({ cls := "NailRulesLaw", name := "at", desc := "(LNailRules;II[J)I" } : Jvm.MethodName)) ∈ lw_gd := xb_mem 450 rfl rfl
set_option maxRecDepth 100000 in
theorem xk_451 : (Jvm.Cond.codeWith ({ cls := "NailRulesLaw", name := "at", desc := "(LNailRules;II[J)I" } : Jvm.MethodName) method_9_code (5 : Nat) (Option.some Jvm.ClassFile.FieldType.int) [((0 : Nat), (10 : Nat), (13 : Nat), (40 : Nat)), ((0 : Nat), (10 : Nat), (17 : Nat), (13 : Nat))]) ∈ lw_gd := xb_mem 451 rfl rfl
set_option maxRecDepth 100000 in
theorem xk_452 : (Jvm.Cond.classLink "NailRulesLaw" (40 : Nat) "java/lang/IllegalStateException") ∈ lw_gd := xb_mem 452 rfl rfl
set_option maxRecDepth 100000 in
theorem xk_453 : (Jvm.Cond.methodLink "NailRulesLaw" (37 : Nat) ({ cls := "NailRules", name := "at", desc := "(II)I" } : Jvm.MethodName)) ∈ lw_gd := xb_mem 453 rfl rfl
set_option maxRecDepth 100000 in
theorem xk_454 : (Jvm.Cond.instanceMethod ({ cls := "NailRules", name := "at", desc := "(II)I" } : Jvm.MethodName)) ∈ lw_gd := xb_mem 454 rfl rfl
set_option maxRecDepth 100000 in
theorem xk_455 : (Jvm.Cond.selects "NailRules" ({ cls := "NailRules", name := "at", desc := "(II)I" } : Jvm.MethodName) ({ cls := "NailRules", name := "at", desc := "(II)I" } : Jvm.MethodName)) ∈ lw_gd := xb_mem 455 rfl rfl
set_option maxRecDepth 100000 in
theorem xk_456 : (Jvm.Cond.code ({ cls := "NailRules", name := "at", desc := "(II)I" } : Jvm.MethodName) prog_1_method_10_code (3 : Nat) (Option.some Jvm.ClassFile.FieldType.int)) ∈ lw_gd := xb_mem 456 rfl rfl
set_option maxRecDepth 100000 in
theorem xk_457 : (Jvm.Cond.classLink "NailRules" (109 : Nat) "java/lang/IllegalStateException") ∈ lw_gd := xb_mem 457 rfl rfl
set_option maxRecDepth 100000 in
theorem xk_459 : (Jvm.Cond.castable "java/lang/IllegalStateException" "java/lang/IllegalStateException") ∈ lw_tbl := List.mem_of_getElem? (i := 459) rfl
set_option maxRecDepth 100000 in
theorem xk_466 : (Jvm.Cond.stringRef "NailRules" (111 : Nat) "there is no pattern") ∈ lw_tbl := List.mem_of_getElem? (i := 466) rfl
set_option maxRecDepth 100000 in
theorem xk_473 : (Jvm.Cond.methodLink "NailRulesLaw" (114 : Nat) ({ cls := "NailRulesLaw", name := "place", desc := "(LNailRules;II[J)I" } : Jvm.MethodName)) ∈ lw_gd := xb_mem 473 rfl rfl
set_option maxRecDepth 100000 in
theorem xk_474 : (Jvm.Cond.static ({ cls := "NailRulesLaw", name := "place", desc := "(LNailRules;II[J)I" } : Jvm.MethodName)) ∈ lw_gd := xb_mem 474 rfl rfl
set_option maxRecDepth 100000 in
theorem xk_475 : (Jvm.Cond.codeWith ({ cls := "NailRulesLaw", name := "place", desc := "(LNailRules;II[J)I" } : Jvm.MethodName) method_10_code (5 : Nat) (Option.some Jvm.ClassFile.FieldType.int) [((0 : Nat), (10 : Nat), (13 : Nat), (19 : Nat)), ((0 : Nat), (10 : Nat), (17 : Nat), (40 : Nat))]) ∈ lw_gd := xb_mem 475 rfl rfl
set_option maxRecDepth 100000 in
theorem xk_476 : (Jvm.Cond.methodLink "NailRulesLaw" (42 : Nat) ({ cls := "NailRules", name := "place", desc := "(II)I" } : Jvm.MethodName)) ∈ lw_gd := xb_mem 476 rfl rfl
set_option maxRecDepth 100000 in
theorem xk_477 : (Jvm.Cond.instanceMethod ({ cls := "NailRules", name := "place", desc := "(II)I" } : Jvm.MethodName)) ∈ lw_gd := xb_mem 477 rfl rfl
set_option maxRecDepth 100000 in
theorem xk_478 : (Jvm.Cond.selects "NailRules" ({ cls := "NailRules", name := "place", desc := "(II)I" } : Jvm.MethodName) ({ cls := "NailRules", name := "place", desc := "(II)I" } : Jvm.MethodName)) ∈ lw_gd := xb_mem 478 rfl rfl
set_option maxRecDepth 100000 in
theorem xk_479 : (Jvm.Cond.code ({ cls := "NailRules", name := "place", desc := "(II)I" } : Jvm.MethodName) prog_1_method_11_code (3 : Nat) (Option.some Jvm.ClassFile.FieldType.int)) ∈ lw_gd := xb_mem 479 rfl rfl
set_option maxRecDepth 100000 in
theorem xk_480 : (Jvm.Cond.stringRef "NailRules" (116 : Nat) "there is no room for a place") ∈ lw_tbl := List.mem_of_getElem? (i := 480) rfl
set_option maxRecDepth 100000 in
theorem xk_481 : (Jvm.Cond.methodLink "NailRulesLaw" (121 : Nat) ({ cls := "NailRulesLaw", name := "keeps", desc := "(LNailRules;III[J)I" } : Jvm.MethodName)) ∈ lw_gd := xb_mem 481 rfl rfl
set_option maxRecDepth 100000 in
theorem xk_482 : (Jvm.Cond.static ({ cls := "NailRulesLaw", name := "keeps", desc := "(LNailRules;III[J)I" } : Jvm.MethodName)) ∈ lw_gd := xb_mem 482 rfl rfl
set_option maxRecDepth 100000 in
theorem xk_483 : (Jvm.Cond.codeWith ({ cls := "NailRulesLaw", name := "keeps", desc := "(LNailRules;III[J)I" } : Jvm.MethodName) method_11_code (6 : Nat) (Option.some Jvm.ClassFile.FieldType.int) [((0 : Nat), (12 : Nat), (15 : Nat), (13 : Nat)), ((0 : Nat), (12 : Nat), (19 : Nat), (19 : Nat))]) ∈ lw_gd := xb_mem 483 rfl rfl
set_option maxRecDepth 100000 in
theorem xk_484 : (Jvm.Cond.methodLink "NailRulesLaw" (45 : Nat) ({ cls := "NailRules", name := "keeps", desc := "(III)I" } : Jvm.MethodName)) ∈ lw_gd := xb_mem 484 rfl rfl
set_option maxRecDepth 100000 in
theorem xk_485 : (Jvm.Cond.instanceMethod ({ cls := "NailRules", name := "keeps", desc := "(III)I" } : Jvm.MethodName)) ∈ lw_gd := xb_mem 485 rfl rfl
set_option maxRecDepth 100000 in
theorem xk_486 : (Jvm.Cond.selects "NailRules" ({ cls := "NailRules", name := "keeps", desc := "(III)I" } : Jvm.MethodName) ({ cls := "NailRules", name := "keeps", desc := "(III)I" } : Jvm.MethodName)) ∈ lw_gd := xb_mem 486 rfl rfl
set_option maxRecDepth 100000 in
theorem xk_487 : (Jvm.Cond.code ({ cls := "NailRules", name := "keeps", desc := "(III)I" } : Jvm.MethodName) prog_1_method_13_code (6 : Nat) (Option.some Jvm.ClassFile.FieldType.int)) ∈ lw_gd := xb_mem 487 rfl rfl
set_option maxRecDepth 100000 in
theorem xk_488 : (Jvm.Cond.methodLink "NailRules" (118 : Nat) ({ cls := "NailRules", name := "firstNearSide", desc := "(III)I" } : Jvm.MethodName)) ∈ lw_gd := xb_mem 488 rfl rfl
set_option maxRecDepth 100000 in
theorem xk_490 : (Jvm.Cond.instanceMethod ({ cls := "NailRules", name := "firstNearSide", desc := "(III)I" } : Jvm.MethodName)) ∈ lw_gd := xb_mem 490 rfl rfl
set_option maxRecDepth 100000 in
theorem xk_491 : (Jvm.Cond.code ({ cls := "NailRules", name := "firstNearSide", desc := "(III)I" } : Jvm.MethodName) prog_1_method_30_code (9 : Nat) (Option.some Jvm.ClassFile.FieldType.int)) ∈ lw_gd := xb_mem 491 rfl rfl
set_option maxRecDepth 100000 in
theorem xk_492 : (Jvm.Cond.methodLink "NailRules" (202 : Nat) ({ cls := "java/lang/Math", name := "min", desc := "(II)I" } : Jvm.MethodName)) ∈ lw_gd := xb_mem 492 rfl rfl
set_option maxRecDepth 100000 in
theorem xk_493 : (Jvm.Cond.static ({ cls := "java/lang/Math", name := "min", desc := "(II)I" } : Jvm.MethodName)) ∈ lw_gd := xb_mem 493 rfl rfl
set_option maxRecDepth 100000 in
theorem xk_494 : (Jvm.Cond.code ({ cls := "java/lang/Math", name := "min", desc := "(II)I" } : Jvm.MethodName) prog_13_method_69_code (2 : Nat) (Option.some Jvm.ClassFile.FieldType.int)) ∈ lw_gd := xb_mem 494 rfl rfl
set_option maxRecDepth 100000 in
theorem xk_495 : (Jvm.Cond.methodLink "NailRules" (121 : Nat) ({ cls := "NailRules", name := "firstNearPair", desc := "(J)I" } : Jvm.MethodName)) ∈ lw_gd := xb_mem 495 rfl rfl
set_option maxRecDepth 100000 in
theorem xk_497 : (Jvm.Cond.instanceMethod ({ cls := "NailRules", name := "firstNearPair", desc := "(J)I" } : Jvm.MethodName)) ∈ lw_gd := xb_mem 497 rfl rfl
set_option maxRecDepth 100000 in
theorem xk_498 : (Jvm.Cond.code ({ cls := "NailRules", name := "firstNearPair", desc := "(J)I" } : Jvm.MethodName) prog_1_method_31_code (5 : Nat) (Option.some Jvm.ClassFile.FieldType.int)) ∈ lw_gd := xb_mem 498 rfl rfl
set_option maxRecDepth 100000 in
theorem xk_499 : (Jvm.Cond.methodLink "NailRules" (205 : Nat) ({ cls := "NailRules", name := "squareBetween", desc := "(II)J" } : Jvm.MethodName)) ∈ lw_gd := xb_mem 499 rfl rfl
set_option maxRecDepth 100000 in
theorem xk_501 : (Jvm.Cond.instanceMethod ({ cls := "NailRules", name := "squareBetween", desc := "(II)J" } : Jvm.MethodName)) ∈ lw_gd := xb_mem 501 rfl rfl
set_option maxRecDepth 100000 in
theorem xk_502 : (Jvm.Cond.code ({ cls := "NailRules", name := "squareBetween", desc := "(II)J" } : Jvm.MethodName) prog_1_method_32_code (7 : Nat) (Option.some Jvm.ClassFile.FieldType.long)) ∈ lw_gd := xb_mem 502 rfl rfl
set_option maxRecDepth 100000 in
theorem xk_503 : (Jvm.Cond.methodLink "NailRulesLaw" (125 : Nat) ({ cls := "NailRulesLaw", name := "member", desc := "(LNailRules;IIIII[J)I" } : Jvm.MethodName)) ∈ lw_gd := xb_mem 503 rfl rfl
set_option maxRecDepth 100000 in
theorem xk_504 : (Jvm.Cond.static ({ cls := "NailRulesLaw", name := "member", desc := "(LNailRules;IIIII[J)I" } : Jvm.MethodName)) ∈ lw_gd := xb_mem 504 rfl rfl
set_option maxRecDepth 100000 in
theorem xk_505 : (Jvm.Cond.codeWith ({ cls := "NailRulesLaw", name := "member", desc := "(LNailRules;IIIII[J)I" } : Jvm.MethodName) method_12_code (8 : Nat) (Option.some Jvm.ClassFile.FieldType.int) [((0 : Nat), (16 : Nat), (19 : Nat), (19 : Nat)), ((0 : Nat), (16 : Nat), (23 : Nat), (40 : Nat))]) ∈ lw_gd := xb_mem 505 rfl rfl
set_option maxRecDepth 100000 in
theorem xk_506 : (Jvm.Cond.methodLink "NailRulesLaw" (49 : Nat) ({ cls := "NailRules", name := "member", desc := "(IIIII)I" } : Jvm.MethodName)) ∈ lw_gd := xb_mem 506 rfl rfl
set_option maxRecDepth 100000 in
theorem xk_507 : (Jvm.Cond.instanceMethod ({ cls := "NailRules", name := "member", desc := "(IIIII)I" } : Jvm.MethodName)) ∈ lw_gd := xb_mem 507 rfl rfl
set_option maxRecDepth 100000 in
theorem xk_508 : (Jvm.Cond.selects "NailRules" ({ cls := "NailRules", name := "member", desc := "(IIIII)I" } : Jvm.MethodName) ({ cls := "NailRules", name := "member", desc := "(IIIII)I" } : Jvm.MethodName)) ∈ lw_gd := xb_mem 508 rfl rfl
set_option maxRecDepth 100000 in
theorem xk_509 : (Jvm.Cond.code ({ cls := "NailRules", name := "member", desc := "(IIIII)I" } : Jvm.MethodName) prog_1_method_14_code (6 : Nat) (Option.some Jvm.ClassFile.FieldType.int)) ∈ lw_gd := xb_mem 509 rfl rfl
set_option maxRecDepth 100000 in
theorem xk_510 : (Jvm.Cond.constantLong "NailRules" (125 : Nat) (-10000 : Int64)) ∈ lw_gd := xb_mem 510 rfl rfl
set_option maxRecDepth 100000 in
theorem xk_511 : (Jvm.Cond.constantLong "NailRules" (127 : Nat) (10000 : Int64)) ∈ lw_gd := xb_mem 511 rfl rfl
set_option maxRecDepth 100000 in
theorem xk_512 : (Jvm.Cond.stringRef "NailRules" (131 : Nat) "both ends are one") ∈ lw_tbl := List.mem_of_getElem? (i := 512) rfl
set_option maxRecDepth 100000 in
theorem xk_513 : (Jvm.Cond.methodLink "NailRules" (134 : Nat) ({ cls := "java/util/ArrayList", name := "size", desc := "()I" } : Jvm.MethodName)) ∈ lw_gd := xb_mem 513 rfl rfl
set_option maxRecDepth 100000 in
theorem xk_514 : (Jvm.Cond.instanceMethod ({ cls := "java/util/ArrayList", name := "size", desc := "()I" } : Jvm.MethodName)) ∈ lw_gd := xb_mem 514 rfl rfl
set_option maxRecDepth 100000 in
theorem xk_515 : (Jvm.Cond.selects "java/util/ArrayList" ({ cls := "java/util/ArrayList", name := "size", desc := "()I" } : Jvm.MethodName) ({ cls := "java/util/ArrayList", name := "size", desc := "()I" } : Jvm.MethodName)) ∈ lw_gd := xb_mem 515 rfl rfl
set_option maxRecDepth 100000 in
theorem xk_516 : (Jvm.Cond.code ({ cls := "java/util/ArrayList", name := "size", desc := "()I" } : Jvm.MethodName) prog_22_method_8_code (1 : Nat) (Option.some Jvm.ClassFile.FieldType.int)) ∈ lw_gd := xb_mem 516 rfl rfl
set_option maxRecDepth 100000 in
theorem xk_517 : (Jvm.Cond.stringRef "NailRules" (137 : Nat) "there is no room for a member") ∈ lw_tbl := List.mem_of_getElem? (i := 517) rfl
set_option maxRecDepth 100000 in
theorem xk_518 : (Jvm.Cond.classLink "NailRules" (139 : Nat) "NailRules$Member") ∈ lw_gd := xb_mem 518 rfl rfl
set_option maxRecDepth 100000 in
theorem xk_519 : (Jvm.Cond.instantiable "NailRules$Member" (5 : Nat)) ∈ lw_gd := xb_mem 519 rfl rfl
set_option maxRecDepth 100000 in
theorem xk_520 : (Jvm.Cond.methodLinkNest "NailRules" (141 : Nat) ({ cls := "NailRules$Member", name := "<init>", desc := "(IIIII)V" } : Jvm.MethodName) "NailRules") ∈ lw_tbl := List.mem_of_getElem? (i := 520) rfl
set_option maxRecDepth 100000 in
theorem xk_521 : (Jvm.Cond.instanceMethod ({ cls := "NailRules$Member", name := "<init>", desc := "(IIIII)V" } : Jvm.MethodName)) ∈ lw_gd := xb_mem 521 rfl rfl
set_option maxRecDepth 100000 in
theorem xk_522 : (Jvm.Cond.code ({ cls := "NailRules$Member", name := "<init>", desc := "(IIIII)V" } : Jvm.MethodName) prog_2_method_1_code (6 : Nat) (Option.none : Option Jvm.ClassFile.FieldType)) ∈ lw_gd := xb_mem 522 rfl rfl
set_option maxRecDepth 100000 in
theorem xk_523 : (Jvm.Cond.methodLink "NailRules$Member" (1 : Nat) ({ cls := "java/lang/Object", name := "<init>", desc := "()V" } : Jvm.MethodName)) ∈ lw_gd := xb_mem 523 rfl rfl
set_option maxRecDepth 100000 in
theorem xk_524 : (Jvm.Cond.fieldLink "NailRules$Member" (7 : Nat) "NailRules$Member" "x0" "J") ∈ lw_gd := xb_mem 524 rfl rfl
set_option maxRecDepth 100000 in
theorem xk_525 : (Jvm.Cond.fieldLink "NailRules$Member" (13 : Nat) "NailRules$Member" "y0" "J") ∈ lw_gd := xb_mem 525 rfl rfl
set_option maxRecDepth 100000 in
theorem xk_526 : (Jvm.Cond.fieldLink "NailRules$Member" (16 : Nat) "NailRules$Member" "alongX" "J") ∈ lw_gd := xb_mem 526 rfl rfl
set_option maxRecDepth 100000 in
theorem xk_527 : (Jvm.Cond.fieldLink "NailRules$Member" (19 : Nat) "NailRules$Member" "alongY" "J") ∈ lw_gd := xb_mem 527 rfl rfl
set_option maxRecDepth 100000 in
theorem xk_528 : (Jvm.Cond.fieldLink "NailRules$Member" (22 : Nat) "NailRules$Member" "wide" "J") ∈ lw_gd := xb_mem 528 rfl rfl
set_option maxRecDepth 100000 in
theorem xk_529 : (Jvm.Cond.laysFinal "NailRules$Member" "NailRules$Member" "x0" "J") ∈ lw_gd := xb_mem 529 rfl rfl
set_option maxRecDepth 100000 in
theorem xk_531 : (Jvm.Cond.laysFinal "NailRules$Member" "NailRules$Member" "y0" "J") ∈ lw_gd := xb_mem 531 rfl rfl
set_option maxRecDepth 100000 in
theorem xk_533 : (Jvm.Cond.laysFinal "NailRules$Member" "NailRules$Member" "alongX" "J") ∈ lw_gd := xb_mem 533 rfl rfl
set_option maxRecDepth 100000 in
theorem xk_535 : (Jvm.Cond.laysFinal "NailRules$Member" "NailRules$Member" "alongY" "J") ∈ lw_gd := xb_mem 535 rfl rfl
set_option maxRecDepth 100000 in
theorem xk_537 : (Jvm.Cond.laysFinal "NailRules$Member" "NailRules$Member" "wide" "J") ∈ lw_gd := xb_mem 537 rfl rfl
set_option maxRecDepth 100000 in
theorem xk_540 : (Jvm.Cond.methodLink "NailRules" (144 : Nat) ({ cls := "java/util/ArrayList", name := "add", desc := "(Ljava/lang/Object;)Z" } : Jvm.MethodName)) ∈ lw_gd := xb_mem 540 rfl rfl
set_option maxRecDepth 100000 in
theorem xk_541 : (Jvm.Cond.instanceMethod ({ cls := "java/util/ArrayList", name := "add", desc := "(Ljava/lang/Object;)Z" } : Jvm.MethodName)) ∈ lw_gd := xb_mem 541 rfl rfl
set_option maxRecDepth 100000 in
theorem xk_542 : (Jvm.Cond.selects "java/util/ArrayList" ({ cls := "java/util/ArrayList", name := "add", desc := "(Ljava/lang/Object;)Z" } : Jvm.MethodName) ({ cls := "java/util/ArrayList", name := "add", desc := "(Ljava/lang/Object;)Z" } : Jvm.MethodName)) ∈ lw_gd := xb_mem 542 rfl rfl
set_option maxRecDepth 100000 in
theorem xk_543 : (Jvm.Cond.code ({ cls := "java/util/ArrayList", name := "add", desc := "(Ljava/lang/Object;)Z" } : Jvm.MethodName) prog_22_method_25_code (2 : Nat) (Option.some Jvm.ClassFile.FieldType.boolean)) ∈ lw_gd := xb_mem 543 rfl rfl
set_option maxRecDepth 100000 in
theorem xk_544 : (Jvm.Cond.methodLink "java/util/ArrayList" (131 : Nat) ({ cls := "java/util/ArrayList", name := "add", desc := "(Ljava/lang/Object;[Ljava/lang/Object;I)V" } : Jvm.MethodName)) ∈ lw_gd := xb_mem 544 rfl rfl
set_option maxRecDepth 100000 in
theorem xk_546 : (Jvm.Cond.instanceMethod ({ cls := "java/util/ArrayList", name := "add", desc := "(Ljava/lang/Object;[Ljava/lang/Object;I)V" } : Jvm.MethodName)) ∈ lw_gd := xb_mem 546 rfl rfl
set_option maxRecDepth 100000 in
theorem xk_547 : (Jvm.Cond.code ({ cls := "java/util/ArrayList", name := "add", desc := "(Ljava/lang/Object;[Ljava/lang/Object;I)V" } : Jvm.MethodName) prog_22_method_24_code (4 : Nat) (Option.none : Option Jvm.ClassFile.FieldType)) ∈ lw_gd := xb_mem 547 rfl rfl
set_option maxRecDepth 100000 in
theorem xk_548 : (Jvm.Cond.methodLink "java/util/ArrayList" (129 : Nat) ({ cls := "java/util/ArrayList", name := "grow", desc := "()[Ljava/lang/Object;" } : Jvm.MethodName)) ∈ lw_gd := xb_mem 548 rfl rfl
set_option maxRecDepth 100000 in
theorem xk_550 : (Jvm.Cond.instanceMethod ({ cls := "java/util/ArrayList", name := "grow", desc := "()[Ljava/lang/Object;" } : Jvm.MethodName)) ∈ lw_gd := xb_mem 550 rfl rfl
set_option maxRecDepth 100000 in
theorem xk_551 : (Jvm.Cond.code ({ cls := "java/util/ArrayList", name := "grow", desc := "()[Ljava/lang/Object;" } : Jvm.MethodName) prog_22_method_7_code (1 : Nat) (Option.some (Jvm.ClassFile.FieldType.array (Jvm.ClassFile.FieldType.object "java/lang/Object")))) ∈ lw_gd := xb_mem 551 rfl rfl
set_option maxRecDepth 100000 in
theorem xk_552 : (Jvm.Cond.methodLink "java/util/ArrayList" (69 : Nat) ({ cls := "java/util/ArrayList", name := "grow", desc := "(I)[Ljava/lang/Object;" } : Jvm.MethodName)) ∈ lw_gd := xb_mem 552 rfl rfl
set_option maxRecDepth 100000 in
theorem xk_554 : (Jvm.Cond.instanceMethod ({ cls := "java/util/ArrayList", name := "grow", desc := "(I)[Ljava/lang/Object;" } : Jvm.MethodName)) ∈ lw_gd := xb_mem 554 rfl rfl
set_option maxRecDepth 100000 in
theorem xk_555 : (Jvm.Cond.code ({ cls := "java/util/ArrayList", name := "grow", desc := "(I)[Ljava/lang/Object;" } : Jvm.MethodName) prog_22_method_6_code (4 : Nat) (Option.some (Jvm.ClassFile.FieldType.array (Jvm.ClassFile.FieldType.object "java/lang/Object")))) ∈ lw_gd := xb_mem 555 rfl rfl
set_option maxRecDepth 100000 in
theorem xk_583 : (Jvm.Cond.arrayOver (Jvm.ClassFile.FieldType.object "java/lang/Object")) ∈ lw_tbl := List.mem_of_getElem? (i := 583) rfl
set_option maxRecDepth 100000 in
theorem xk_589 : (Jvm.Cond.methodLink "java/util/ArrayList" (79 : Nat) ({ cls := "java/lang/Math", name := "max", desc := "(II)I" } : Jvm.MethodName)) ∈ lw_gd := xb_mem 589 rfl rfl
set_option maxRecDepth 100000 in
theorem xk_590 : (Jvm.Cond.classLink "java/util/ArrayList" (7 : Nat) "java/lang/Object") ∈ lw_gd := xb_mem 590 rfl rfl
set_option maxRecDepth 100000 in
theorem xk_591 : (Jvm.Cond.methodLink "NailRulesLaw" (128 : Nat) ({ cls := "NailRulesLaw", name := "in", desc := "(LNailRules;III[J)I" } : Jvm.MethodName)) ∈ lw_gd := xb_mem 591 rfl rfl
set_option maxRecDepth 100000 in
theorem xk_592 : (Jvm.Cond.static ({ cls := "NailRulesLaw", name := "in", desc := "(LNailRules;III[J)I" } : Jvm.MethodName)) ∈ lw_gd := xb_mem 592 rfl rfl
set_option maxRecDepth 100000 in
theorem xk_593 : (Jvm.Cond.codeWith ({ cls := "NailRulesLaw", name := "in", desc := "(LNailRules;III[J)I" } : Jvm.MethodName) method_13_code (6 : Nat) (Option.some Jvm.ClassFile.FieldType.int) [((0 : Nat), (19 : Nat), (22 : Nat), (13 : Nat)), ((0 : Nat), (19 : Nat), (26 : Nat), (19 : Nat))]) ∈ lw_gd := xb_mem 593 rfl rfl
set_option maxRecDepth 100000 in
theorem xk_594 : (Jvm.Cond.methodLink "NailRulesLaw" (53 : Nat) ({ cls := "NailRules", name := "in", desc := "(III)Z" } : Jvm.MethodName)) ∈ lw_gd := xb_mem 594 rfl rfl
set_option maxRecDepth 100000 in
theorem xk_595 : (Jvm.Cond.instanceMethod ({ cls := "NailRules", name := "in", desc := "(III)Z" } : Jvm.MethodName)) ∈ lw_gd := xb_mem 595 rfl rfl
set_option maxRecDepth 100000 in
theorem xk_596 : (Jvm.Cond.selects "NailRules" ({ cls := "NailRules", name := "in", desc := "(III)Z" } : Jvm.MethodName) ({ cls := "NailRules", name := "in", desc := "(III)Z" } : Jvm.MethodName)) ∈ lw_gd := xb_mem 596 rfl rfl
set_option maxRecDepth 100000 in
theorem xk_597 : (Jvm.Cond.code ({ cls := "NailRules", name := "in", desc := "(III)Z" } : Jvm.MethodName) prog_1_method_15_code (4 : Nat) (Option.some Jvm.ClassFile.FieldType.boolean)) ∈ lw_gd := xb_mem 597 rfl rfl
set_option maxRecDepth 100000 in
theorem xk_598 : (Jvm.Cond.methodLink "NailRules" (148 : Nat) ({ cls := "java/util/ArrayList", name := "get", desc := "(I)Ljava/lang/Object;" } : Jvm.MethodName)) ∈ lw_gd := xb_mem 598 rfl rfl
set_option maxRecDepth 100000 in
theorem xk_599 : (Jvm.Cond.instanceMethod ({ cls := "java/util/ArrayList", name := "get", desc := "(I)Ljava/lang/Object;" } : Jvm.MethodName)) ∈ lw_gd := xb_mem 599 rfl rfl
set_option maxRecDepth 100000 in
theorem xk_600 : (Jvm.Cond.selects "java/util/ArrayList" ({ cls := "java/util/ArrayList", name := "get", desc := "(I)Ljava/lang/Object;" } : Jvm.MethodName) ({ cls := "java/util/ArrayList", name := "get", desc := "(I)Ljava/lang/Object;" } : Jvm.MethodName)) ∈ lw_gd := xb_mem 600 rfl rfl
set_option maxRecDepth 100000 in
theorem xk_601 : (Jvm.Cond.code ({ cls := "java/util/ArrayList", name := "get", desc := "(I)Ljava/lang/Object;" } : Jvm.MethodName) prog_22_method_20_code (2 : Nat) (Option.some (Jvm.ClassFile.FieldType.object "java/lang/Object"))) ∈ lw_gd := xb_mem 601 rfl rfl
set_option maxRecDepth 100000 in
theorem xk_602 : (Jvm.Cond.methodLink "java/util/ArrayList" (118 : Nat) ({ cls := "java/util/Objects", name := "checkIndex", desc := "(II)I" } : Jvm.MethodName)) ∈ lw_gd := xb_mem 602 rfl rfl
set_option maxRecDepth 100000 in
theorem xk_603 : (Jvm.Cond.static ({ cls := "java/util/Objects", name := "checkIndex", desc := "(II)I" } : Jvm.MethodName)) ∈ lw_gd := xb_mem 603 rfl rfl
set_option maxRecDepth 100000 in
theorem xk_604 : (Jvm.Cond.code ({ cls := "java/util/Objects", name := "checkIndex", desc := "(II)I" } : Jvm.MethodName) prog_26_method_17_code (2 : Nat) (Option.some Jvm.ClassFile.FieldType.int)) ∈ lw_gd := xb_mem 604 rfl rfl
set_option maxRecDepth 100000 in
theorem xk_605 : (Jvm.Cond.methodLink "java/util/Objects" (105 : Nat) ({ cls := "jdk/internal/util/Preconditions", name := "checkIndex", desc := "(IILjava/util/function/BiFunction;)I" } : Jvm.MethodName)) ∈ lw_gd := xb_mem 605 rfl rfl
set_option maxRecDepth 100000 in
theorem xk_606 : (Jvm.Cond.methodLink "java/util/ArrayList" (123 : Nat) ({ cls := "java/util/ArrayList", name := "elementData", desc := "(I)Ljava/lang/Object;" } : Jvm.MethodName)) ∈ lw_gd := xb_mem 606 rfl rfl
set_option maxRecDepth 100000 in
theorem xk_607 : (Jvm.Cond.instanceMethod ({ cls := "java/util/ArrayList", name := "elementData", desc := "(I)Ljava/lang/Object;" } : Jvm.MethodName)) ∈ lw_gd := xb_mem 607 rfl rfl
set_option maxRecDepth 100000 in
theorem xk_608 : (Jvm.Cond.selects "java/util/ArrayList" ({ cls := "java/util/ArrayList", name := "elementData", desc := "(I)Ljava/lang/Object;" } : Jvm.MethodName) ({ cls := "java/util/ArrayList", name := "elementData", desc := "(I)Ljava/lang/Object;" } : Jvm.MethodName)) ∈ lw_gd := xb_mem 608 rfl rfl
set_option maxRecDepth 100000 in
theorem xk_609 : (Jvm.Cond.code ({ cls := "java/util/ArrayList", name := "elementData", desc := "(I)Ljava/lang/Object;" } : Jvm.MethodName) prog_22_method_18_code (2 : Nat) (Option.some (Jvm.ClassFile.FieldType.object "java/lang/Object"))) ∈ lw_gd := xb_mem 609 rfl rfl
set_option maxRecDepth 100000 in
theorem xk_610 : (Jvm.Cond.methodLinkNest "NailRules" (152 : Nat) ({ cls := "NailRules$Member", name := "grips", desc := "(II)Z" } : Jvm.MethodName) "NailRules") ∈ lw_tbl := List.mem_of_getElem? (i := 610) rfl
set_option maxRecDepth 100000 in
theorem xk_612 : (Jvm.Cond.instanceMethod ({ cls := "NailRules$Member", name := "grips", desc := "(II)Z" } : Jvm.MethodName)) ∈ lw_gd := xb_mem 612 rfl rfl
set_option maxRecDepth 100000 in
theorem xk_613 : (Jvm.Cond.code ({ cls := "NailRules$Member", name := "grips", desc := "(II)Z" } : Jvm.MethodName) prog_2_method_2_code (13 : Nat) (Option.some Jvm.ClassFile.FieldType.boolean)) ∈ lw_gd := xb_mem 613 rfl rfl
set_option maxRecDepth 100000 in
theorem xk_614 : (Jvm.Cond.constantLong "NailRules$Member" (25 : Nat) (4 : Int64)) ∈ lw_gd := xb_mem 614 rfl rfl
set_option maxRecDepth 100000 in
theorem xk_615 : (Jvm.Cond.methodLink "NailRulesLaw" (131 : Nat) ({ cls := "NailRulesLaw", name := "teeth", desc := "(LNailRules;IIIIII[J)I" } : Jvm.MethodName)) ∈ lw_gd := xb_mem 615 rfl rfl
set_option maxRecDepth 100000 in
theorem xk_616 : (Jvm.Cond.static ({ cls := "NailRulesLaw", name := "teeth", desc := "(LNailRules;IIIIII[J)I" } : Jvm.MethodName)) ∈ lw_gd := xb_mem 616 rfl rfl
set_option maxRecDepth 100000 in
theorem xk_617 : (Jvm.Cond.codeWith ({ cls := "NailRulesLaw", name := "teeth", desc := "(LNailRules;IIIIII[J)I" } : Jvm.MethodName) method_14_code (9 : Nat) (Option.some Jvm.ClassFile.FieldType.int) [((0 : Nat), (18 : Nat), (21 : Nat), (13 : Nat)), ((0 : Nat), (18 : Nat), (25 : Nat), (19 : Nat))]) ∈ lw_gd := xb_mem 617 rfl rfl
set_option maxRecDepth 100000 in
theorem xk_618 : (Jvm.Cond.methodLink "NailRulesLaw" (57 : Nat) ({ cls := "NailRules", name := "teeth", desc := "(IIIIII)I" } : Jvm.MethodName)) ∈ lw_gd := xb_mem 618 rfl rfl
set_option maxRecDepth 100000 in
theorem xk_619 : (Jvm.Cond.instanceMethod ({ cls := "NailRules", name := "teeth", desc := "(IIIIII)I" } : Jvm.MethodName)) ∈ lw_gd := xb_mem 619 rfl rfl
set_option maxRecDepth 100000 in
theorem xk_620 : (Jvm.Cond.selects "NailRules" ({ cls := "NailRules", name := "teeth", desc := "(IIIIII)I" } : Jvm.MethodName) ({ cls := "NailRules", name := "teeth", desc := "(IIIIII)I" } : Jvm.MethodName)) ∈ lw_gd := xb_mem 620 rfl rfl
set_option maxRecDepth 100000 in
theorem xk_621 : (Jvm.Cond.code ({ cls := "NailRules", name := "teeth", desc := "(IIIIII)I" } : Jvm.MethodName) prog_1_method_16_code (11 : Nat) (Option.some Jvm.ClassFile.FieldType.int)) ∈ lw_gd := xb_mem 621 rfl rfl
set_option maxRecDepth 100000 in
theorem xk_622 : (Jvm.Cond.constantLong "NailRules" (156 : Nat) (10 : Int64)) ∈ lw_gd := xb_mem 622 rfl rfl
set_option maxRecDepth 100000 in
theorem xk_623 : (Jvm.Cond.methodLink "NailRulesLaw" (135 : Nat) ({ cls := "NailRulesLaw", name := "thick", desc := "(LNailRules;II[J)I" } : Jvm.MethodName)) ∈ lw_gd := xb_mem 623 rfl rfl
set_option maxRecDepth 100000 in
theorem xk_624 : (Jvm.Cond.static ({ cls := "NailRulesLaw", name := "thick", desc := "(LNailRules;II[J)I" } : Jvm.MethodName)) ∈ lw_gd := xb_mem 624 rfl rfl
set_option maxRecDepth 100000 in
theorem xk_625 : (Jvm.Cond.codeWith ({ cls := "NailRulesLaw", name := "thick", desc := "(LNailRules;II[J)I" } : Jvm.MethodName) method_15_code (5 : Nat) (Option.some Jvm.ClassFile.FieldType.int) [((0 : Nat), (17 : Nat), (20 : Nat), (13 : Nat)), ((0 : Nat), (17 : Nat), (24 : Nat), (19 : Nat))]) ∈ lw_gd := xb_mem 625 rfl rfl
set_option maxRecDepth 100000 in
theorem xk_626 : (Jvm.Cond.methodLink "NailRulesLaw" (61 : Nat) ({ cls := "NailRules", name := "thick", desc := "(II)Z" } : Jvm.MethodName)) ∈ lw_gd := xb_mem 626 rfl rfl
set_option maxRecDepth 100000 in
theorem xk_627 : (Jvm.Cond.instanceMethod ({ cls := "NailRules", name := "thick", desc := "(II)Z" } : Jvm.MethodName)) ∈ lw_gd := xb_mem 627 rfl rfl
set_option maxRecDepth 100000 in
theorem xk_628 : (Jvm.Cond.selects "NailRules" ({ cls := "NailRules", name := "thick", desc := "(II)Z" } : Jvm.MethodName) ({ cls := "NailRules", name := "thick", desc := "(II)Z" } : Jvm.MethodName)) ∈ lw_gd := xb_mem 628 rfl rfl
set_option maxRecDepth 100000 in
theorem xk_629 : (Jvm.Cond.code ({ cls := "NailRules", name := "thick", desc := "(II)Z" } : Jvm.MethodName) prog_1_method_17_code (3 : Nat) (Option.some Jvm.ClassFile.FieldType.boolean)) ∈ lw_gd := xb_mem 629 rfl rfl
set_option maxRecDepth 100000 in
theorem xk_630 : (Jvm.Cond.stringRef "NailRules" (158 : Nat) "a thickness below 0") ∈ lw_tbl := List.mem_of_getElem? (i := 630) rfl
set_option maxRecDepth 100000 in
theorem xk_631 : (Jvm.Cond.methodLink "NailRulesLaw" (138 : Nat) ({ cls := "NailRulesLaw", name := "hole", desc := "(LNailRules;I[J)I" } : Jvm.MethodName)) ∈ lw_gd := xb_mem 631 rfl rfl
set_option maxRecDepth 100000 in
theorem xk_632 : (Jvm.Cond.static ({ cls := "NailRulesLaw", name := "hole", desc := "(LNailRules;I[J)I" } : Jvm.MethodName)) ∈ lw_gd := xb_mem 632 rfl rfl
set_option maxRecDepth 100000 in
theorem xk_633 : (Jvm.Cond.codeWith ({ cls := "NailRulesLaw", name := "hole", desc := "(LNailRules;I[J)I" } : Jvm.MethodName) method_16_code (4 : Nat) (Option.some Jvm.ClassFile.FieldType.int) [((0 : Nat), (9 : Nat), (12 : Nat), (13 : Nat))]) ∈ lw_gd := xb_mem 633 rfl rfl
set_option maxRecDepth 100000 in
theorem xk_634 : (Jvm.Cond.methodLink "NailRulesLaw" (65 : Nat) ({ cls := "NailRules", name := "hole", desc := "(I)I" } : Jvm.MethodName)) ∈ lw_gd := xb_mem 634 rfl rfl
set_option maxRecDepth 100000 in
theorem xk_635 : (Jvm.Cond.instanceMethod ({ cls := "NailRules", name := "hole", desc := "(I)I" } : Jvm.MethodName)) ∈ lw_gd := xb_mem 635 rfl rfl
set_option maxRecDepth 100000 in
theorem xk_636 : (Jvm.Cond.selects "NailRules" ({ cls := "NailRules", name := "hole", desc := "(I)I" } : Jvm.MethodName) ({ cls := "NailRules", name := "hole", desc := "(I)I" } : Jvm.MethodName)) ∈ lw_gd := xb_mem 636 rfl rfl
set_option maxRecDepth 100000 in
theorem xk_637 : (Jvm.Cond.code ({ cls := "NailRules", name := "hole", desc := "(I)I" } : Jvm.MethodName) prog_1_method_18_code (3 : Nat) (Option.some Jvm.ClassFile.FieldType.int)) ∈ lw_gd := xb_mem 637 rfl rfl
set_option maxRecDepth 100000 in
theorem xk_638 : (Jvm.Cond.classLink "NailRulesLaw" (70 : Nat) "NailRulesModel") ∈ lw_gd := xb_mem 638 rfl rfl
set_option maxRecDepth 100000 in
theorem xk_639 : (Jvm.Cond.instantiable "NailRulesModel" (20 : Nat)) ∈ lw_gd := xb_mem 639 rfl rfl
set_option maxRecDepth 100000 in
theorem xk_640 : (Jvm.Cond.methodLink "NailRulesLaw" (72 : Nat) ({ cls := "NailRulesModel", name := "<init>", desc := "()V" } : Jvm.MethodName)) ∈ lw_gd := xb_mem 640 rfl rfl
set_option maxRecDepth 100000 in
theorem xk_641 : (Jvm.Cond.instanceMethod ({ cls := "NailRulesModel", name := "<init>", desc := "()V" } : Jvm.MethodName)) ∈ lw_gd := xb_mem 641 rfl rfl
set_option maxRecDepth 100000 in
theorem xk_642 : (Jvm.Cond.code ({ cls := "NailRulesModel", name := "<init>", desc := "()V" } : Jvm.MethodName) prog_5_method_1_code (1 : Nat) (Option.none : Option Jvm.ClassFile.FieldType)) ∈ lw_gd := xb_mem 642 rfl rfl
set_option maxRecDepth 100000 in
theorem xk_643 : (Jvm.Cond.methodLink "NailRulesModel" (1 : Nat) ({ cls := "java/lang/Object", name := "<init>", desc := "()V" } : Jvm.MethodName)) ∈ lw_gd := xb_mem 643 rfl rfl
set_option maxRecDepth 100000 in
theorem xk_644 : (Jvm.Cond.constantLong "NailRulesModel" (22 : Nat) (100 : Int64)) ∈ lw_gd := xb_mem 644 rfl rfl
set_option maxRecDepth 100000 in
theorem xk_645 : (Jvm.Cond.constantLong "NailRulesModel" (28 : Nat) (2 : Int64)) ∈ lw_gd := xb_mem 645 rfl rfl
set_option maxRecDepth 100000 in
theorem xk_646 : (Jvm.Cond.fieldLink "NailRulesModel" (52 : Nat) "NailRulesModel" "thrown" "I") ∈ lw_gd := xb_mem 646 rfl rfl
set_option maxRecDepth 100000 in
theorem xk_647 : (Jvm.Cond.fieldLink "NailRulesModel" (7 : Nat) "NailRulesModel" "text" "[I") ∈ lw_gd := xb_mem 647 rfl rfl
set_option maxRecDepth 100000 in
theorem xk_648 : (Jvm.Cond.fieldLink "NailRulesModel" (55 : Nat) "NailRulesModel" "size" "I") ∈ lw_gd := xb_mem 648 rfl rfl
set_option maxRecDepth 100000 in
theorem xk_649 : (Jvm.Cond.fieldLink "NailRulesModel" (58 : Nat) "NailRulesModel" "at" "I") ∈ lw_gd := xb_mem 649 rfl rfl
set_option maxRecDepth 100000 in
theorem xk_650 : (Jvm.Cond.fieldLink "NailRulesModel" (61 : Nat) "NailRulesModel" "fault" "I") ∈ lw_gd := xb_mem 650 rfl rfl
set_option maxRecDepth 100000 in
theorem xk_651 : (Jvm.Cond.fieldLink "NailRulesModel" (13 : Nat) "NailRulesModel" "draft" "[I") ∈ lw_gd := xb_mem 651 rfl rfl
set_option maxRecDepth 100000 in
theorem xk_652 : (Jvm.Cond.fieldLink "NailRulesModel" (16 : Nat) "NailRulesModel" "rules" "[I") ∈ lw_gd := xb_mem 652 rfl rfl
set_option maxRecDepth 100000 in
theorem xk_653 : (Jvm.Cond.fieldLink "NailRulesModel" (19 : Nat) "NailRulesModel" "letters" "[I") ∈ lw_gd := xb_mem 653 rfl rfl
set_option maxRecDepth 100000 in
theorem xk_654 : (Jvm.Cond.fieldLink "NailRulesModel" (24 : Nat) "NailRulesModel" "wet" "J") ∈ lw_gd := xb_mem 654 rfl rfl
set_option maxRecDepth 100000 in
theorem xk_655 : (Jvm.Cond.fieldLink "NailRulesModel" (30 : Nat) "NailRulesModel" "less" "J") ∈ lw_gd := xb_mem 655 rfl rfl
set_option maxRecDepth 100000 in
theorem xk_656 : (Jvm.Cond.fieldLink "NailRulesModel" (33 : Nat) "NailRulesModel" "patternKind" "I") ∈ lw_gd := xb_mem 656 rfl rfl
set_option maxRecDepth 100000 in
theorem xk_657 : (Jvm.Cond.fieldLink "NailRulesModel" (133 : Nat) "NailRulesModel" "patternMany" "I") ∈ lw_gd := xb_mem 657 rfl rfl
set_option maxRecDepth 100000 in
theorem xk_658 : (Jvm.Cond.fieldLink "NailRulesModel" (136 : Nat) "NailRulesModel" "columns" "I") ∈ lw_gd := xb_mem 658 rfl rfl
set_option maxRecDepth 100000 in
theorem xk_659 : (Jvm.Cond.fieldLink "NailRulesModel" (37 : Nat) "NailRulesModel" "patternAt" "[I") ∈ lw_gd := xb_mem 659 rfl rfl
set_option maxRecDepth 100000 in
theorem xk_660 : (Jvm.Cond.fieldLink "NailRulesModel" (139 : Nat) "NailRulesModel" "places" "I") ∈ lw_gd := xb_mem 660 rfl rfl
set_option maxRecDepth 100000 in
theorem xk_661 : (Jvm.Cond.fieldLink "NailRulesModel" (40 : Nat) "NailRulesModel" "xs" "[I") ∈ lw_gd := xb_mem 661 rfl rfl
set_option maxRecDepth 100000 in
theorem xk_662 : (Jvm.Cond.fieldLink "NailRulesModel" (43 : Nat) "NailRulesModel" "ys" "[I") ∈ lw_gd := xb_mem 662 rfl rfl
set_option maxRecDepth 100000 in
theorem xk_663 : (Jvm.Cond.fieldLink "NailRulesModel" (149 : Nat) "NailRulesModel" "members" "I") ∈ lw_gd := xb_mem 663 rfl rfl
set_option maxRecDepth 100000 in
theorem xk_664 : (Jvm.Cond.fieldLink "NailRulesModel" (46 : Nat) "NailRulesModel" "ends" "[I") ∈ lw_gd := xb_mem 664 rfl rfl
set_option maxRecDepth 100000 in
theorem xk_665 : (Jvm.Cond.fieldLink "NailRulesModel" (49 : Nat) "NailRulesModel" "wides" "[I") ∈ lw_gd := xb_mem 665 rfl rfl
set_option maxRecDepth 100000 in
theorem xk_666 : (Jvm.Cond.lays "NailRulesModel" "NailRulesModel" "thrown" "I") ∈ lw_gd := xb_mem 666 rfl rfl
set_option maxRecDepth 100000 in
theorem xk_668 : (Jvm.Cond.laysFinal "NailRulesModel" "NailRulesModel" "text" "[I") ∈ lw_gd := xb_mem 668 rfl rfl
set_option maxRecDepth 100000 in
theorem xk_670 : (Jvm.Cond.lays "NailRulesModel" "NailRulesModel" "size" "I") ∈ lw_gd := xb_mem 670 rfl rfl
set_option maxRecDepth 100000 in
theorem xk_672 : (Jvm.Cond.lays "NailRulesModel" "NailRulesModel" "at" "I") ∈ lw_gd := xb_mem 672 rfl rfl
set_option maxRecDepth 100000 in
theorem xk_674 : (Jvm.Cond.lays "NailRulesModel" "NailRulesModel" "fault" "I") ∈ lw_gd := xb_mem 674 rfl rfl
set_option maxRecDepth 100000 in
theorem xk_676 : (Jvm.Cond.laysFinal "NailRulesModel" "NailRulesModel" "draft" "[I") ∈ lw_gd := xb_mem 676 rfl rfl
set_option maxRecDepth 100000 in
theorem xk_678 : (Jvm.Cond.laysFinal "NailRulesModel" "NailRulesModel" "rules" "[I") ∈ lw_gd := xb_mem 678 rfl rfl
set_option maxRecDepth 100000 in
theorem xk_680 : (Jvm.Cond.laysFinal "NailRulesModel" "NailRulesModel" "letters" "[I") ∈ lw_gd := xb_mem 680 rfl rfl
set_option maxRecDepth 100000 in
theorem xk_682 : (Jvm.Cond.lays "NailRulesModel" "NailRulesModel" "wet" "J") ∈ lw_gd := xb_mem 682 rfl rfl
set_option maxRecDepth 100000 in
theorem xk_684 : (Jvm.Cond.lays "NailRulesModel" "NailRulesModel" "less" "J") ∈ lw_gd := xb_mem 684 rfl rfl
set_option maxRecDepth 100000 in
theorem xk_686 : (Jvm.Cond.lays "NailRulesModel" "NailRulesModel" "patternKind" "I") ∈ lw_gd := xb_mem 686 rfl rfl
set_option maxRecDepth 100000 in
theorem xk_688 : (Jvm.Cond.lays "NailRulesModel" "NailRulesModel" "patternMany" "I") ∈ lw_gd := xb_mem 688 rfl rfl
set_option maxRecDepth 100000 in
theorem xk_690 : (Jvm.Cond.lays "NailRulesModel" "NailRulesModel" "columns" "I") ∈ lw_gd := xb_mem 690 rfl rfl
set_option maxRecDepth 100000 in
theorem xk_692 : (Jvm.Cond.laysFinal "NailRulesModel" "NailRulesModel" "patternAt" "[I") ∈ lw_gd := xb_mem 692 rfl rfl
set_option maxRecDepth 100000 in
theorem xk_694 : (Jvm.Cond.lays "NailRulesModel" "NailRulesModel" "places" "I") ∈ lw_gd := xb_mem 694 rfl rfl
set_option maxRecDepth 100000 in
theorem xk_696 : (Jvm.Cond.laysFinal "NailRulesModel" "NailRulesModel" "xs" "[I") ∈ lw_gd := xb_mem 696 rfl rfl
set_option maxRecDepth 100000 in
theorem xk_698 : (Jvm.Cond.laysFinal "NailRulesModel" "NailRulesModel" "ys" "[I") ∈ lw_gd := xb_mem 698 rfl rfl
set_option maxRecDepth 100000 in
theorem xk_700 : (Jvm.Cond.lays "NailRulesModel" "NailRulesModel" "members" "I") ∈ lw_gd := xb_mem 700 rfl rfl
set_option maxRecDepth 100000 in
theorem xk_702 : (Jvm.Cond.laysFinal "NailRulesModel" "NailRulesModel" "ends" "[I") ∈ lw_gd := xb_mem 702 rfl rfl
set_option maxRecDepth 100000 in
theorem xk_704 : (Jvm.Cond.laysFinal "NailRulesModel" "NailRulesModel" "wides" "[I") ∈ lw_gd := xb_mem 704 rfl rfl
set_option maxRecDepth 100000 in
theorem xk_707 : (Jvm.Cond.methodLink "NailRulesLaw" (77 : Nat) ({ cls := "NailRulesModel", name := "unit", desc := "(I)Z" } : Jvm.MethodName)) ∈ lw_gd := xb_mem 707 rfl rfl
set_option maxRecDepth 100000 in
theorem xk_708 : (Jvm.Cond.instanceMethod ({ cls := "NailRulesModel", name := "unit", desc := "(I)Z" } : Jvm.MethodName)) ∈ lw_gd := xb_mem 708 rfl rfl
set_option maxRecDepth 100000 in
theorem xk_709 : (Jvm.Cond.selects "NailRulesModel" ({ cls := "NailRulesModel", name := "unit", desc := "(I)Z" } : Jvm.MethodName) ({ cls := "NailRulesModel", name := "unit", desc := "(I)Z" } : Jvm.MethodName)) ∈ lw_gd := xb_mem 709 rfl rfl
set_option maxRecDepth 100000 in
theorem xk_710 : (Jvm.Cond.code ({ cls := "NailRulesModel", name := "unit", desc := "(I)Z" } : Jvm.MethodName) prog_5_method_5_code (3 : Nat) (Option.some Jvm.ClassFile.FieldType.boolean)) ∈ lw_gd := xb_mem 710 rfl rfl
set_option maxRecDepth 100000 in
theorem xk_711 : (Jvm.Cond.methodLink "NailRulesLaw" (82 : Nat) ({ cls := "NailRulesModel", name := "read", desc := "()I" } : Jvm.MethodName)) ∈ lw_gd := xb_mem 711 rfl rfl
set_option maxRecDepth 100000 in
theorem xk_712 : (Jvm.Cond.instanceMethod ({ cls := "NailRulesModel", name := "read", desc := "()I" } : Jvm.MethodName)) ∈ lw_gd := xb_mem 712 rfl rfl
set_option maxRecDepth 100000 in
theorem xk_713 : (Jvm.Cond.selects "NailRulesModel" ({ cls := "NailRulesModel", name := "read", desc := "()I" } : Jvm.MethodName) ({ cls := "NailRulesModel", name := "read", desc := "()I" } : Jvm.MethodName)) ∈ lw_gd := xb_mem 713 rfl rfl
set_option maxRecDepth 100000 in
theorem xk_714 : (Jvm.Cond.code ({ cls := "NailRulesModel", name := "read", desc := "()I" } : Jvm.MethodName) prog_5_method_14_code (6 : Nat) (Option.some Jvm.ClassFile.FieldType.int)) ∈ lw_gd := xb_mem 714 rfl rfl
set_option maxRecDepth 100000 in
theorem xk_715 : (Jvm.Cond.methodLink "NailRulesModel" (68 : Nat) ({ cls := "NailRulesModel", name := "now", desc := "()I" } : Jvm.MethodName)) ∈ lw_gd := xb_mem 715 rfl rfl
set_option maxRecDepth 100000 in
theorem xk_717 : (Jvm.Cond.instanceMethod ({ cls := "NailRulesModel", name := "now", desc := "()I" } : Jvm.MethodName)) ∈ lw_gd := xb_mem 717 rfl rfl
set_option maxRecDepth 100000 in
theorem xk_718 : (Jvm.Cond.code ({ cls := "NailRulesModel", name := "now", desc := "()I" } : Jvm.MethodName) prog_5_method_6_code (1 : Nat) (Option.some Jvm.ClassFile.FieldType.int)) ∈ lw_gd := xb_mem 718 rfl rfl
set_option maxRecDepth 100000 in
theorem xk_719 : (Jvm.Cond.methodLink "NailRulesModel" (84 : Nat) ({ cls := "NailRulesModel", name := "kindOf", desc := "(I)I" } : Jvm.MethodName)) ∈ lw_gd := xb_mem 719 rfl rfl
set_option maxRecDepth 100000 in
theorem xk_720 : (Jvm.Cond.static ({ cls := "NailRulesModel", name := "kindOf", desc := "(I)I" } : Jvm.MethodName)) ∈ lw_gd := xb_mem 720 rfl rfl
set_option maxRecDepth 100000 in
theorem xk_721 : (Jvm.Cond.code ({ cls := "NailRulesModel", name := "kindOf", desc := "(I)I" } : Jvm.MethodName) prog_5_method_8_code (1 : Nat) (Option.some Jvm.ClassFile.FieldType.int)) ∈ lw_gd := xb_mem 721 rfl rfl
set_option maxRecDepth 100000 in
theorem xk_722 : (Jvm.Cond.methodLink "NailRulesModel" (76 : Nat) ({ cls := "NailRulesModel", name := "must", desc := "(Z)V" } : Jvm.MethodName)) ∈ lw_gd := xb_mem 722 rfl rfl
set_option maxRecDepth 100000 in
theorem xk_724 : (Jvm.Cond.instanceMethod ({ cls := "NailRulesModel", name := "must", desc := "(Z)V" } : Jvm.MethodName)) ∈ lw_gd := xb_mem 724 rfl rfl
set_option maxRecDepth 100000 in
theorem xk_725 : (Jvm.Cond.code ({ cls := "NailRulesModel", name := "must", desc := "(Z)V" } : Jvm.MethodName) prog_5_method_7_code (2 : Nat) (Option.none : Option Jvm.ClassFile.FieldType)) ∈ lw_gd := xb_mem 725 rfl rfl
set_option maxRecDepth 100000 in
theorem xk_726 : (Jvm.Cond.methodLink "NailRulesModel" (87 : Nat) ({ cls := "NailRulesModel", name := "word", desc := "()I" } : Jvm.MethodName)) ∈ lw_gd := xb_mem 726 rfl rfl
set_option maxRecDepth 100000 in
theorem xk_728 : (Jvm.Cond.instanceMethod ({ cls := "NailRulesModel", name := "word", desc := "()I" } : Jvm.MethodName)) ∈ lw_gd := xb_mem 728 rfl rfl
set_option maxRecDepth 100000 in
theorem xk_729 : (Jvm.Cond.code ({ cls := "NailRulesModel", name := "word", desc := "()I" } : Jvm.MethodName) prog_5_method_11_code (4 : Nat) (Option.some Jvm.ClassFile.FieldType.int)) ∈ lw_gd := xb_mem 729 rfl rfl
set_option maxRecDepth 100000 in
theorem xk_730 : (Jvm.Cond.methodLink "NailRulesModel" (64 : Nat) ({ cls := "NailRulesModel", name := "whole", desc := "(I)I" } : Jvm.MethodName)) ∈ lw_gd := xb_mem 730 rfl rfl
set_option maxRecDepth 100000 in
theorem xk_732 : (Jvm.Cond.instanceMethod ({ cls := "NailRulesModel", name := "whole", desc := "(I)I" } : Jvm.MethodName)) ∈ lw_gd := xb_mem 732 rfl rfl
set_option maxRecDepth 100000 in
theorem xk_733 : (Jvm.Cond.code ({ cls := "NailRulesModel", name := "whole", desc := "(I)I" } : Jvm.MethodName) prog_5_method_10_code (6 : Nat) (Option.some Jvm.ClassFile.FieldType.int)) ∈ lw_gd := xb_mem 733 rfl rfl
set_option maxRecDepth 100000 in
theorem xk_734 : (Jvm.Cond.methodLink "NailRulesModel" (72 : Nat) ({ cls := "NailRulesModel", name := "may", desc := "(III)Z" } : Jvm.MethodName)) ∈ lw_gd := xb_mem 734 rfl rfl
set_option maxRecDepth 100000 in
theorem xk_736 : (Jvm.Cond.instanceMethod ({ cls := "NailRulesModel", name := "may", desc := "(III)Z" } : Jvm.MethodName)) ∈ lw_gd := xb_mem 736 rfl rfl
set_option maxRecDepth 100000 in
theorem xk_737 : (Jvm.Cond.code ({ cls := "NailRulesModel", name := "may", desc := "(III)Z" } : Jvm.MethodName) prog_5_method_9_code (6 : Nat) (Option.some Jvm.ClassFile.FieldType.boolean)) ∈ lw_gd := xb_mem 737 rfl rfl
set_option maxRecDepth 100000 in
theorem xk_738 : (Jvm.Cond.methodLink "NailRulesModel" (90 : Nat) ({ cls := "NailRulesModel", name := "number", desc := "()I" } : Jvm.MethodName)) ∈ lw_gd := xb_mem 738 rfl rfl
set_option maxRecDepth 100000 in
theorem xk_740 : (Jvm.Cond.instanceMethod ({ cls := "NailRulesModel", name := "number", desc := "()I" } : Jvm.MethodName)) ∈ lw_gd := xb_mem 740 rfl rfl
set_option maxRecDepth 100000 in
theorem xk_741 : (Jvm.Cond.code ({ cls := "NailRulesModel", name := "number", desc := "()I" } : Jvm.MethodName) prog_5_method_13_code (4 : Nat) (Option.some Jvm.ClassFile.FieldType.int)) ∈ lw_gd := xb_mem 741 rfl rfl
set_option maxRecDepth 100000 in
theorem xk_742 : (Jvm.Cond.methodLink "NailRulesModel" (80 : Nat) ({ cls := "NailRulesModel", name := "isDigit", desc := "()Z" } : Jvm.MethodName)) ∈ lw_gd := xb_mem 742 rfl rfl
set_option maxRecDepth 100000 in
theorem xk_744 : (Jvm.Cond.instanceMethod ({ cls := "NailRulesModel", name := "isDigit", desc := "()Z" } : Jvm.MethodName)) ∈ lw_gd := xb_mem 744 rfl rfl
set_option maxRecDepth 100000 in
theorem xk_745 : (Jvm.Cond.code ({ cls := "NailRulesModel", name := "isDigit", desc := "()Z" } : Jvm.MethodName) prog_5_method_12_code (1 : Nat) (Option.some Jvm.ClassFile.FieldType.boolean)) ∈ lw_gd := xb_mem 745 rfl rfl
set_option maxRecDepth 100000 in
theorem xk_746 : (Jvm.Cond.methodLink "NailRulesLaw" (88 : Nat) ({ cls := "NailRulesModel", name := "rule", desc := "(II)I" } : Jvm.MethodName)) ∈ lw_gd := xb_mem 746 rfl rfl
set_option maxRecDepth 100000 in
theorem xk_747 : (Jvm.Cond.instanceMethod ({ cls := "NailRulesModel", name := "rule", desc := "(II)I" } : Jvm.MethodName)) ∈ lw_gd := xb_mem 747 rfl rfl
set_option maxRecDepth 100000 in
theorem xk_748 : (Jvm.Cond.selects "NailRulesModel" ({ cls := "NailRulesModel", name := "rule", desc := "(II)I" } : Jvm.MethodName) ({ cls := "NailRulesModel", name := "rule", desc := "(II)I" } : Jvm.MethodName)) ∈ lw_gd := xb_mem 748 rfl rfl
set_option maxRecDepth 100000 in
theorem xk_749 : (Jvm.Cond.code ({ cls := "NailRulesModel", name := "rule", desc := "(II)I" } : Jvm.MethodName) prog_5_method_15_code (3 : Nat) (Option.some Jvm.ClassFile.FieldType.int)) ∈ lw_gd := xb_mem 749 rfl rfl
set_option maxRecDepth 100000 in
theorem xk_750 : (Jvm.Cond.methodLink "NailRulesModel" (93 : Nat) ({ cls := "NailRulesModel", name := "isFour", desc := "(I)Z" } : Jvm.MethodName)) ∈ lw_gd := xb_mem 750 rfl rfl
set_option maxRecDepth 100000 in
theorem xk_751 : (Jvm.Cond.static ({ cls := "NailRulesModel", name := "isFour", desc := "(I)Z" } : Jvm.MethodName)) ∈ lw_gd := xb_mem 751 rfl rfl
set_option maxRecDepth 100000 in
theorem xk_752 : (Jvm.Cond.code ({ cls := "NailRulesModel", name := "isFour", desc := "(I)Z" } : Jvm.MethodName) prog_5_method_4_code (1 : Nat) (Option.some Jvm.ClassFile.FieldType.boolean)) ∈ lw_gd := xb_mem 752 rfl rfl
set_option maxRecDepth 100000 in
theorem xk_753 : (Jvm.Cond.constantLong "NailRulesModel" (97 : Nat) (6 : Int64)) ∈ lw_gd := xb_mem 753 rfl rfl
set_option maxRecDepth 100000 in
theorem xk_754 : (Jvm.Cond.methodLink "NailRulesModel" (99 : Nat) ({ cls := "NailRulesModel", name := "isIn", desc := "(JJJ)Z" } : Jvm.MethodName)) ∈ lw_gd := xb_mem 754 rfl rfl
set_option maxRecDepth 100000 in
theorem xk_755 : (Jvm.Cond.static ({ cls := "NailRulesModel", name := "isIn", desc := "(JJJ)Z" } : Jvm.MethodName)) ∈ lw_gd := xb_mem 755 rfl rfl
set_option maxRecDepth 100000 in
theorem xk_756 : (Jvm.Cond.code ({ cls := "NailRulesModel", name := "isIn", desc := "(JJJ)Z" } : Jvm.MethodName) prog_5_method_3_code (6 : Nat) (Option.some Jvm.ClassFile.FieldType.boolean)) ∈ lw_gd := xb_mem 756 rfl rfl
set_option maxRecDepth 100000 in
theorem xk_757 : (Jvm.Cond.methodLink "NailRulesLaw" (92 : Nat) ({ cls := "NailRulesModel", name := "set", desc := "(II)V" } : Jvm.MethodName)) ∈ lw_gd := xb_mem 757 rfl rfl
set_option maxRecDepth 100000 in
theorem xk_758 : (Jvm.Cond.instanceMethod ({ cls := "NailRulesModel", name := "set", desc := "(II)V" } : Jvm.MethodName)) ∈ lw_gd := xb_mem 758 rfl rfl
set_option maxRecDepth 100000 in
theorem xk_759 : (Jvm.Cond.selects "NailRulesModel" ({ cls := "NailRulesModel", name := "set", desc := "(II)V" } : Jvm.MethodName) ({ cls := "NailRulesModel", name := "set", desc := "(II)V" } : Jvm.MethodName)) ∈ lw_gd := xb_mem 759 rfl rfl
set_option maxRecDepth 100000 in
theorem xk_760 : (Jvm.Cond.code ({ cls := "NailRulesModel", name := "set", desc := "(II)V" } : Jvm.MethodName) prog_5_method_16_code (3 : Nat) (Option.none : Option Jvm.ClassFile.FieldType)) ∈ lw_gd := xb_mem 760 rfl rfl
set_option maxRecDepth 100000 in
theorem xk_761 : (Jvm.Cond.methodLink "NailRulesLaw" (96 : Nat) ({ cls := "NailRulesModel", name := "holds", desc := "(IIIII)J" } : Jvm.MethodName)) ∈ lw_gd := xb_mem 761 rfl rfl
set_option maxRecDepth 100000 in
theorem xk_762 : (Jvm.Cond.instanceMethod ({ cls := "NailRulesModel", name := "holds", desc := "(IIIII)J" } : Jvm.MethodName)) ∈ lw_gd := xb_mem 762 rfl rfl
set_option maxRecDepth 100000 in
theorem xk_763 : (Jvm.Cond.selects "NailRulesModel" ({ cls := "NailRulesModel", name := "holds", desc := "(IIIII)J" } : Jvm.MethodName) ({ cls := "NailRulesModel", name := "holds", desc := "(IIIII)J" } : Jvm.MethodName)) ∈ lw_gd := xb_mem 763 rfl rfl
set_option maxRecDepth 100000 in
theorem xk_764 : (Jvm.Cond.code ({ cls := "NailRulesModel", name := "holds", desc := "(IIIII)J" } : Jvm.MethodName) prog_5_method_18_code (9 : Nat) (Option.some Jvm.ClassFile.FieldType.long)) ∈ lw_gd := xb_mem 764 rfl rfl
set_option maxRecDepth 100000 in
theorem xk_765 : (Jvm.Cond.constantLong "NailRulesModel" (105 : Nat) (1000 : Int64)) ∈ lw_gd := xb_mem 765 rfl rfl
set_option maxRecDepth 100000 in
theorem xk_766 : (Jvm.Cond.constantLong "NailRulesModel" (107 : Nat) (90 : Int64)) ∈ lw_gd := xb_mem 766 rfl rfl
set_option maxRecDepth 100000 in
theorem xk_767 : (Jvm.Cond.methodLink "NailRulesModel" (109 : Nat) ({ cls := "NailRulesModel", name := "formula", desc := "(IIJJ)J" } : Jvm.MethodName)) ∈ lw_gd := xb_mem 767 rfl rfl
set_option maxRecDepth 100000 in
theorem xk_769 : (Jvm.Cond.instanceMethod ({ cls := "NailRulesModel", name := "formula", desc := "(IIJJ)J" } : Jvm.MethodName)) ∈ lw_gd := xb_mem 769 rfl rfl
set_option maxRecDepth 100000 in
theorem xk_770 : (Jvm.Cond.code ({ cls := "NailRulesModel", name := "formula", desc := "(IIJJ)J" } : Jvm.MethodName) prog_5_method_17_code (11 : Nat) (Option.some Jvm.ClassFile.FieldType.long)) ∈ lw_gd := xb_mem 770 rfl rfl
set_option maxRecDepth 100000 in
theorem xk_771 : (Jvm.Cond.constantLong "NailRulesModel" (103 : Nat) (4 : Int64)) ∈ lw_gd := xb_mem 771 rfl rfl
set_option maxRecDepth 100000 in
theorem xk_772 : (Jvm.Cond.constantLong "NailRulesModel" (113 : Nat) (200 : Int64)) ∈ lw_gd := xb_mem 772 rfl rfl
set_option maxRecDepth 100000 in
theorem xk_773 : (Jvm.Cond.methodLink "NailRulesLaw" (102 : Nat) ({ cls := "NailRulesModel", name := "together", desc := "(IJ)J" } : Jvm.MethodName)) ∈ lw_gd := xb_mem 773 rfl rfl
set_option maxRecDepth 100000 in
theorem xk_774 : (Jvm.Cond.instanceMethod ({ cls := "NailRulesModel", name := "together", desc := "(IJ)J" } : Jvm.MethodName)) ∈ lw_gd := xb_mem 774 rfl rfl
set_option maxRecDepth 100000 in
theorem xk_775 : (Jvm.Cond.selects "NailRulesModel" ({ cls := "NailRulesModel", name := "together", desc := "(IJ)J" } : Jvm.MethodName) ({ cls := "NailRulesModel", name := "together", desc := "(IJ)J" } : Jvm.MethodName)) ∈ lw_gd := xb_mem 775 rfl rfl
set_option maxRecDepth 100000 in
theorem xk_776 : (Jvm.Cond.code ({ cls := "NailRulesModel", name := "together", desc := "(IJ)J" } : Jvm.MethodName) prog_5_method_20_code (4 : Nat) (Option.some Jvm.ClassFile.FieldType.long)) ∈ lw_gd := xb_mem 776 rfl rfl
set_option maxRecDepth 100000 in
theorem xk_777 : (Jvm.Cond.constantLong "NailRulesModel" (117 : Nat) (1000000000000 : Int64)) ∈ lw_gd := xb_mem 777 rfl rfl
set_option maxRecDepth 100000 in
theorem xk_778 : (Jvm.Cond.methodLink "NailRulesModel" (119 : Nat) ({ cls := "NailRulesModel", name := "all", desc := "(JJ)J" } : Jvm.MethodName)) ∈ lw_gd := xb_mem 778 rfl rfl
set_option maxRecDepth 100000 in
theorem xk_780 : (Jvm.Cond.instanceMethod ({ cls := "NailRulesModel", name := "all", desc := "(JJ)J" } : Jvm.MethodName)) ∈ lw_gd := xb_mem 780 rfl rfl
set_option maxRecDepth 100000 in
theorem xk_781 : (Jvm.Cond.code ({ cls := "NailRulesModel", name := "all", desc := "(JJ)J" } : Jvm.MethodName) prog_5_method_19_code (7 : Nat) (Option.some Jvm.ClassFile.FieldType.long)) ∈ lw_gd := xb_mem 781 rfl rfl
set_option maxRecDepth 100000 in
theorem xk_782 : (Jvm.Cond.constantLong "NailRulesModel" (115 : Nat) (50 : Int64)) ∈ lw_gd := xb_mem 782 rfl rfl
set_option maxRecDepth 100000 in
theorem xk_783 : (Jvm.Cond.methodLink "NailRulesLaw" (106 : Nat) ({ cls := "NailRulesModel", name := "count", desc := "(JJ)I" } : Jvm.MethodName)) ∈ lw_gd := xb_mem 783 rfl rfl
set_option maxRecDepth 100000 in
theorem xk_784 : (Jvm.Cond.instanceMethod ({ cls := "NailRulesModel", name := "count", desc := "(JJ)I" } : Jvm.MethodName)) ∈ lw_gd := xb_mem 784 rfl rfl
set_option maxRecDepth 100000 in
theorem xk_785 : (Jvm.Cond.selects "NailRulesModel" ({ cls := "NailRulesModel", name := "count", desc := "(JJ)I" } : Jvm.MethodName) ({ cls := "NailRulesModel", name := "count", desc := "(JJ)I" } : Jvm.MethodName)) ∈ lw_gd := xb_mem 785 rfl rfl
set_option maxRecDepth 100000 in
theorem xk_786 : (Jvm.Cond.code ({ cls := "NailRulesModel", name := "count", desc := "(JJ)I" } : Jvm.MethodName) prog_5_method_21_code (6 : Nat) (Option.some Jvm.ClassFile.FieldType.int)) ∈ lw_gd := xb_mem 786 rfl rfl
set_option maxRecDepth 100000 in
theorem xk_787 : (Jvm.Cond.methodLink "NailRulesLaw" (110 : Nat) ({ cls := "NailRulesModel", name := "pattern", desc := "(IIII)Z" } : Jvm.MethodName)) ∈ lw_gd := xb_mem 787 rfl rfl
set_option maxRecDepth 100000 in
theorem xk_788 : (Jvm.Cond.instanceMethod ({ cls := "NailRulesModel", name := "pattern", desc := "(IIII)Z" } : Jvm.MethodName)) ∈ lw_gd := xb_mem 788 rfl rfl
set_option maxRecDepth 100000 in
theorem xk_789 : (Jvm.Cond.selects "NailRulesModel" ({ cls := "NailRulesModel", name := "pattern", desc := "(IIII)Z" } : Jvm.MethodName) ({ cls := "NailRulesModel", name := "pattern", desc := "(IIII)Z" } : Jvm.MethodName)) ∈ lw_gd := xb_mem 789 rfl rfl
set_option maxRecDepth 100000 in
theorem xk_790 : (Jvm.Cond.code ({ cls := "NailRulesModel", name := "pattern", desc := "(IIII)Z" } : Jvm.MethodName) prog_5_method_24_code (10 : Nat) (Option.some Jvm.ClassFile.FieldType.boolean)) ∈ lw_gd := xb_mem 790 rfl rfl
set_option maxRecDepth 100000 in
theorem xk_791 : (Jvm.Cond.constantLong "NailRulesModel" (123 : Nat) (100000 : Int64)) ∈ lw_gd := xb_mem 791 rfl rfl
set_option maxRecDepth 100000 in
theorem xk_792 : (Jvm.Cond.methodLink "NailRulesModel" (125 : Nat) ({ cls := "NailRulesModel", name := "space", desc := "(II)J" } : Jvm.MethodName)) ∈ lw_gd := xb_mem 792 rfl rfl
set_option maxRecDepth 100000 in
theorem xk_794 : (Jvm.Cond.instanceMethod ({ cls := "NailRulesModel", name := "space", desc := "(II)J" } : Jvm.MethodName)) ∈ lw_gd := xb_mem 794 rfl rfl
set_option maxRecDepth 100000 in
theorem xk_795 : (Jvm.Cond.code ({ cls := "NailRulesModel", name := "space", desc := "(II)J" } : Jvm.MethodName) prog_5_method_22_code (3 : Nat) (Option.some Jvm.ClassFile.FieldType.long)) ∈ lw_gd := xb_mem 795 rfl rfl
set_option maxRecDepth 100000 in
theorem xk_796 : (Jvm.Cond.methodLink "NailRulesModel" (129 : Nat) ({ cls := "NailRulesModel", name := "fits", desc := "(JJJ)J" } : Jvm.MethodName)) ∈ lw_gd := xb_mem 796 rfl rfl
set_option maxRecDepth 100000 in
theorem xk_797 : (Jvm.Cond.static ({ cls := "NailRulesModel", name := "fits", desc := "(JJJ)J" } : Jvm.MethodName)) ∈ lw_gd := xb_mem 797 rfl rfl
set_option maxRecDepth 100000 in
theorem xk_798 : (Jvm.Cond.code ({ cls := "NailRulesModel", name := "fits", desc := "(JJJ)J" } : Jvm.MethodName) prog_5_method_23_code (8 : Nat) (Option.some Jvm.ClassFile.FieldType.long)) ∈ lw_gd := xb_mem 798 rfl rfl
set_option maxRecDepth 100000 in
theorem xk_799 : (Jvm.Cond.methodLink "NailRulesLaw" (113 : Nat) ({ cls := "NailRulesModel", name := "at", desc := "(II)I" } : Jvm.MethodName)) ∈ lw_gd := xb_mem 799 rfl rfl
set_option maxRecDepth 100000 in
theorem xk_800 : (Jvm.Cond.instanceMethod ({ cls := "NailRulesModel", name := "at", desc := "(II)I" } : Jvm.MethodName)) ∈ lw_gd := xb_mem 800 rfl rfl
set_option maxRecDepth 100000 in
theorem xk_801 : (Jvm.Cond.selects "NailRulesModel" ({ cls := "NailRulesModel", name := "at", desc := "(II)I" } : Jvm.MethodName) ({ cls := "NailRulesModel", name := "at", desc := "(II)I" } : Jvm.MethodName)) ∈ lw_gd := xb_mem 801 rfl rfl
set_option maxRecDepth 100000 in
theorem xk_802 : (Jvm.Cond.code ({ cls := "NailRulesModel", name := "at", desc := "(II)I" } : Jvm.MethodName) prog_5_method_25_code (3 : Nat) (Option.some Jvm.ClassFile.FieldType.int)) ∈ lw_gd := xb_mem 802 rfl rfl
set_option maxRecDepth 100000 in
theorem xk_803 : (Jvm.Cond.methodLink "NailRulesLaw" (116 : Nat) ({ cls := "NailRulesModel", name := "place", desc := "(II)I" } : Jvm.MethodName)) ∈ lw_gd := xb_mem 803 rfl rfl
set_option maxRecDepth 100000 in
theorem xk_804 : (Jvm.Cond.instanceMethod ({ cls := "NailRulesModel", name := "place", desc := "(II)I" } : Jvm.MethodName)) ∈ lw_gd := xb_mem 804 rfl rfl
set_option maxRecDepth 100000 in
theorem xk_805 : (Jvm.Cond.selects "NailRulesModel" ({ cls := "NailRulesModel", name := "place", desc := "(II)I" } : Jvm.MethodName) ({ cls := "NailRulesModel", name := "place", desc := "(II)I" } : Jvm.MethodName)) ∈ lw_gd := xb_mem 805 rfl rfl
set_option maxRecDepth 100000 in
theorem xk_806 : (Jvm.Cond.code ({ cls := "NailRulesModel", name := "place", desc := "(II)I" } : Jvm.MethodName) prog_5_method_26_code (3 : Nat) (Option.some Jvm.ClassFile.FieldType.int)) ∈ lw_gd := xb_mem 806 rfl rfl
set_option maxRecDepth 100000 in
theorem xk_807 : (Jvm.Cond.methodLink "NailRulesLaw" (120 : Nat) ({ cls := "NailRulesModel", name := "clear", desc := "()V" } : Jvm.MethodName)) ∈ lw_gd := xb_mem 807 rfl rfl
set_option maxRecDepth 100000 in
theorem xk_808 : (Jvm.Cond.instanceMethod ({ cls := "NailRulesModel", name := "clear", desc := "()V" } : Jvm.MethodName)) ∈ lw_gd := xb_mem 808 rfl rfl
set_option maxRecDepth 100000 in
theorem xk_809 : (Jvm.Cond.selects "NailRulesModel" ({ cls := "NailRulesModel", name := "clear", desc := "()V" } : Jvm.MethodName) ({ cls := "NailRulesModel", name := "clear", desc := "()V" } : Jvm.MethodName)) ∈ lw_gd := xb_mem 809 rfl rfl
set_option maxRecDepth 100000 in
theorem xk_810 : (Jvm.Cond.code ({ cls := "NailRulesModel", name := "clear", desc := "()V" } : Jvm.MethodName) prog_5_method_27_code (1 : Nat) (Option.none : Option Jvm.ClassFile.FieldType)) ∈ lw_gd := xb_mem 810 rfl rfl
set_option maxRecDepth 100000 in
theorem xk_811 : (Jvm.Cond.methodLink "NailRulesLaw" (124 : Nat) ({ cls := "NailRulesModel", name := "keeps", desc := "(III)I" } : Jvm.MethodName)) ∈ lw_gd := xb_mem 811 rfl rfl
set_option maxRecDepth 100000 in
theorem xk_812 : (Jvm.Cond.instanceMethod ({ cls := "NailRulesModel", name := "keeps", desc := "(III)I" } : Jvm.MethodName)) ∈ lw_gd := xb_mem 812 rfl rfl
set_option maxRecDepth 100000 in
theorem xk_813 : (Jvm.Cond.selects "NailRulesModel" ({ cls := "NailRulesModel", name := "keeps", desc := "(III)I" } : Jvm.MethodName) ({ cls := "NailRulesModel", name := "keeps", desc := "(III)I" } : Jvm.MethodName)) ∈ lw_gd := xb_mem 813 rfl rfl
set_option maxRecDepth 100000 in
theorem xk_814 : (Jvm.Cond.code ({ cls := "NailRulesModel", name := "keeps", desc := "(III)I" } : Jvm.MethodName) prog_5_method_28_code (16 : Nat) (Option.some Jvm.ClassFile.FieldType.int)) ∈ lw_gd := xb_mem 814 rfl rfl
set_option maxRecDepth 100000 in
theorem xk_815 : (Jvm.Cond.methodLink "NailRulesLaw" (127 : Nat) ({ cls := "NailRulesModel", name := "member", desc := "(IIIII)I" } : Jvm.MethodName)) ∈ lw_gd := xb_mem 815 rfl rfl
set_option maxRecDepth 100000 in
theorem xk_816 : (Jvm.Cond.instanceMethod ({ cls := "NailRulesModel", name := "member", desc := "(IIIII)I" } : Jvm.MethodName)) ∈ lw_gd := xb_mem 816 rfl rfl
set_option maxRecDepth 100000 in
theorem xk_817 : (Jvm.Cond.selects "NailRulesModel" ({ cls := "NailRulesModel", name := "member", desc := "(IIIII)I" } : Jvm.MethodName) ({ cls := "NailRulesModel", name := "member", desc := "(IIIII)I" } : Jvm.MethodName)) ∈ lw_gd := xb_mem 817 rfl rfl
set_option maxRecDepth 100000 in
theorem xk_818 : (Jvm.Cond.code ({ cls := "NailRulesModel", name := "member", desc := "(IIIII)I" } : Jvm.MethodName) prog_5_method_30_code (7 : Nat) (Option.some Jvm.ClassFile.FieldType.int)) ∈ lw_gd := xb_mem 818 rfl rfl
set_option maxRecDepth 100000 in
theorem xk_819 : (Jvm.Cond.methodLink "NailRulesModel" (146 : Nat) ({ cls := "NailRulesModel", name := "isPlace", desc := "(I)Z" } : Jvm.MethodName)) ∈ lw_gd := xb_mem 819 rfl rfl
set_option maxRecDepth 100000 in
theorem xk_820 : (Jvm.Cond.static ({ cls := "NailRulesModel", name := "isPlace", desc := "(I)Z" } : Jvm.MethodName)) ∈ lw_gd := xb_mem 820 rfl rfl
set_option maxRecDepth 100000 in
theorem xk_821 : (Jvm.Cond.code ({ cls := "NailRulesModel", name := "isPlace", desc := "(I)Z" } : Jvm.MethodName) prog_5_method_29_code (1 : Nat) (Option.some Jvm.ClassFile.FieldType.boolean)) ∈ lw_gd := xb_mem 821 rfl rfl
set_option maxRecDepth 100000 in
theorem xk_822 : (Jvm.Cond.constantLong "NailRulesModel" (142 : Nat) (-10000 : Int64)) ∈ lw_gd := xb_mem 822 rfl rfl
set_option maxRecDepth 100000 in
theorem xk_823 : (Jvm.Cond.constantLong "NailRulesModel" (144 : Nat) (10000 : Int64)) ∈ lw_gd := xb_mem 823 rfl rfl
set_option maxRecDepth 100000 in
theorem xk_824 : (Jvm.Cond.methodLink "NailRulesLaw" (130 : Nat) ({ cls := "NailRulesModel", name := "in", desc := "(III)Z" } : Jvm.MethodName)) ∈ lw_gd := xb_mem 824 rfl rfl
set_option maxRecDepth 100000 in
theorem xk_825 : (Jvm.Cond.instanceMethod ({ cls := "NailRulesModel", name := "in", desc := "(III)Z" } : Jvm.MethodName)) ∈ lw_gd := xb_mem 825 rfl rfl
set_option maxRecDepth 100000 in
theorem xk_826 : (Jvm.Cond.selects "NailRulesModel" ({ cls := "NailRulesModel", name := "in", desc := "(III)Z" } : Jvm.MethodName) ({ cls := "NailRulesModel", name := "in", desc := "(III)Z" } : Jvm.MethodName)) ∈ lw_gd := xb_mem 826 rfl rfl
set_option maxRecDepth 100000 in
theorem xk_827 : (Jvm.Cond.code ({ cls := "NailRulesModel", name := "in", desc := "(III)Z" } : Jvm.MethodName) prog_5_method_33_code (4 : Nat) (Option.some Jvm.ClassFile.FieldType.boolean)) ∈ lw_gd := xb_mem 827 rfl rfl
set_option maxRecDepth 100000 in
theorem xk_828 : (Jvm.Cond.methodLink "NailRulesModel" (152 : Nat) ({ cls := "NailRulesModel", name := "noMember", desc := "(I)Z" } : Jvm.MethodName)) ∈ lw_gd := xb_mem 828 rfl rfl
set_option maxRecDepth 100000 in
theorem xk_830 : (Jvm.Cond.instanceMethod ({ cls := "NailRulesModel", name := "noMember", desc := "(I)Z" } : Jvm.MethodName)) ∈ lw_gd := xb_mem 830 rfl rfl
set_option maxRecDepth 100000 in
theorem xk_831 : (Jvm.Cond.code ({ cls := "NailRulesModel", name := "noMember", desc := "(I)Z" } : Jvm.MethodName) prog_5_method_32_code (2 : Nat) (Option.some Jvm.ClassFile.FieldType.boolean)) ∈ lw_gd := xb_mem 831 rfl rfl
set_option maxRecDepth 100000 in
theorem xk_832 : (Jvm.Cond.methodLink "NailRulesModel" (155 : Nat) ({ cls := "NailRulesModel", name := "isWithin", desc := "(IJJ)Z" } : Jvm.MethodName)) ∈ lw_gd := xb_mem 832 rfl rfl
set_option maxRecDepth 100000 in
theorem xk_834 : (Jvm.Cond.instanceMethod ({ cls := "NailRulesModel", name := "isWithin", desc := "(IJJ)Z" } : Jvm.MethodName)) ∈ lw_gd := xb_mem 834 rfl rfl
set_option maxRecDepth 100000 in
theorem xk_835 : (Jvm.Cond.code ({ cls := "NailRulesModel", name := "isWithin", desc := "(IJJ)Z" } : Jvm.MethodName) prog_5_method_31_code (20 : Nat) (Option.some Jvm.ClassFile.FieldType.boolean)) ∈ lw_gd := xb_mem 835 rfl rfl
set_option maxRecDepth 100000 in
theorem xk_836 : (Jvm.Cond.methodLink "NailRulesLaw" (134 : Nat) ({ cls := "NailRulesModel", name := "teeth", desc := "(IIIIII)I" } : Jvm.MethodName)) ∈ lw_gd := xb_mem 836 rfl rfl
set_option maxRecDepth 100000 in
theorem xk_837 : (Jvm.Cond.instanceMethod ({ cls := "NailRulesModel", name := "teeth", desc := "(IIIIII)I" } : Jvm.MethodName)) ∈ lw_gd := xb_mem 837 rfl rfl
set_option maxRecDepth 100000 in
theorem xk_838 : (Jvm.Cond.selects "NailRulesModel" ({ cls := "NailRulesModel", name := "teeth", desc := "(IIIIII)I" } : Jvm.MethodName) ({ cls := "NailRulesModel", name := "teeth", desc := "(IIIIII)I" } : Jvm.MethodName)) ∈ lw_gd := xb_mem 838 rfl rfl
set_option maxRecDepth 100000 in
theorem xk_839 : (Jvm.Cond.code ({ cls := "NailRulesModel", name := "teeth", desc := "(IIIIII)I" } : Jvm.MethodName) prog_5_method_34_code (11 : Nat) (Option.some Jvm.ClassFile.FieldType.int)) ∈ lw_gd := xb_mem 839 rfl rfl
set_option maxRecDepth 100000 in
theorem xk_840 : (Jvm.Cond.constantLong "NailRulesModel" (159 : Nat) (10 : Int64)) ∈ lw_gd := xb_mem 840 rfl rfl
set_option maxRecDepth 100000 in
theorem xk_841 : (Jvm.Cond.methodLink "NailRulesLaw" (137 : Nat) ({ cls := "NailRulesModel", name := "thick", desc := "(II)Z" } : Jvm.MethodName)) ∈ lw_gd := xb_mem 841 rfl rfl
set_option maxRecDepth 100000 in
theorem xk_842 : (Jvm.Cond.instanceMethod ({ cls := "NailRulesModel", name := "thick", desc := "(II)Z" } : Jvm.MethodName)) ∈ lw_gd := xb_mem 842 rfl rfl
set_option maxRecDepth 100000 in
theorem xk_843 : (Jvm.Cond.selects "NailRulesModel" ({ cls := "NailRulesModel", name := "thick", desc := "(II)Z" } : Jvm.MethodName) ({ cls := "NailRulesModel", name := "thick", desc := "(II)Z" } : Jvm.MethodName)) ∈ lw_gd := xb_mem 843 rfl rfl
set_option maxRecDepth 100000 in
theorem xk_844 : (Jvm.Cond.code ({ cls := "NailRulesModel", name := "thick", desc := "(II)Z" } : Jvm.MethodName) prog_5_method_35_code (3 : Nat) (Option.some Jvm.ClassFile.FieldType.boolean)) ∈ lw_gd := xb_mem 844 rfl rfl
set_option maxRecDepth 100000 in
theorem xk_845 : (Jvm.Cond.methodLink "NailRulesLaw" (141 : Nat) ({ cls := "NailRulesModel", name := "hole", desc := "(I)I" } : Jvm.MethodName)) ∈ lw_gd := xb_mem 845 rfl rfl
set_option maxRecDepth 100000 in
theorem xk_846 : (Jvm.Cond.instanceMethod ({ cls := "NailRulesModel", name := "hole", desc := "(I)I" } : Jvm.MethodName)) ∈ lw_gd := xb_mem 846 rfl rfl
set_option maxRecDepth 100000 in
theorem xk_847 : (Jvm.Cond.selects "NailRulesModel" ({ cls := "NailRulesModel", name := "hole", desc := "(I)I" } : Jvm.MethodName) ({ cls := "NailRulesModel", name := "hole", desc := "(I)I" } : Jvm.MethodName)) ∈ lw_gd := xb_mem 847 rfl rfl
set_option maxRecDepth 100000 in
theorem xk_848 : (Jvm.Cond.code ({ cls := "NailRulesModel", name := "hole", desc := "(I)I" } : Jvm.MethodName) prog_5_method_36_code (3 : Nat) (Option.some Jvm.ClassFile.FieldType.int)) ∈ lw_gd := xb_mem 848 rfl rfl
set_option maxRecDepth 100000 in
theorem xk_849 : (Jvm.Cond.constantLong "NailRulesLaw" (97 : Nat) (4294967295 : Int64)) ∈ lw_gd := xb_mem 849 rfl rfl
set_option maxRecDepth 100000 in
theorem xk_850 : (Jvm.Cond.arrayClass Jvm.ClassFile.FieldType.long) ∈ lw_gd := xb_mem 850 rfl rfl
set_option maxRecDepth 100000 in
theorem xk_859 : (Jvm.Cond.castable "NailRules$Member" "java/lang/Object") ∈ lw_tbl := List.mem_of_getElem? (i := 859) rfl
set_option maxRecDepth 100000 in
theorem xk_861 : (Jvm.Cond.fieldLink "java/lang/String" (9 : Nat) "java/lang/String" "value" "[B") ∈ lw_gd := xb_mem 861 rfl rfl
set_option maxRecDepth 100000 in
theorem xk_862 : (Jvm.Cond.fieldLink "java/lang/String" (15 : Nat) "java/lang/String" "coder" "B") ∈ lw_gd := xb_mem 862 rfl rfl
theorem xi_N : ∀ w ∈ u_ws xR_N xF_N 11, w ∈ lw_gd := List.forall_mem_cons.mpr ⟨xk_125, List.forall_mem_cons.mpr ⟨xk_127, List.forall_mem_cons.mpr ⟨xk_129, List.forall_mem_cons.mpr ⟨xk_131, List.forall_mem_cons.mpr ⟨xk_133, List.forall_mem_cons.mpr ⟨xk_135, List.forall_mem_cons.mpr ⟨xk_137, List.forall_mem_cons.mpr ⟨xk_139, List.forall_mem_cons.mpr ⟨xk_141, List.forall_mem_cons.mpr ⟨xk_143, List.forall_mem_cons.mpr ⟨xk_145, fun _ h => absurd h List.not_mem_nil⟩⟩⟩⟩⟩⟩⟩⟩⟩⟩⟩
theorem xi_T : ∀ w ∈ u_ws xR_T xF_T 3, w ∈ lw_gd := List.forall_mem_cons.mpr ⟨xk_79, List.forall_mem_cons.mpr ⟨xk_81, List.forall_mem_cons.mpr ⟨xk_83, fun _ h => absurd h List.not_mem_nil⟩⟩⟩
theorem xi_M : ∀ w ∈ u_ws xR_M xF_M 5, w ∈ lw_gd := List.forall_mem_cons.mpr ⟨xk_529, List.forall_mem_cons.mpr ⟨xk_531, List.forall_mem_cons.mpr ⟨xk_533, List.forall_mem_cons.mpr ⟨xk_535, List.forall_mem_cons.mpr ⟨xk_537, fun _ h => absurd h List.not_mem_nil⟩⟩⟩⟩⟩
theorem xi_R : ∀ w ∈ u_ws xR_R xF_R 20, w ∈ lw_gd := List.forall_mem_cons.mpr ⟨xk_666, List.forall_mem_cons.mpr ⟨xk_668, List.forall_mem_cons.mpr ⟨xk_670, List.forall_mem_cons.mpr ⟨xk_672, List.forall_mem_cons.mpr ⟨xk_674, List.forall_mem_cons.mpr ⟨xk_676, List.forall_mem_cons.mpr ⟨xk_678, List.forall_mem_cons.mpr ⟨xk_680, List.forall_mem_cons.mpr ⟨xk_682, List.forall_mem_cons.mpr ⟨xk_684, List.forall_mem_cons.mpr ⟨xk_686, List.forall_mem_cons.mpr ⟨xk_688, List.forall_mem_cons.mpr ⟨xk_690, List.forall_mem_cons.mpr ⟨xk_692, List.forall_mem_cons.mpr ⟨xk_694, List.forall_mem_cons.mpr ⟨xk_696, List.forall_mem_cons.mpr ⟨xk_698, List.forall_mem_cons.mpr ⟨xk_700, List.forall_mem_cons.mpr ⟨xk_702, List.forall_mem_cons.mpr ⟨xk_704, fun _ h => absurd h List.not_mem_nil⟩⟩⟩⟩⟩⟩⟩⟩⟩⟩⟩⟩⟩⟩⟩⟩⟩⟩⟩⟩
theorem xi_A : ∀ w ∈ u_ws xR_A xF_A 3, w ∈ lw_gd := List.forall_mem_cons.mpr ⟨xk_106, List.forall_mem_cons.mpr ⟨xk_108, List.forall_mem_cons.mpr ⟨xk_110, fun _ h => absurd h List.not_mem_nil⟩⟩⟩
