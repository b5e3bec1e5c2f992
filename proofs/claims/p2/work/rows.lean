section
-- ===== PART A: goes FIRST, ahead of the names: the tables' words, and 'selects' of the private methods out of them =====
/-- a private method of a class that the tables say can be made, by its rows of tables_1 -/
def lw_okq (q : MethodName × Nat) : Prop := (q.1.cls ≠ "java/lang/invoke/MethodHandle" ∧ q.1.cls ≠ "java/lang/invoke/VarHandle") ∧ Cond.instantiable q.1.cls q.2 ∈ tables_1 ∧ Cond.privateMethod q.1 ∈ tables_1 ∧ Cond.instanceMethod q.1 ∈ tables_1
theorem lw_p0 : lw_okq (⟨"NailRules$Text", "append", "(I)Z"⟩, 3) := ⟨⟨by decide +kernel, by decide +kernel⟩, List.mem_of_getElem? (i := 32) (by decide +kernel), List.mem_of_getElem? (i := 114) (by decide +kernel), List.mem_of_getElem? (i := 115) (by decide +kernel)⟩
theorem lw_p1 : lw_okq (⟨"NailRules", "readStatements", "()I"⟩, 11) := ⟨⟨by decide +kernel, by decide +kernel⟩, List.mem_of_getElem? (i := 24) (by decide +kernel), List.mem_of_getElem? (i := 122) (by decide +kernel), List.mem_of_getElem? (i := 123) (by decide +kernel)⟩
theorem lw_p2 : lw_okq (⟨"NailRules$Text", "rewind", "()V"⟩, 3) := ⟨⟨by decide +kernel, by decide +kernel⟩, List.mem_of_getElem? (i := 32) (by decide +kernel), List.mem_of_getElem? (i := 126) (by decide +kernel), List.mem_of_getElem? (i := 127) (by decide +kernel)⟩
theorem lw_p3 : lw_okq (⟨"NailRules", "readStatement", "()Z"⟩, 11) := ⟨⟨by decide +kernel, by decide +kernel⟩, List.mem_of_getElem? (i := 24) (by decide +kernel), List.mem_of_getElem? (i := 130) (by decide +kernel), List.mem_of_getElem? (i := 131) (by decide +kernel)⟩
theorem lw_p4 : lw_okq (⟨"NailRules$Text", "takeKind", "()I"⟩, 3) := ⟨⟨by decide +kernel, by decide +kernel⟩, List.mem_of_getElem? (i := 32) (by decide +kernel), List.mem_of_getElem? (i := 134) (by decide +kernel), List.mem_of_getElem? (i := 135) (by decide +kernel)⟩
theorem lw_p5 : lw_okq (⟨"NailRules$Text", "look", "(I)I"⟩, 3) := ⟨⟨by decide +kernel, by decide +kernel⟩, List.mem_of_getElem? (i := 32) (by decide +kernel), List.mem_of_getElem? (i := 138) (by decide +kernel), List.mem_of_getElem? (i := 139) (by decide +kernel)⟩
theorem lw_p6 : lw_okq (⟨"NailRules$Text", "take", "(C)Z"⟩, 3) := ⟨⟨by decide +kernel, by decide +kernel⟩, List.mem_of_getElem? (i := 32) (by decide +kernel), List.mem_of_getElem? (i := 145) (by decide +kernel), List.mem_of_getElem? (i := 146) (by decide +kernel)⟩
theorem lw_p7 : lw_okq (⟨"NailRules$Text", "takeWord", "()I"⟩, 3) := ⟨⟨by decide +kernel, by decide +kernel⟩, List.mem_of_getElem? (i := 32) (by decide +kernel), List.mem_of_getElem? (i := 149) (by decide +kernel), List.mem_of_getElem? (i := 150) (by decide +kernel)⟩
theorem lw_p8 : lw_okq (⟨"NailRules$Text", "unitsAlike", "(Ljava/lang/String;)I"⟩, 3) := ⟨⟨by decide +kernel, by decide +kernel⟩, List.mem_of_getElem? (i := 32) (by decide +kernel), List.mem_of_getElem? (i := 163) (by decide +kernel), List.mem_of_getElem? (i := 164) (by decide +kernel)⟩
theorem lw_p9 : lw_okq (⟨"NailRules$Text", "takeNumber", "()I"⟩, 3) := ⟨⟨by decide +kernel, by decide +kernel⟩, List.mem_of_getElem? (i := 32) (by decide +kernel), List.mem_of_getElem? (i := 218) (by decide +kernel), List.mem_of_getElem? (i := 219) (by decide +kernel)⟩
theorem lw_p10 : lw_okq (⟨"NailRules$Text", "fault", "()I"⟩, 3) := ⟨⟨by decide +kernel, by decide +kernel⟩, List.mem_of_getElem? (i := 32) (by decide +kernel), List.mem_of_getElem? (i := 225) (by decide +kernel), List.mem_of_getElem? (i := 226) (by decide +kernel)⟩
theorem lw_p11 : lw_okq (⟨"NailRules$Text", "ended", "()Z"⟩, 3) := ⟨⟨by decide +kernel, by decide +kernel⟩, List.mem_of_getElem? (i := 32) (by decide +kernel), List.mem_of_getElem? (i := 229) (by decide +kernel), List.mem_of_getElem? (i := 230) (by decide +kernel)⟩
theorem lw_p12 : lw_okq (⟨"NailRules$Text", "empty", "()V"⟩, 3) := ⟨⟨by decide +kernel, by decide +kernel⟩, List.mem_of_getElem? (i := 32) (by decide +kernel), List.mem_of_getElem? (i := 233) (by decide +kernel), List.mem_of_getElem? (i := 234) (by decide +kernel)⟩
theorem lw_p13 : lw_okq (⟨"java/lang/Throwable", "fillInStackTrace", "(I)Ljava/lang/Throwable;"⟩, 6) := ⟨⟨by decide +kernel, by decide +kernel⟩, List.mem_of_getElem? (i := 291) (by decide +kernel), List.mem_of_getElem? (i := 289) (by decide +kernel), List.mem_of_getElem? (i := 290) (by decide +kernel)⟩
theorem lw_p14 : lw_okq (⟨"NailRules", "told", "(II)I"⟩, 11) := ⟨⟨by decide +kernel, by decide +kernel⟩, List.mem_of_getElem? (i := 24) (by decide +kernel), List.mem_of_getElem? (i := 320) (by decide +kernel), List.mem_of_getElem? (i := 321) (by decide +kernel)⟩
theorem lw_p15 : lw_okq (⟨"NailRules", "leastFormula", "(III)I"⟩, 11) := ⟨⟨by decide +kernel, by decide +kernel⟩, List.mem_of_getElem? (i := 24) (by decide +kernel), List.mem_of_getElem? (i := 361) (by decide +kernel), List.mem_of_getElem? (i := 362) (by decide +kernel)⟩
def lw_privs_1 : List (MethodName × Nat) := [(⟨"NailRules$Text", "append", "(I)Z"⟩, 3), (⟨"NailRules", "readStatements", "()I"⟩, 11), (⟨"NailRules$Text", "rewind", "()V"⟩, 3), (⟨"NailRules", "readStatement", "()Z"⟩, 11), (⟨"NailRules$Text", "takeKind", "()I"⟩, 3), (⟨"NailRules$Text", "look", "(I)I"⟩, 3), (⟨"NailRules$Text", "take", "(C)Z"⟩, 3), (⟨"NailRules$Text", "takeWord", "()I"⟩, 3), (⟨"NailRules$Text", "unitsAlike", "(Ljava/lang/String;)I"⟩, 3), (⟨"NailRules$Text", "takeNumber", "()I"⟩, 3), (⟨"NailRules$Text", "fault", "()I"⟩, 3), (⟨"NailRules$Text", "ended", "()Z"⟩, 3), (⟨"NailRules$Text", "empty", "()V"⟩, 3), (⟨"java/lang/Throwable", "fillInStackTrace", "(I)Ljava/lang/Throwable;"⟩, 6), (⟨"NailRules", "told", "(II)I"⟩, 11), (⟨"NailRules", "leastFormula", "(III)I"⟩, 11)]
theorem lw_r1 : ∀ q ∈ lw_privs_1, lw_okq q := List.forall_mem_cons.mpr ⟨lw_p0, List.forall_mem_cons.mpr ⟨lw_p1, List.forall_mem_cons.mpr ⟨lw_p2, List.forall_mem_cons.mpr ⟨lw_p3, List.forall_mem_cons.mpr ⟨lw_p4, List.forall_mem_cons.mpr ⟨lw_p5, List.forall_mem_cons.mpr ⟨lw_p6, List.forall_mem_cons.mpr ⟨lw_p7, List.forall_mem_cons.mpr ⟨lw_p8, List.forall_mem_cons.mpr ⟨lw_p9, List.forall_mem_cons.mpr ⟨lw_p10, List.forall_mem_cons.mpr ⟨lw_p11, List.forall_mem_cons.mpr ⟨lw_p12, List.forall_mem_cons.mpr ⟨lw_p13, List.forall_mem_cons.mpr ⟨lw_p14, List.forall_mem_cons.mpr ⟨lw_p15, fun _ h => absurd h List.not_mem_nil⟩⟩⟩⟩⟩⟩⟩⟩⟩⟩⟩⟩⟩⟩⟩⟩
theorem lw_p16 : lw_okq (⟨"NailRules", "formula", "(IIII)J"⟩, 11) := ⟨⟨by decide +kernel, by decide +kernel⟩, List.mem_of_getElem? (i := 24) (by decide +kernel), List.mem_of_getElem? (i := 365) (by decide +kernel), List.mem_of_getElem? (i := 366) (by decide +kernel)⟩
theorem lw_p17 : lw_okq (⟨"NailRules", "heldByRow", "(IJ)J"⟩, 11) := ⟨⟨by decide +kernel, by decide +kernel⟩, List.mem_of_getElem? (i := 24) (by decide +kernel), List.mem_of_getElem? (i := 380) (by decide +kernel), List.mem_of_getElem? (i := 381) (by decide +kernel)⟩
theorem lw_p18 : lw_okq (⟨"NailRules", "space", "(II)I"⟩, 11) := ⟨⟨by decide +kernel, by decide +kernel⟩, List.mem_of_getElem? (i := 24) (by decide +kernel), List.mem_of_getElem? (i := 400) (by decide +kernel), List.mem_of_getElem? (i := 401) (by decide +kernel)⟩
theorem lw_p19 : lw_okq (⟨"NailRules", "layOut", "(III)V"⟩, 11) := ⟨⟨by decide +kernel, by decide +kernel⟩, List.mem_of_getElem? (i := 24) (by decide +kernel), List.mem_of_getElem? (i := 407) (by decide +kernel), List.mem_of_getElem? (i := 408) (by decide +kernel)⟩
theorem lw_p20 : lw_okq (⟨"NailRules", "firstNearSide", "(III)I"⟩, 11) := ⟨⟨by decide +kernel, by decide +kernel⟩, List.mem_of_getElem? (i := 24) (by decide +kernel), List.mem_of_getElem? (i := 450) (by decide +kernel), List.mem_of_getElem? (i := 451) (by decide +kernel)⟩
theorem lw_p21 : lw_okq (⟨"NailRules", "firstNearPair", "(J)I"⟩, 11) := ⟨⟨by decide +kernel, by decide +kernel⟩, List.mem_of_getElem? (i := 24) (by decide +kernel), List.mem_of_getElem? (i := 457) (by decide +kernel), List.mem_of_getElem? (i := 458) (by decide +kernel)⟩
theorem lw_p22 : lw_okq (⟨"NailRules", "squareBetween", "(II)J"⟩, 11) := ⟨⟨by decide +kernel, by decide +kernel⟩, List.mem_of_getElem? (i := 24) (by decide +kernel), List.mem_of_getElem? (i := 461) (by decide +kernel), List.mem_of_getElem? (i := 462) (by decide +kernel)⟩
theorem lw_p23 : lw_okq (⟨"java/util/ArrayList", "add", "(Ljava/lang/Object;[Ljava/lang/Object;I)V"⟩, 3) := ⟨⟨by decide +kernel, by decide +kernel⟩, List.mem_of_getElem? (i := 49) (by decide +kernel), List.mem_of_getElem? (i := 506) (by decide +kernel), List.mem_of_getElem? (i := 507) (by decide +kernel)⟩
theorem lw_p24 : lw_okq (⟨"java/util/ArrayList", "grow", "()[Ljava/lang/Object;"⟩, 3) := ⟨⟨by decide +kernel, by decide +kernel⟩, List.mem_of_getElem? (i := 49) (by decide +kernel), List.mem_of_getElem? (i := 510) (by decide +kernel), List.mem_of_getElem? (i := 511) (by decide +kernel)⟩
theorem lw_p25 : lw_okq (⟨"java/util/ArrayList", "grow", "(I)[Ljava/lang/Object;"⟩, 3) := ⟨⟨by decide +kernel, by decide +kernel⟩, List.mem_of_getElem? (i := 49) (by decide +kernel), List.mem_of_getElem? (i := 514) (by decide +kernel), List.mem_of_getElem? (i := 515) (by decide +kernel)⟩
theorem lw_p26 : lw_okq (⟨"NailRules$Member", "grips", "(II)Z"⟩, 5) := ⟨⟨by decide +kernel, by decide +kernel⟩, List.mem_of_getElem? (i := 480) (by decide +kernel), List.mem_of_getElem? (i := 572) (by decide +kernel), List.mem_of_getElem? (i := 573) (by decide +kernel)⟩
theorem lw_p27 : lw_okq (⟨"NailRulesModel", "now", "()I"⟩, 20) := ⟨⟨by decide +kernel, by decide +kernel⟩, List.mem_of_getElem? (i := 600) (by decide +kernel), List.mem_of_getElem? (i := 677) (by decide +kernel), List.mem_of_getElem? (i := 678) (by decide +kernel)⟩
theorem lw_p28 : lw_okq (⟨"NailRulesModel", "must", "(Z)V"⟩, 20) := ⟨⟨by decide +kernel, by decide +kernel⟩, List.mem_of_getElem? (i := 600) (by decide +kernel), List.mem_of_getElem? (i := 684) (by decide +kernel), List.mem_of_getElem? (i := 685) (by decide +kernel)⟩
theorem lw_p29 : lw_okq (⟨"NailRulesModel", "word", "()I"⟩, 20) := ⟨⟨by decide +kernel, by decide +kernel⟩, List.mem_of_getElem? (i := 600) (by decide +kernel), List.mem_of_getElem? (i := 688) (by decide +kernel), List.mem_of_getElem? (i := 689) (by decide +kernel)⟩
theorem lw_p30 : lw_okq (⟨"NailRulesModel", "whole", "(I)I"⟩, 20) := ⟨⟨by decide +kernel, by decide +kernel⟩, List.mem_of_getElem? (i := 600) (by decide +kernel), List.mem_of_getElem? (i := 692) (by decide +kernel), List.mem_of_getElem? (i := 693) (by decide +kernel)⟩
theorem lw_p31 : lw_okq (⟨"NailRulesModel", "may", "(III)Z"⟩, 20) := ⟨⟨by decide +kernel, by decide +kernel⟩, List.mem_of_getElem? (i := 600) (by decide +kernel), List.mem_of_getElem? (i := 696) (by decide +kernel), List.mem_of_getElem? (i := 697) (by decide +kernel)⟩
def lw_privs_2 : List (MethodName × Nat) := [(⟨"NailRules", "formula", "(IIII)J"⟩, 11), (⟨"NailRules", "heldByRow", "(IJ)J"⟩, 11), (⟨"NailRules", "space", "(II)I"⟩, 11), (⟨"NailRules", "layOut", "(III)V"⟩, 11), (⟨"NailRules", "firstNearSide", "(III)I"⟩, 11), (⟨"NailRules", "firstNearPair", "(J)I"⟩, 11), (⟨"NailRules", "squareBetween", "(II)J"⟩, 11), (⟨"java/util/ArrayList", "add", "(Ljava/lang/Object;[Ljava/lang/Object;I)V"⟩, 3), (⟨"java/util/ArrayList", "grow", "()[Ljava/lang/Object;"⟩, 3), (⟨"java/util/ArrayList", "grow", "(I)[Ljava/lang/Object;"⟩, 3), (⟨"NailRules$Member", "grips", "(II)Z"⟩, 5), (⟨"NailRulesModel", "now", "()I"⟩, 20), (⟨"NailRulesModel", "must", "(Z)V"⟩, 20), (⟨"NailRulesModel", "word", "()I"⟩, 20), (⟨"NailRulesModel", "whole", "(I)I"⟩, 20), (⟨"NailRulesModel", "may", "(III)Z"⟩, 20)]
theorem lw_r2 : ∀ q ∈ lw_privs_2, lw_okq q := List.forall_mem_cons.mpr ⟨lw_p16, List.forall_mem_cons.mpr ⟨lw_p17, List.forall_mem_cons.mpr ⟨lw_p18, List.forall_mem_cons.mpr ⟨lw_p19, List.forall_mem_cons.mpr ⟨lw_p20, List.forall_mem_cons.mpr ⟨lw_p21, List.forall_mem_cons.mpr ⟨lw_p22, List.forall_mem_cons.mpr ⟨lw_p23, List.forall_mem_cons.mpr ⟨lw_p24, List.forall_mem_cons.mpr ⟨lw_p25, List.forall_mem_cons.mpr ⟨lw_p26, List.forall_mem_cons.mpr ⟨lw_p27, List.forall_mem_cons.mpr ⟨lw_p28, List.forall_mem_cons.mpr ⟨lw_p29, List.forall_mem_cons.mpr ⟨lw_p30, List.forall_mem_cons.mpr ⟨lw_p31, fun _ h => absurd h List.not_mem_nil⟩⟩⟩⟩⟩⟩⟩⟩⟩⟩⟩⟩⟩⟩⟩⟩
theorem lw_p32 : lw_okq (⟨"NailRulesModel", "number", "()I"⟩, 20) := ⟨⟨by decide +kernel, by decide +kernel⟩, List.mem_of_getElem? (i := 600) (by decide +kernel), List.mem_of_getElem? (i := 700) (by decide +kernel), List.mem_of_getElem? (i := 701) (by decide +kernel)⟩
theorem lw_p33 : lw_okq (⟨"NailRulesModel", "isDigit", "()Z"⟩, 20) := ⟨⟨by decide +kernel, by decide +kernel⟩, List.mem_of_getElem? (i := 600) (by decide +kernel), List.mem_of_getElem? (i := 704) (by decide +kernel), List.mem_of_getElem? (i := 705) (by decide +kernel)⟩
theorem lw_p34 : lw_okq (⟨"NailRulesModel", "formula", "(IIJJ)J"⟩, 20) := ⟨⟨by decide +kernel, by decide +kernel⟩, List.mem_of_getElem? (i := 600) (by decide +kernel), List.mem_of_getElem? (i := 729) (by decide +kernel), List.mem_of_getElem? (i := 730) (by decide +kernel)⟩
theorem lw_p35 : lw_okq (⟨"NailRulesModel", "all", "(JJ)J"⟩, 20) := ⟨⟨by decide +kernel, by decide +kernel⟩, List.mem_of_getElem? (i := 600) (by decide +kernel), List.mem_of_getElem? (i := 740) (by decide +kernel), List.mem_of_getElem? (i := 741) (by decide +kernel)⟩
theorem lw_p36 : lw_okq (⟨"NailRulesModel", "space", "(II)J"⟩, 20) := ⟨⟨by decide +kernel, by decide +kernel⟩, List.mem_of_getElem? (i := 600) (by decide +kernel), List.mem_of_getElem? (i := 754) (by decide +kernel), List.mem_of_getElem? (i := 755) (by decide +kernel)⟩
theorem lw_p37 : lw_okq (⟨"NailRulesModel", "noMember", "(I)Z"⟩, 20) := ⟨⟨by decide +kernel, by decide +kernel⟩, List.mem_of_getElem? (i := 600) (by decide +kernel), List.mem_of_getElem? (i := 790) (by decide +kernel), List.mem_of_getElem? (i := 791) (by decide +kernel)⟩
theorem lw_p38 : lw_okq (⟨"NailRulesModel", "isWithin", "(IJJ)Z"⟩, 20) := ⟨⟨by decide +kernel, by decide +kernel⟩, List.mem_of_getElem? (i := 600) (by decide +kernel), List.mem_of_getElem? (i := 794) (by decide +kernel), List.mem_of_getElem? (i := 795) (by decide +kernel)⟩
def lw_privs_3 : List (MethodName × Nat) := [(⟨"NailRulesModel", "number", "()I"⟩, 20), (⟨"NailRulesModel", "isDigit", "()Z"⟩, 20), (⟨"NailRulesModel", "formula", "(IIJJ)J"⟩, 20), (⟨"NailRulesModel", "all", "(JJ)J"⟩, 20), (⟨"NailRulesModel", "space", "(II)J"⟩, 20), (⟨"NailRulesModel", "noMember", "(I)Z"⟩, 20), (⟨"NailRulesModel", "isWithin", "(IJJ)Z"⟩, 20)]
theorem lw_r3 : ∀ q ∈ lw_privs_3, lw_okq q := List.forall_mem_cons.mpr ⟨lw_p32, List.forall_mem_cons.mpr ⟨lw_p33, List.forall_mem_cons.mpr ⟨lw_p34, List.forall_mem_cons.mpr ⟨lw_p35, List.forall_mem_cons.mpr ⟨lw_p36, List.forall_mem_cons.mpr ⟨lw_p37, List.forall_mem_cons.mpr ⟨lw_p38, fun _ h => absurd h List.not_mem_nil⟩⟩⟩⟩⟩⟩⟩
def lw_privs : List (MethodName × Nat) := lw_privs_1 ++ (lw_privs_2 ++ (lw_privs_3))
def lw_tbl : List Cond := k2_sels lw_privs ++ tables_1
theorem lw_privs_ok : ∀ q ∈ lw_privs, lw_okq q := by
  show ∀ q ∈ lw_privs_1 ++ (lw_privs_2 ++ (lw_privs_3)), lw_okq q
  exact List.forall_mem_append.mpr ⟨lw_r1, List.forall_mem_append.mpr ⟨lw_r2, lw_r3⟩⟩
-- ===== end of PART A; then your names; then what follows =====
end
section
/-- those of the tables' words that ride -/
def lw_gd : List Cond := lw_tbl.filter goodWord
theorem xb_mem {w : Cond} (i : Nat) (h : lw_tbl[i]? = some w) (hg : goodWord w = true) : w ∈ lw_gd := List.mem_filter.mpr ⟨List.mem_of_getElem? h, hg⟩
theorem xb_gi {ws : List Cond} (h : ∀ w ∈ ws, w ∈ lw_gd) : GoodIn lw_gd ws := fun w hw => ⟨h w hw, good_of_word (List.mem_filter.mp (h w hw)).2⟩
end
section
def xR_N : String := "NailRules"
def xF_N : u_T := fun k => match k with
  | 0 => ("NailRules", "text", "LNailRules$Text;", true)
  | 1 => ("NailRules", "rules", "[I", true)
  | 2 => ("NailRules", "wet", "I", false)
  | 3 => ("NailRules", "less", "I", false)
  | 4 => ("NailRules", "patternX", "[I", true)
  | 5 => ("NailRules", "patternY", "[I", true)
  | 6 => ("NailRules", "patternCount", "I", false)
  | 7 => ("NailRules", "placeX", "[I", true)
  | 8 => ("NailRules", "placeY", "[I", true)
  | 9 => ("NailRules", "placeCount", "I", false)
  | _ => ("NailRules", "members", "Ljava/util/ArrayList;", true)
def xt_N : Nat → FieldType := fun k => match k with
  | 0 => .object "NailRules$Text"
  | 1 => .array .int
  | 2 => .int
  | 3 => .int
  | 4 => .array .int
  | 5 => .array .int
  | 6 => .int
  | 7 => .array .int
  | 8 => .array .int
  | 9 => .int
  | _ => .object "java/util/ArrayList"
theorem xn_N : ∀ a, a < 11 → ∀ b, b < 11 → a ≠ b → (xF_N a).2.1 ≠ (xF_N b).2.1 := by decide +kernel
theorem xt_N_ok : ∀ k, k < 11 → parseFieldDescriptor (xF_N k).2.2.1 = some (xt_N k) := by decide +kernel
def xR_T : String := "NailRules$Text"
def xF_T : u_T := fun k => match k with
  | 0 => ("NailRules$Text", "units", "[C", true)
  | 1 => ("NailRules$Text", "length", "I", false)
  | _ => ("NailRules$Text", "next", "I", false)
def xt_T : Nat → FieldType := fun k => match k with
  | 0 => .array .char
  | 1 => .int
  | _ => .int
theorem xn_T : ∀ a, a < 3 → ∀ b, b < 3 → a ≠ b → (xF_T a).2.1 ≠ (xF_T b).2.1 := by decide +kernel
theorem xt_T_ok : ∀ k, k < 3 → parseFieldDescriptor (xF_T k).2.2.1 = some (xt_T k) := by decide +kernel
def xR_M : String := "NailRules$Member"
def xF_M : u_T := fun k => match k with
  | 0 => ("NailRules$Member", "x0", "J", true)
  | 1 => ("NailRules$Member", "y0", "J", true)
  | 2 => ("NailRules$Member", "alongX", "J", true)
  | 3 => ("NailRules$Member", "alongY", "J", true)
  | _ => ("NailRules$Member", "wide", "J", true)
def xt_M : Nat → FieldType := fun k => match k with
  | 0 => .long
  | 1 => .long
  | 2 => .long
  | 3 => .long
  | _ => .long
theorem xn_M : ∀ a, a < 5 → ∀ b, b < 5 → a ≠ b → (xF_M a).2.1 ≠ (xF_M b).2.1 := by decide +kernel
theorem xt_M_ok : ∀ k, k < 5 → parseFieldDescriptor (xF_M k).2.2.1 = some (xt_M k) := by decide +kernel
def xR_R : String := "NailRulesModel"
def xF_R : u_T := fun k => match k with
  | 0 => ("NailRulesModel", "thrown", "I", false)
  | 1 => ("NailRulesModel", "text", "[I", true)
  | 2 => ("NailRulesModel", "size", "I", false)
  | 3 => ("NailRulesModel", "at", "I", false)
  | 4 => ("NailRulesModel", "fault", "I", false)
  | 5 => ("NailRulesModel", "draft", "[I", true)
  | 6 => ("NailRulesModel", "rules", "[I", true)
  | 7 => ("NailRulesModel", "letters", "[I", true)
  | 8 => ("NailRulesModel", "wet", "J", false)
  | 9 => ("NailRulesModel", "less", "J", false)
  | 10 => ("NailRulesModel", "patternKind", "I", false)
  | 11 => ("NailRulesModel", "patternMany", "I", false)
  | 12 => ("NailRulesModel", "columns", "I", false)
  | 13 => ("NailRulesModel", "patternAt", "[I", true)
  | 14 => ("NailRulesModel", "places", "I", false)
  | 15 => ("NailRulesModel", "xs", "[I", true)
  | 16 => ("NailRulesModel", "ys", "[I", true)
  | 17 => ("NailRulesModel", "members", "I", false)
  | 18 => ("NailRulesModel", "ends", "[I", true)
  | _ => ("NailRulesModel", "wides", "[I", true)
def xt_R : Nat → FieldType := fun k => match k with
  | 0 => .int
  | 1 => .array .int
  | 2 => .int
  | 3 => .int
  | 4 => .int
  | 5 => .array .int
  | 6 => .array .int
  | 7 => .array .int
  | 8 => .long
  | 9 => .long
  | 10 => .int
  | 11 => .int
  | 12 => .int
  | 13 => .array .int
  | 14 => .int
  | 15 => .array .int
  | 16 => .array .int
  | 17 => .int
  | 18 => .array .int
  | _ => .array .int
theorem xn_R : ∀ a, a < 20 → ∀ b, b < 20 → a ≠ b → (xF_R a).2.1 ≠ (xF_R b).2.1 := by decide +kernel
theorem xt_R_ok : ∀ k, k < 20 → parseFieldDescriptor (xF_R k).2.2.1 = some (xt_R k) := by decide +kernel
def xR_A : String := "java/util/ArrayList"
def xF_A : u_T := fun k => match k with
  | 0 => ("java/util/ArrayList", "elementData", "[Ljava/lang/Object;", false)
  | 1 => ("java/util/ArrayList", "size", "I", false)
  | _ => ("java/util/AbstractList", "modCount", "I", false)
def xt_A : Nat → FieldType := fun k => match k with
  | 0 => .array (.object "java/lang/Object")
  | 1 => .int
  | _ => .int
theorem xn_A : ∀ a, a < 3 → ∀ b, b < 3 → a ≠ b → (xF_A a).2.1 ≠ (xF_A b).2.1 := by decide +kernel
theorem xt_A_ok : ∀ k, k < 3 → parseFieldDescriptor (xF_A k).2.2.1 = some (xt_A k) := by decide +kernel
abbrev classes : List vw_C := [(xR_N, xF_N, 11), (xR_T, xF_T, 3), (xR_M, xF_M, 5), (xR_R, xF_R, 20), (xR_A, xF_A, 3)]
abbrev bN_init : ByteArray := prog_1_method_1_code
abbrev yN_init : MethodName := ⟨"NailRules", "<init>", "()V"⟩
abbrev bN_unit : ByteArray := prog_1_method_2_code
abbrev yN_unit : MethodName := ⟨"NailRules", "unit", "(I)Z"⟩
abbrev bN_read : ByteArray := prog_1_method_3_code
abbrev yN_read : MethodName := ⟨"NailRules", "read", "()I"⟩
abbrev bN_rule : ByteArray := prog_1_method_4_code
abbrev yN_rule : MethodName := ⟨"NailRules", "rule", "(II)I"⟩
abbrev bN_set : ByteArray := prog_1_method_5_code
abbrev yN_set : MethodName := ⟨"NailRules", "set", "(II)V"⟩
abbrev bN_holds : ByteArray := prog_1_method_6_code
abbrev yN_holds : MethodName := ⟨"NailRules", "holds", "(IIIII)J"⟩
abbrev bN_together : ByteArray := prog_1_method_7_code
abbrev yN_together : MethodName := ⟨"NailRules", "together", "(IJ)J"⟩
abbrev bN_count : ByteArray := prog_1_method_8_code
abbrev yN_count : MethodName := ⟨"NailRules", "count", "(JJ)I"⟩
abbrev bN_pattern : ByteArray := prog_1_method_9_code
abbrev yN_pattern : MethodName := ⟨"NailRules", "pattern", "(IIII)Z"⟩
abbrev bN_at : ByteArray := prog_1_method_10_code
abbrev yN_at : MethodName := ⟨"NailRules", "at", "(II)I"⟩
abbrev bN_place : ByteArray := prog_1_method_11_code
abbrev yN_place : MethodName := ⟨"NailRules", "place", "(II)I"⟩
abbrev bN_clear : ByteArray := prog_1_method_12_code
abbrev yN_clear : MethodName := ⟨"NailRules", "clear", "()V"⟩
abbrev bN_keeps : ByteArray := prog_1_method_13_code
abbrev yN_keeps : MethodName := ⟨"NailRules", "keeps", "(III)I"⟩
abbrev bN_member : ByteArray := prog_1_method_14_code
abbrev yN_member : MethodName := ⟨"NailRules", "member", "(IIIII)I"⟩
abbrev bN_in : ByteArray := prog_1_method_15_code
abbrev yN_in : MethodName := ⟨"NailRules", "in", "(III)Z"⟩
abbrev bN_teeth : ByteArray := prog_1_method_16_code
abbrev yN_teeth : MethodName := ⟨"NailRules", "teeth", "(IIIIII)I"⟩
abbrev bN_thick : ByteArray := prog_1_method_17_code
abbrev yN_thick : MethodName := ⟨"NailRules", "thick", "(II)Z"⟩
abbrev bN_hole : ByteArray := prog_1_method_18_code
abbrev yN_hole : MethodName := ⟨"NailRules", "hole", "(I)I"⟩
abbrev bN_requireIndex : ByteArray := prog_1_method_19_code
abbrev yN_requireIndex : MethodName := ⟨"NailRules", "requireIndex", "(II)V"⟩
abbrev bN_requireWithin : ByteArray := prog_1_method_20_code
abbrev yN_requireWithin : MethodName := ⟨"NailRules", "requireWithin", "(JJJ)V"⟩
abbrev bN_told : ByteArray := prog_1_method_21_code
abbrev yN_told : MethodName := ⟨"NailRules", "told", "(II)I"⟩
abbrev bN_space : ByteArray := prog_1_method_22_code
abbrev yN_space : MethodName := ⟨"NailRules", "space", "(II)I"⟩
abbrev bN_readStatements : ByteArray := prog_1_method_23_code
abbrev yN_readStatements : MethodName := ⟨"NailRules", "readStatements", "()I"⟩
abbrev bN_readStatement : ByteArray := prog_1_method_24_code
abbrev yN_readStatement : MethodName := ⟨"NailRules", "readStatement", "()Z"⟩
abbrev bN_leastFormula : ByteArray := prog_1_method_25_code
abbrev yN_leastFormula : MethodName := ⟨"NailRules", "leastFormula", "(III)I"⟩
abbrev bN_formula : ByteArray := prog_1_method_26_code
abbrev yN_formula : MethodName := ⟨"NailRules", "formula", "(IIII)J"⟩
abbrev bN_heldByRow : ByteArray := prog_1_method_27_code
abbrev yN_heldByRow : MethodName := ⟨"NailRules", "heldByRow", "(IJ)J"⟩
abbrev bN_fitting : ByteArray := prog_1_method_28_code
abbrev yN_fitting : MethodName := ⟨"NailRules", "fitting", "(III)I"⟩
abbrev bN_layOut : ByteArray := prog_1_method_29_code
abbrev yN_layOut : MethodName := ⟨"NailRules", "layOut", "(III)V"⟩
abbrev bN_firstNearSide : ByteArray := prog_1_method_30_code
abbrev yN_firstNearSide : MethodName := ⟨"NailRules", "firstNearSide", "(III)I"⟩
abbrev bN_firstNearPair : ByteArray := prog_1_method_31_code
abbrev yN_firstNearPair : MethodName := ⟨"NailRules", "firstNearPair", "(J)I"⟩
abbrev bN_squareBetween : ByteArray := prog_1_method_32_code
abbrev yN_squareBetween : MethodName := ⟨"NailRules", "squareBetween", "(II)J"⟩
abbrev bN_wordOf : ByteArray := prog_1_method_33_code
abbrev yN_wordOf : MethodName := ⟨"NailRules", "wordOf", "(I)Ljava/lang/String;"⟩
abbrev bT_init : ByteArray := prog_3_method_1_code
abbrev yT_init : MethodName := ⟨"NailRules$Text", "<init>", "()V"⟩
abbrev bT_append : ByteArray := prog_3_method_2_code
abbrev yT_append : MethodName := ⟨"NailRules$Text", "append", "(I)Z"⟩
abbrev bT_empty : ByteArray := prog_3_method_3_code
abbrev yT_empty : MethodName := ⟨"NailRules$Text", "empty", "()V"⟩
abbrev bT_rewind : ByteArray := prog_3_method_4_code
abbrev yT_rewind : MethodName := ⟨"NailRules$Text", "rewind", "()V"⟩
abbrev bT_ended : ByteArray := prog_3_method_5_code
abbrev yT_ended : MethodName := ⟨"NailRules$Text", "ended", "()Z"⟩
abbrev bT_fault : ByteArray := prog_3_method_6_code
abbrev yT_fault : MethodName := ⟨"NailRules$Text", "fault", "()I"⟩
abbrev bT_look : ByteArray := prog_3_method_7_code
abbrev yT_look : MethodName := ⟨"NailRules$Text", "look", "(I)I"⟩
abbrev bT_take : ByteArray := prog_3_method_8_code
abbrev yT_take : MethodName := ⟨"NailRules$Text", "take", "(C)Z"⟩
abbrev bT_takeKind : ByteArray := prog_3_method_9_code
abbrev yT_takeKind : MethodName := ⟨"NailRules$Text", "takeKind", "()I"⟩
abbrev bT_kindOf : ByteArray := prog_3_method_10_code
abbrev yT_kindOf : MethodName := ⟨"NailRules$Text", "kindOf", "(I)I"⟩
abbrev bT_takeWord : ByteArray := prog_3_method_11_code
abbrev yT_takeWord : MethodName := ⟨"NailRules$Text", "takeWord", "()I"⟩
abbrev bT_unitsAlike : ByteArray := prog_3_method_12_code
abbrev yT_unitsAlike : MethodName := ⟨"NailRules$Text", "unitsAlike", "(Ljava/lang/String;)I"⟩
abbrev bT_takeNumber : ByteArray := prog_3_method_13_code
abbrev yT_takeNumber : MethodName := ⟨"NailRules$Text", "takeNumber", "()I"⟩
abbrev bT_isDigit : ByteArray := prog_3_method_14_code
abbrev yT_isDigit : MethodName := ⟨"NailRules$Text", "isDigit", "(I)Z"⟩
abbrev bM_init : ByteArray := prog_2_method_1_code
abbrev yM_init : MethodName := ⟨"NailRules$Member", "<init>", "(IIIII)V"⟩
abbrev bM_grips : ByteArray := prog_2_method_2_code
abbrev yM_grips : MethodName := ⟨"NailRules$Member", "grips", "(II)Z"⟩
abbrev bR_init : ByteArray := prog_5_method_1_code
abbrev yR_init : MethodName := ⟨"NailRulesModel", "<init>", "()V"⟩
abbrev bR_isIn : ByteArray := prog_5_method_3_code
abbrev yR_isIn : MethodName := ⟨"NailRulesModel", "isIn", "(JJJ)Z"⟩
abbrev bR_isFour : ByteArray := prog_5_method_4_code
abbrev yR_isFour : MethodName := ⟨"NailRulesModel", "isFour", "(I)Z"⟩
abbrev bR_unit : ByteArray := prog_5_method_5_code
abbrev yR_unit : MethodName := ⟨"NailRulesModel", "unit", "(I)Z"⟩
abbrev bR_now : ByteArray := prog_5_method_6_code
abbrev yR_now : MethodName := ⟨"NailRulesModel", "now", "()I"⟩
abbrev bR_must : ByteArray := prog_5_method_7_code
abbrev yR_must : MethodName := ⟨"NailRulesModel", "must", "(Z)V"⟩
abbrev bR_kindOf : ByteArray := prog_5_method_8_code
abbrev yR_kindOf : MethodName := ⟨"NailRulesModel", "kindOf", "(I)I"⟩
abbrev bR_may : ByteArray := prog_5_method_9_code
abbrev yR_may : MethodName := ⟨"NailRulesModel", "may", "(III)Z"⟩
abbrev bR_whole : ByteArray := prog_5_method_10_code
abbrev yR_whole : MethodName := ⟨"NailRulesModel", "whole", "(I)I"⟩
abbrev bR_word : ByteArray := prog_5_method_11_code
abbrev yR_word : MethodName := ⟨"NailRulesModel", "word", "()I"⟩
abbrev bR_isDigit : ByteArray := prog_5_method_12_code
abbrev yR_isDigit : MethodName := ⟨"NailRulesModel", "isDigit", "()Z"⟩
abbrev bR_number : ByteArray := prog_5_method_13_code
abbrev yR_number : MethodName := ⟨"NailRulesModel", "number", "()I"⟩
abbrev bR_read : ByteArray := prog_5_method_14_code
abbrev yR_read : MethodName := ⟨"NailRulesModel", "read", "()I"⟩
abbrev bR_rule : ByteArray := prog_5_method_15_code
abbrev yR_rule : MethodName := ⟨"NailRulesModel", "rule", "(II)I"⟩
abbrev bR_set : ByteArray := prog_5_method_16_code
abbrev yR_set : MethodName := ⟨"NailRulesModel", "set", "(II)V"⟩
abbrev bR_formula : ByteArray := prog_5_method_17_code
abbrev yR_formula : MethodName := ⟨"NailRulesModel", "formula", "(IIJJ)J"⟩
abbrev bR_holds : ByteArray := prog_5_method_18_code
abbrev yR_holds : MethodName := ⟨"NailRulesModel", "holds", "(IIIII)J"⟩
abbrev bR_all : ByteArray := prog_5_method_19_code
abbrev yR_all : MethodName := ⟨"NailRulesModel", "all", "(JJ)J"⟩
abbrev bR_together : ByteArray := prog_5_method_20_code
abbrev yR_together : MethodName := ⟨"NailRulesModel", "together", "(IJ)J"⟩
abbrev bR_count : ByteArray := prog_5_method_21_code
abbrev yR_count : MethodName := ⟨"NailRulesModel", "count", "(JJ)I"⟩
abbrev bR_space : ByteArray := prog_5_method_22_code
abbrev yR_space : MethodName := ⟨"NailRulesModel", "space", "(II)J"⟩
abbrev bR_fits : ByteArray := prog_5_method_23_code
abbrev yR_fits : MethodName := ⟨"NailRulesModel", "fits", "(JJJ)J"⟩
abbrev bR_pattern : ByteArray := prog_5_method_24_code
abbrev yR_pattern : MethodName := ⟨"NailRulesModel", "pattern", "(IIII)Z"⟩
abbrev bR_at : ByteArray := prog_5_method_25_code
abbrev yR_at : MethodName := ⟨"NailRulesModel", "at", "(II)I"⟩
abbrev bR_place : ByteArray := prog_5_method_26_code
abbrev yR_place : MethodName := ⟨"NailRulesModel", "place", "(II)I"⟩
abbrev bR_clear : ByteArray := prog_5_method_27_code
abbrev yR_clear : MethodName := ⟨"NailRulesModel", "clear", "()V"⟩
abbrev bR_keeps : ByteArray := prog_5_method_28_code
abbrev yR_keeps : MethodName := ⟨"NailRulesModel", "keeps", "(III)I"⟩
abbrev bR_isPlace : ByteArray := prog_5_method_29_code
abbrev yR_isPlace : MethodName := ⟨"NailRulesModel", "isPlace", "(I)Z"⟩
abbrev bR_member : ByteArray := prog_5_method_30_code
abbrev yR_member : MethodName := ⟨"NailRulesModel", "member", "(IIIII)I"⟩
abbrev bR_isWithin : ByteArray := prog_5_method_31_code
abbrev yR_isWithin : MethodName := ⟨"NailRulesModel", "isWithin", "(IJJ)Z"⟩
abbrev bR_noMember : ByteArray := prog_5_method_32_code
abbrev yR_noMember : MethodName := ⟨"NailRulesModel", "noMember", "(I)Z"⟩
abbrev bR_in : ByteArray := prog_5_method_33_code
abbrev yR_in : MethodName := ⟨"NailRulesModel", "in", "(III)Z"⟩
abbrev bR_teeth : ByteArray := prog_5_method_34_code
abbrev yR_teeth : MethodName := ⟨"NailRulesModel", "teeth", "(IIIIII)I"⟩
abbrev bR_thick : ByteArray := prog_5_method_35_code
abbrev yR_thick : MethodName := ⟨"NailRulesModel", "thick", "(II)Z"⟩
abbrev bR_hole : ByteArray := prog_5_method_36_code
abbrev yR_hole : MethodName := ⟨"NailRulesModel", "hole", "(I)I"⟩
abbrev bL_rule : ByteArray := method_3_code
abbrev yL_rule : MethodName := ⟨"NailRulesLaw", "rule", "(LNailRules;II[J)I"⟩
abbrev bL_set : ByteArray := method_4_code
abbrev yL_set : MethodName := ⟨"NailRulesLaw", "set", "(LNailRules;II)I"⟩
abbrev bL_holds : ByteArray := method_5_code
abbrev yL_holds : MethodName := ⟨"NailRulesLaw", "holds", "(LNailRules;IIIII[J)I"⟩
abbrev bL_together : ByteArray := method_6_code
abbrev yL_together : MethodName := ⟨"NailRulesLaw", "together", "(LNailRules;IJ[J)I"⟩
abbrev bL_count : ByteArray := method_7_code
abbrev yL_count : MethodName := ⟨"NailRulesLaw", "count", "(LNailRules;JJ[J)I"⟩
abbrev bL_pattern : ByteArray := method_8_code
abbrev yL_pattern : MethodName := ⟨"NailRulesLaw", "pattern", "(LNailRules;IIII[J)I"⟩
abbrev bL_at : ByteArray := method_9_code
abbrev yL_at : MethodName := ⟨"NailRulesLaw", "at", "(LNailRules;II[J)I"⟩
abbrev bL_place : ByteArray := method_10_code
abbrev yL_place : MethodName := ⟨"NailRulesLaw", "place", "(LNailRules;II[J)I"⟩
abbrev bL_keeps : ByteArray := method_11_code
abbrev yL_keeps : MethodName := ⟨"NailRulesLaw", "keeps", "(LNailRules;III[J)I"⟩
abbrev bL_member : ByteArray := method_12_code
abbrev yL_member : MethodName := ⟨"NailRulesLaw", "member", "(LNailRules;IIIII[J)I"⟩
abbrev bL_in : ByteArray := method_13_code
abbrev yL_in : MethodName := ⟨"NailRulesLaw", "in", "(LNailRules;III[J)I"⟩
abbrev bL_teeth : ByteArray := method_14_code
abbrev yL_teeth : MethodName := ⟨"NailRulesLaw", "teeth", "(LNailRules;IIIIII[J)I"⟩
abbrev bL_thick : ByteArray := method_15_code
abbrev yL_thick : MethodName := ⟨"NailRulesLaw", "thick", "(LNailRules;II[J)I"⟩
abbrev bL_hole : ByteArray := method_16_code
abbrev yL_hole : MethodName := ⟨"NailRulesLaw", "hole", "(LNailRules;I[J)I"⟩
theorem xk_0 : Cond.selects "NailRules$Text" ⟨"NailRules$Text", "append", "(I)Z"⟩ ⟨"NailRules$Text", "append", "(I)Z"⟩ ∈ lw_gd := xb_mem 0 rfl rfl
theorem xk_1 : Cond.selects "NailRules" ⟨"NailRules", "readStatements", "()I"⟩ ⟨"NailRules", "readStatements", "()I"⟩ ∈ lw_gd := xb_mem 1 rfl rfl
theorem xk_2 : Cond.selects "NailRules$Text" ⟨"NailRules$Text", "rewind", "()V"⟩ ⟨"NailRules$Text", "rewind", "()V"⟩ ∈ lw_gd := xb_mem 2 rfl rfl
theorem xk_3 : Cond.selects "NailRules" ⟨"NailRules", "readStatement", "()Z"⟩ ⟨"NailRules", "readStatement", "()Z"⟩ ∈ lw_gd := xb_mem 3 rfl rfl
theorem xk_4 : Cond.selects "NailRules$Text" ⟨"NailRules$Text", "takeKind", "()I"⟩ ⟨"NailRules$Text", "takeKind", "()I"⟩ ∈ lw_gd := xb_mem 4 rfl rfl
theorem xk_5 : Cond.selects "NailRules$Text" ⟨"NailRules$Text", "look", "(I)I"⟩ ⟨"NailRules$Text", "look", "(I)I"⟩ ∈ lw_gd := xb_mem 5 rfl rfl
theorem xk_6 : Cond.selects "NailRules$Text" ⟨"NailRules$Text", "take", "(C)Z"⟩ ⟨"NailRules$Text", "take", "(C)Z"⟩ ∈ lw_gd := xb_mem 6 rfl rfl
theorem xk_7 : Cond.selects "NailRules$Text" ⟨"NailRules$Text", "takeWord", "()I"⟩ ⟨"NailRules$Text", "takeWord", "()I"⟩ ∈ lw_gd := xb_mem 7 rfl rfl
theorem xk_8 : Cond.selects "NailRules$Text" ⟨"NailRules$Text", "unitsAlike", "(Ljava/lang/String;)I"⟩ ⟨"NailRules$Text", "unitsAlike", "(Ljava/lang/String;)I"⟩ ∈ lw_gd := xb_mem 8 rfl rfl
theorem xk_9 : Cond.selects "NailRules$Text" ⟨"NailRules$Text", "takeNumber", "()I"⟩ ⟨"NailRules$Text", "takeNumber", "()I"⟩ ∈ lw_gd := xb_mem 9 rfl rfl
theorem xk_10 : Cond.selects "NailRules$Text" ⟨"NailRules$Text", "fault", "()I"⟩ ⟨"NailRules$Text", "fault", "()I"⟩ ∈ lw_gd := xb_mem 10 rfl rfl
theorem xk_11 : Cond.selects "NailRules$Text" ⟨"NailRules$Text", "ended", "()Z"⟩ ⟨"NailRules$Text", "ended", "()Z"⟩ ∈ lw_gd := xb_mem 11 rfl rfl
theorem xk_12 : Cond.selects "NailRules$Text" ⟨"NailRules$Text", "empty", "()V"⟩ ⟨"NailRules$Text", "empty", "()V"⟩ ∈ lw_gd := xb_mem 12 rfl rfl
theorem xk_13 : Cond.selects "java/lang/Throwable" ⟨"java/lang/Throwable", "fillInStackTrace", "(I)Ljava/lang/Throwable;"⟩ ⟨"java/lang/Throwable", "fillInStackTrace", "(I)Ljava/lang/Throwable;"⟩ ∈ lw_gd := xb_mem 13 rfl rfl
theorem xk_14 : Cond.selects "NailRules" ⟨"NailRules", "told", "(II)I"⟩ ⟨"NailRules", "told", "(II)I"⟩ ∈ lw_gd := xb_mem 14 rfl rfl
theorem xk_15 : Cond.selects "NailRules" ⟨"NailRules", "leastFormula", "(III)I"⟩ ⟨"NailRules", "leastFormula", "(III)I"⟩ ∈ lw_gd := xb_mem 15 rfl rfl
theorem xk_16 : Cond.selects "NailRules" ⟨"NailRules", "formula", "(IIII)J"⟩ ⟨"NailRules", "formula", "(IIII)J"⟩ ∈ lw_gd := xb_mem 16 rfl rfl
theorem xk_17 : Cond.selects "NailRules" ⟨"NailRules", "heldByRow", "(IJ)J"⟩ ⟨"NailRules", "heldByRow", "(IJ)J"⟩ ∈ lw_gd := xb_mem 17 rfl rfl
theorem xk_18 : Cond.selects "NailRules" ⟨"NailRules", "space", "(II)I"⟩ ⟨"NailRules", "space", "(II)I"⟩ ∈ lw_gd := xb_mem 18 rfl rfl
theorem xk_19 : Cond.selects "NailRules" ⟨"NailRules", "layOut", "(III)V"⟩ ⟨"NailRules", "layOut", "(III)V"⟩ ∈ lw_gd := xb_mem 19 rfl rfl
theorem xk_20 : Cond.selects "NailRules" ⟨"NailRules", "firstNearSide", "(III)I"⟩ ⟨"NailRules", "firstNearSide", "(III)I"⟩ ∈ lw_gd := xb_mem 20 rfl rfl
theorem xk_21 : Cond.selects "NailRules" ⟨"NailRules", "firstNearPair", "(J)I"⟩ ⟨"NailRules", "firstNearPair", "(J)I"⟩ ∈ lw_gd := xb_mem 21 rfl rfl
theorem xk_22 : Cond.selects "NailRules" ⟨"NailRules", "squareBetween", "(II)J"⟩ ⟨"NailRules", "squareBetween", "(II)J"⟩ ∈ lw_gd := xb_mem 22 rfl rfl
theorem xk_23 : Cond.selects "java/util/ArrayList" ⟨"java/util/ArrayList", "add", "(Ljava/lang/Object;[Ljava/lang/Object;I)V"⟩ ⟨"java/util/ArrayList", "add", "(Ljava/lang/Object;[Ljava/lang/Object;I)V"⟩ ∈ lw_gd := xb_mem 23 rfl rfl
theorem xk_24 : Cond.selects "java/util/ArrayList" ⟨"java/util/ArrayList", "grow", "()[Ljava/lang/Object;"⟩ ⟨"java/util/ArrayList", "grow", "()[Ljava/lang/Object;"⟩ ∈ lw_gd := xb_mem 24 rfl rfl
theorem xk_25 : Cond.selects "java/util/ArrayList" ⟨"java/util/ArrayList", "grow", "(I)[Ljava/lang/Object;"⟩ ⟨"java/util/ArrayList", "grow", "(I)[Ljava/lang/Object;"⟩ ∈ lw_gd := xb_mem 25 rfl rfl
theorem xk_26 : Cond.selects "NailRules$Member" ⟨"NailRules$Member", "grips", "(II)Z"⟩ ⟨"NailRules$Member", "grips", "(II)Z"⟩ ∈ lw_gd := xb_mem 26 rfl rfl
theorem xk_27 : Cond.selects "NailRulesModel" ⟨"NailRulesModel", "now", "()I"⟩ ⟨"NailRulesModel", "now", "()I"⟩ ∈ lw_gd := xb_mem 27 rfl rfl
theorem xk_28 : Cond.selects "NailRulesModel" ⟨"NailRulesModel", "must", "(Z)V"⟩ ⟨"NailRulesModel", "must", "(Z)V"⟩ ∈ lw_gd := xb_mem 28 rfl rfl
theorem xk_29 : Cond.selects "NailRulesModel" ⟨"NailRulesModel", "word", "()I"⟩ ⟨"NailRulesModel", "word", "()I"⟩ ∈ lw_gd := xb_mem 29 rfl rfl
theorem xk_30 : Cond.selects "NailRulesModel" ⟨"NailRulesModel", "whole", "(I)I"⟩ ⟨"NailRulesModel", "whole", "(I)I"⟩ ∈ lw_gd := xb_mem 30 rfl rfl
theorem xk_31 : Cond.selects "NailRulesModel" ⟨"NailRulesModel", "may", "(III)Z"⟩ ⟨"NailRulesModel", "may", "(III)Z"⟩ ∈ lw_gd := xb_mem 31 rfl rfl
theorem xk_32 : Cond.selects "NailRulesModel" ⟨"NailRulesModel", "number", "()I"⟩ ⟨"NailRulesModel", "number", "()I"⟩ ∈ lw_gd := xb_mem 32 rfl rfl
theorem xk_33 : Cond.selects "NailRulesModel" ⟨"NailRulesModel", "isDigit", "()Z"⟩ ⟨"NailRulesModel", "isDigit", "()Z"⟩ ∈ lw_gd := xb_mem 33 rfl rfl
theorem xk_34 : Cond.selects "NailRulesModel" ⟨"NailRulesModel", "formula", "(IIJJ)J"⟩ ⟨"NailRulesModel", "formula", "(IIJJ)J"⟩ ∈ lw_gd := xb_mem 34 rfl rfl
theorem xk_35 : Cond.selects "NailRulesModel" ⟨"NailRulesModel", "all", "(JJ)J"⟩ ⟨"NailRulesModel", "all", "(JJ)J"⟩ ∈ lw_gd := xb_mem 35 rfl rfl
theorem xk_36 : Cond.selects "NailRulesModel" ⟨"NailRulesModel", "space", "(II)J"⟩ ⟨"NailRulesModel", "space", "(II)J"⟩ ∈ lw_gd := xb_mem 36 rfl rfl
theorem xk_37 : Cond.selects "NailRulesModel" ⟨"NailRulesModel", "noMember", "(I)Z"⟩ ⟨"NailRulesModel", "noMember", "(I)Z"⟩ ∈ lw_gd := xb_mem 37 rfl rfl
theorem xk_38 : Cond.selects "NailRulesModel" ⟨"NailRulesModel", "isWithin", "(IJJ)Z"⟩ ⟨"NailRulesModel", "isWithin", "(IJJ)Z"⟩ ∈ lw_gd := xb_mem 38 rfl rfl
set_option maxRecDepth 100000 in
theorem xk_39 : (Jvm.Cond.initialized "NailRulesLaw") ∈ lw_gd := xb_mem 39 rfl rfl
set_option maxRecDepth 100000 in
theorem xk_40 : (Jvm.Cond.initialized "NailRules") ∈ lw_gd := xb_mem 40 rfl rfl
set_option maxRecDepth 100000 in
theorem xk_41 : (Jvm.Cond.initialized "NailRules$Text") ∈ lw_gd := xb_mem 41 rfl rfl
set_option maxRecDepth 100000 in
theorem xk_42 : (Jvm.Cond.initialized "java/util/AbstractCollection") ∈ lw_gd := xb_mem 42 rfl rfl
set_option maxRecDepth 100000 in
theorem xk_43 : (Jvm.Cond.initialized "java/util/AbstractList") ∈ lw_gd := xb_mem 43 rfl rfl
set_option maxRecDepth 100000 in
theorem xk_44 : (Jvm.Cond.initialized "java/util/ArrayList") ∈ lw_gd := xb_mem 44 rfl rfl
set_option maxRecDepth 100000 in
theorem xk_45 : (Jvm.Cond.initialized "NailRulesModel") ∈ lw_gd := xb_mem 45 rfl rfl
set_option maxRecDepth 100000 in
theorem xk_46 : (Jvm.Cond.initialized "java/lang/String") ∈ lw_gd := xb_mem 46 rfl rfl
set_option maxRecDepth 100000 in
theorem xk_47 : (Jvm.Cond.initialized "java/lang/StringLatin1") ∈ lw_gd := xb_mem 47 rfl rfl
set_option maxRecDepth 100000 in
theorem xk_48 : (Jvm.Cond.initialized "jdk/internal/util/Preconditions") ∈ lw_gd := xb_mem 48 rfl rfl
set_option maxRecDepth 100000 in
theorem xk_49 : (Jvm.Cond.initialized "java/lang/StringUTF16") ∈ lw_gd := xb_mem 49 rfl rfl
set_option maxRecDepth 100000 in
theorem xk_50 : (Jvm.Cond.initialized "java/lang/Math") ∈ lw_gd := xb_mem 50 rfl rfl
set_option maxRecDepth 100000 in
theorem xk_51 : (Jvm.Cond.initialized "java/lang/Throwable") ∈ lw_gd := xb_mem 51 rfl rfl
set_option maxRecDepth 100000 in
theorem xk_52 : (Jvm.Cond.initialized "java/lang/Exception") ∈ lw_gd := xb_mem 52 rfl rfl
set_option maxRecDepth 100000 in
theorem xk_53 : (Jvm.Cond.initialized "java/lang/RuntimeException") ∈ lw_gd := xb_mem 53 rfl rfl
set_option maxRecDepth 100000 in
theorem xk_54 : (Jvm.Cond.initialized "java/lang/IndexOutOfBoundsException") ∈ lw_gd := xb_mem 54 rfl rfl
set_option maxRecDepth 100000 in
theorem xk_55 : (Jvm.Cond.initialized "java/lang/IllegalArgumentException") ∈ lw_gd := xb_mem 55 rfl rfl
set_option maxRecDepth 100000 in
theorem xk_56 : (Jvm.Cond.initialized "java/lang/IllegalStateException") ∈ lw_gd := xb_mem 56 rfl rfl
set_option maxRecDepth 100000 in
theorem xk_57 : (Jvm.Cond.initialized "NailRules$Member") ∈ lw_gd := xb_mem 57 rfl rfl
set_option maxRecDepth 100000 in
theorem xk_58 : (Jvm.Cond.initialized "jdk/internal/util/ArraysSupport") ∈ lw_gd := xb_mem 58 rfl rfl
set_option maxRecDepth 100000 in
theorem xk_59 : (Jvm.Cond.initialized "java/util/Arrays") ∈ lw_gd := xb_mem 59 rfl rfl
set_option maxRecDepth 100000 in
theorem xk_60 : (Jvm.Cond.initialized "java/lang/System") ∈ lw_gd := xb_mem 60 rfl rfl
set_option maxRecDepth 100000 in
theorem xk_61 : (Jvm.Cond.initialized "java/util/Objects") ∈ lw_gd := xb_mem 61 rfl rfl
set_option maxRecDepth 100000 in
theorem xk_62 : (Jvm.Cond.classLink "NailRulesLaw" (8 : Nat) "NailRules") ∈ lw_gd := xb_mem 62 rfl rfl
set_option maxRecDepth 100000 in
theorem xk_63 : (Jvm.Cond.instantiable "NailRules" (11 : Nat)) ∈ lw_gd := xb_mem 63 rfl rfl
set_option maxRecDepth 100000 in
theorem xk_64 : (Jvm.Cond.methodLink "NailRulesLaw" (69 : Nat) ({ cls := "NailRules", name := "<init>", desc := "()V" } : Jvm.MethodName)) ∈ lw_gd := xb_mem 64 rfl rfl
set_option maxRecDepth 100000 in
theorem xk_65 : (Jvm.Cond.instanceMethod ({ cls := "NailRules", name := "<init>", desc := "()V" } : Jvm.MethodName)) ∈ lw_gd := xb_mem 65 rfl rfl
set_option maxRecDepth 100000 in
theorem xk_66 : (Jvm.Cond.code ({ cls := "NailRules", name := "<init>", desc := "()V" } : Jvm.MethodName) prog_1_method_1_code (2 : Nat) (Option.none : Option Jvm.ClassFile.FieldType)) ∈ lw_gd := xb_mem 66 rfl rfl
set_option maxRecDepth 100000 in
theorem xk_67 : (Jvm.Cond.methodLink "NailRules" (1 : Nat) ({ cls := "java/lang/Object", name := "<init>", desc := "()V" } : Jvm.MethodName)) ∈ lw_gd := xb_mem 67 rfl rfl
set_option maxRecDepth 100000 in
theorem xk_68 : (Jvm.Cond.instanceMethod ({ cls := "java/lang/Object", name := "<init>", desc := "()V" } : Jvm.MethodName)) ∈ lw_gd := xb_mem 68 rfl rfl
set_option maxRecDepth 100000 in
theorem xk_69 : (Jvm.Cond.code ({ cls := "java/lang/Object", name := "<init>", desc := "()V" } : Jvm.MethodName) object_method_1_code (1 : Nat) (Option.none : Option Jvm.ClassFile.FieldType)) ∈ lw_gd := xb_mem 69 rfl rfl
set_option maxRecDepth 100000 in
theorem xk_70 : (Jvm.Cond.classLink "NailRules" (7 : Nat) "NailRules$Text") ∈ lw_gd := xb_mem 70 rfl rfl
set_option maxRecDepth 100000 in
theorem xk_71 : (Jvm.Cond.instantiable "NailRules$Text" (3 : Nat)) ∈ lw_gd := xb_mem 71 rfl rfl
set_option maxRecDepth 100000 in
theorem xk_72 : (Jvm.Cond.methodLinkNest "NailRules" (9 : Nat) ({ cls := "NailRules$Text", name := "<init>", desc := "()V" } : Jvm.MethodName) "NailRules") ∈ lw_tbl := List.mem_of_getElem? (i := 72) rfl
set_option maxRecDepth 100000 in
theorem xk_73 : (Jvm.Cond.instanceMethod ({ cls := "NailRules$Text", name := "<init>", desc := "()V" } : Jvm.MethodName)) ∈ lw_gd := xb_mem 73 rfl rfl
set_option maxRecDepth 100000 in
theorem xk_74 : (Jvm.Cond.code ({ cls := "NailRules$Text", name := "<init>", desc := "()V" } : Jvm.MethodName) prog_3_method_1_code (1 : Nat) (Option.none : Option Jvm.ClassFile.FieldType)) ∈ lw_gd := xb_mem 74 rfl rfl
set_option maxRecDepth 100000 in
theorem xk_75 : (Jvm.Cond.methodLink "NailRules$Text" (3 : Nat) ({ cls := "java/lang/Object", name := "<init>", desc := "()V" } : Jvm.MethodName)) ∈ lw_gd := xb_mem 75 rfl rfl
set_option maxRecDepth 100000 in
theorem xk_76 : (Jvm.Cond.fieldLink "NailRules$Text" (11 : Nat) "NailRules$Text" "units" "[C") ∈ lw_gd := xb_mem 76 rfl rfl
set_option maxRecDepth 100000 in
theorem xk_77 : (Jvm.Cond.fieldLink "NailRules$Text" (15 : Nat) "NailRules$Text" "length" "I") ∈ lw_gd := xb_mem 77 rfl rfl
set_option maxRecDepth 100000 in
theorem xk_78 : (Jvm.Cond.fieldLink "NailRules$Text" (19 : Nat) "NailRules$Text" "next" "I") ∈ lw_gd := xb_mem 78 rfl rfl
set_option maxRecDepth 100000 in
theorem xk_79 : (Jvm.Cond.laysFinal "NailRules$Text" "NailRules$Text" "units" "[C") ∈ lw_gd := xb_mem 79 rfl rfl
set_option maxRecDepth 100000 in
theorem xk_80 : (Jvm.Cond.soleField "NailRules$Text" "units") ∈ lw_gd := xb_mem 80 rfl rfl
set_option maxRecDepth 100000 in
theorem xk_81 : (Jvm.Cond.lays "NailRules$Text" "NailRules$Text" "length" "I") ∈ lw_gd := xb_mem 81 rfl rfl
set_option maxRecDepth 100000 in
theorem xk_82 : (Jvm.Cond.soleField "NailRules$Text" "length") ∈ lw_gd := xb_mem 82 rfl rfl
set_option maxRecDepth 100000 in
theorem xk_83 : (Jvm.Cond.lays "NailRules$Text" "NailRules$Text" "next" "I") ∈ lw_gd := xb_mem 83 rfl rfl
set_option maxRecDepth 100000 in
theorem xk_84 : (Jvm.Cond.soleField "NailRules$Text" "next") ∈ lw_gd := xb_mem 84 rfl rfl
set_option maxRecDepth 100000 in
theorem xk_85 : (Jvm.Cond.superclass "NailRules$Text" "java/lang/Object") ∈ lw_gd := xb_mem 85 rfl rfl
set_option maxRecDepth 100000 in
theorem xk_86 : (Jvm.Cond.arrayClass Jvm.ClassFile.FieldType.char) ∈ lw_gd := xb_mem 86 rfl rfl
set_option maxRecDepth 100000 in
theorem xk_87 : (Jvm.Cond.classLink "NailRules" (45 : Nat) "java/util/ArrayList") ∈ lw_gd := xb_mem 87 rfl rfl
set_option maxRecDepth 100000 in
theorem xk_88 : (Jvm.Cond.instantiable "java/util/ArrayList" (3 : Nat)) ∈ lw_gd := xb_mem 88 rfl rfl
set_option maxRecDepth 100000 in
theorem xk_89 : (Jvm.Cond.methodLink "NailRules" (47 : Nat) ({ cls := "java/util/ArrayList", name := "<init>", desc := "()V" } : Jvm.MethodName)) ∈ lw_gd := xb_mem 89 rfl rfl
set_option maxRecDepth 100000 in
theorem xk_90 : (Jvm.Cond.instanceMethod ({ cls := "java/util/ArrayList", name := "<init>", desc := "()V" } : Jvm.MethodName)) ∈ lw_gd := xb_mem 90 rfl rfl
set_option maxRecDepth 100000 in
theorem xk_91 : (Jvm.Cond.code ({ cls := "java/util/ArrayList", name := "<init>", desc := "()V" } : Jvm.MethodName) prog_22_method_2_code (1 : Nat) (Option.none : Option Jvm.ClassFile.FieldType)) ∈ lw_gd := xb_mem 91 rfl rfl
set_option maxRecDepth 100000 in
theorem xk_92 : (Jvm.Cond.methodLink "java/util/ArrayList" (1 : Nat) ({ cls := "java/util/AbstractList", name := "<init>", desc := "()V" } : Jvm.MethodName)) ∈ lw_gd := xb_mem 92 rfl rfl
set_option maxRecDepth 100000 in
theorem xk_93 : (Jvm.Cond.instanceMethod ({ cls := "java/util/AbstractList", name := "<init>", desc := "()V" } : Jvm.MethodName)) ∈ lw_gd := xb_mem 93 rfl rfl
set_option maxRecDepth 100000 in
theorem xk_94 : (Jvm.Cond.code ({ cls := "java/util/AbstractList", name := "<init>", desc := "()V" } : Jvm.MethodName) prog_21_method_1_code (1 : Nat) (Option.none : Option Jvm.ClassFile.FieldType)) ∈ lw_gd := xb_mem 94 rfl rfl
set_option maxRecDepth 100000 in
theorem xk_95 : (Jvm.Cond.methodLink "java/util/AbstractList" (1 : Nat) ({ cls := "java/util/AbstractCollection", name := "<init>", desc := "()V" } : Jvm.MethodName)) ∈ lw_gd := xb_mem 95 rfl rfl
set_option maxRecDepth 100000 in
theorem xk_96 : (Jvm.Cond.instanceMethod ({ cls := "java/util/AbstractCollection", name := "<init>", desc := "()V" } : Jvm.MethodName)) ∈ lw_gd := xb_mem 96 rfl rfl
set_option maxRecDepth 100000 in
theorem xk_97 : (Jvm.Cond.code ({ cls := "java/util/AbstractCollection", name := "<init>", desc := "()V" } : Jvm.MethodName) prog_20_method_1_code (1 : Nat) (Option.none : Option Jvm.ClassFile.FieldType)) ∈ lw_gd := xb_mem 97 rfl rfl
set_option maxRecDepth 100000 in
theorem xk_98 : (Jvm.Cond.methodLink "java/util/AbstractCollection" (1 : Nat) ({ cls := "java/lang/Object", name := "<init>", desc := "()V" } : Jvm.MethodName)) ∈ lw_gd := xb_mem 98 rfl rfl
set_option maxRecDepth 100000 in
theorem xk_99 : (Jvm.Cond.fieldLink "java/util/ArrayList" (39 : Nat) "java/util/ArrayList" "DEFAULTCAPACITY_EMPTY_ELEMENTDATA" "[Ljava/lang/Object;") ∈ lw_gd := xb_mem 99 rfl rfl
set_option maxRecDepth 100000 in
theorem xk_100 : (Jvm.Cond.laysStatic "java/util/ArrayList" "DEFAULTCAPACITY_EMPTY_ELEMENTDATA" "[Ljava/lang/Object;") ∈ lw_tbl := List.mem_of_getElem? (i := 100) rfl
set_option maxRecDepth 100000 in
theorem xk_101 : (Jvm.Cond.fieldLink "java/util/ArrayList" (9 : Nat) "java/util/ArrayList" "elementData" "[Ljava/lang/Object;") ∈ lw_gd := xb_mem 101 rfl rfl
set_option maxRecDepth 100000 in
theorem xk_102 : (Jvm.Cond.fieldLink "java/util/ArrayList" (48 : Nat) "java/util/ArrayList" "size" "I") ∈ lw_gd := xb_mem 102 rfl rfl
set_option maxRecDepth 100000 in
theorem xk_103 : (Jvm.Cond.fieldLink "java/util/AbstractList" (7 : Nat) "java/util/AbstractList" "modCount" "I") ∈ lw_gd := xb_mem 103 rfl rfl
set_option maxRecDepth 100000 in
theorem xk_104 : (Jvm.Cond.fieldLink "java/util/ArrayList" (63 : Nat) "java/util/ArrayList" "modCount" "I") ∈ lw_gd := xb_mem 104 rfl rfl
set_option maxRecDepth 100000 in
theorem xk_105 : (Jvm.Cond.sameField "java/util/ArrayList" "java/util/AbstractList" "modCount" "I") ∈ lw_gd := xb_mem 105 rfl rfl
set_option maxRecDepth 100000 in
theorem xk_106 : (Jvm.Cond.lays "java/util/ArrayList" "java/util/ArrayList" "elementData" "[Ljava/lang/Object;") ∈ lw_gd := xb_mem 106 rfl rfl
set_option maxRecDepth 100000 in
theorem xk_107 : (Jvm.Cond.soleField "java/util/ArrayList" "elementData") ∈ lw_gd := xb_mem 107 rfl rfl
set_option maxRecDepth 100000 in
theorem xk_108 : (Jvm.Cond.lays "java/util/ArrayList" "java/util/ArrayList" "size" "I") ∈ lw_gd := xb_mem 108 rfl rfl
set_option maxRecDepth 100000 in
theorem xk_109 : (Jvm.Cond.soleField "java/util/ArrayList" "size") ∈ lw_gd := xb_mem 109 rfl rfl
set_option maxRecDepth 100000 in
theorem xk_110 : (Jvm.Cond.lays "java/util/ArrayList" "java/util/AbstractList" "modCount" "I") ∈ lw_gd := xb_mem 110 rfl rfl
set_option maxRecDepth 100000 in
theorem xk_111 : (Jvm.Cond.soleField "java/util/AbstractList" "modCount") ∈ lw_gd := xb_mem 111 rfl rfl
set_option maxRecDepth 100000 in
theorem xk_112 : (Jvm.Cond.superclass "java/util/ArrayList" "java/util/AbstractList") ∈ lw_gd := xb_mem 112 rfl rfl
set_option maxRecDepth 100000 in
theorem xk_113 : (Jvm.Cond.arrayClass Jvm.ClassFile.FieldType.int) ∈ lw_gd := xb_mem 113 rfl rfl
set_option maxRecDepth 100000 in
theorem xk_114 : (Jvm.Cond.fieldLink "NailRules" (10 : Nat) "NailRules" "text" "LNailRules$Text;") ∈ lw_gd := xb_mem 114 rfl rfl
set_option maxRecDepth 100000 in
theorem xk_115 : (Jvm.Cond.fieldLink "NailRules" (16 : Nat) "NailRules" "rules" "[I") ∈ lw_gd := xb_mem 115 rfl rfl
set_option maxRecDepth 100000 in
theorem xk_116 : (Jvm.Cond.fieldLink "NailRules" (20 : Nat) "NailRules" "wet" "I") ∈ lw_gd := xb_mem 116 rfl rfl
set_option maxRecDepth 100000 in
theorem xk_117 : (Jvm.Cond.fieldLink "NailRules" (24 : Nat) "NailRules" "less" "I") ∈ lw_gd := xb_mem 117 rfl rfl
set_option maxRecDepth 100000 in
theorem xk_118 : (Jvm.Cond.fieldLink "NailRules" (27 : Nat) "NailRules" "patternX" "[I") ∈ lw_gd := xb_mem 118 rfl rfl
set_option maxRecDepth 100000 in
theorem xk_119 : (Jvm.Cond.fieldLink "NailRules" (30 : Nat) "NailRules" "patternY" "[I") ∈ lw_gd := xb_mem 119 rfl rfl
set_option maxRecDepth 100000 in
theorem xk_120 : (Jvm.Cond.fieldLink "NailRules" (33 : Nat) "NailRules" "patternCount" "I") ∈ lw_gd := xb_mem 120 rfl rfl
set_option maxRecDepth 100000 in
theorem xk_121 : (Jvm.Cond.fieldLink "NailRules" (36 : Nat) "NailRules" "placeX" "[I") ∈ lw_gd := xb_mem 121 rfl rfl
set_option maxRecDepth 100000 in
theorem xk_122 : (Jvm.Cond.fieldLink "NailRules" (39 : Nat) "NailRules" "placeY" "[I") ∈ lw_gd := xb_mem 122 rfl rfl
set_option maxRecDepth 100000 in
theorem xk_123 : (Jvm.Cond.fieldLink "NailRules" (42 : Nat) "NailRules" "placeCount" "I") ∈ lw_gd := xb_mem 123 rfl rfl
set_option maxRecDepth 100000 in
theorem xk_124 : (Jvm.Cond.fieldLink "NailRules" (48 : Nat) "NailRules" "members" "Ljava/util/ArrayList;") ∈ lw_gd := xb_mem 124 rfl rfl
set_option maxRecDepth 100000 in
theorem xk_125 : (Jvm.Cond.laysFinal "NailRules" "NailRules" "text" "LNailRules$Text;") ∈ lw_gd := xb_mem 125 rfl rfl
set_option maxRecDepth 100000 in
theorem xk_126 : (Jvm.Cond.soleField "NailRules" "text") ∈ lw_gd := xb_mem 126 rfl rfl
set_option maxRecDepth 100000 in
theorem xk_127 : (Jvm.Cond.laysFinal "NailRules" "NailRules" "rules" "[I") ∈ lw_gd := xb_mem 127 rfl rfl
set_option maxRecDepth 100000 in
theorem xk_128 : (Jvm.Cond.soleField "NailRules" "rules") ∈ lw_gd := xb_mem 128 rfl rfl
set_option maxRecDepth 100000 in
theorem xk_129 : (Jvm.Cond.lays "NailRules" "NailRules" "wet" "I") ∈ lw_gd := xb_mem 129 rfl rfl
set_option maxRecDepth 100000 in
theorem xk_130 : (Jvm.Cond.soleField "NailRules" "wet") ∈ lw_gd := xb_mem 130 rfl rfl
set_option maxRecDepth 100000 in
theorem xk_131 : (Jvm.Cond.lays "NailRules" "NailRules" "less" "I") ∈ lw_gd := xb_mem 131 rfl rfl
set_option maxRecDepth 100000 in
theorem xk_132 : (Jvm.Cond.soleField "NailRules" "less") ∈ lw_gd := xb_mem 132 rfl rfl
set_option maxRecDepth 100000 in
theorem xk_133 : (Jvm.Cond.laysFinal "NailRules" "NailRules" "patternX" "[I") ∈ lw_gd := xb_mem 133 rfl rfl
set_option maxRecDepth 100000 in
theorem xk_134 : (Jvm.Cond.soleField "NailRules" "patternX") ∈ lw_gd := xb_mem 134 rfl rfl
set_option maxRecDepth 100000 in
theorem xk_135 : (Jvm.Cond.laysFinal "NailRules" "NailRules" "patternY" "[I") ∈ lw_gd := xb_mem 135 rfl rfl
set_option maxRecDepth 100000 in
theorem xk_136 : (Jvm.Cond.soleField "NailRules" "patternY") ∈ lw_gd := xb_mem 136 rfl rfl
set_option maxRecDepth 100000 in
theorem xk_137 : (Jvm.Cond.lays "NailRules" "NailRules" "patternCount" "I") ∈ lw_gd := xb_mem 137 rfl rfl
set_option maxRecDepth 100000 in
theorem xk_138 : (Jvm.Cond.soleField "NailRules" "patternCount") ∈ lw_gd := xb_mem 138 rfl rfl
set_option maxRecDepth 100000 in
theorem xk_139 : (Jvm.Cond.laysFinal "NailRules" "NailRules" "placeX" "[I") ∈ lw_gd := xb_mem 139 rfl rfl
set_option maxRecDepth 100000 in
theorem xk_140 : (Jvm.Cond.soleField "NailRules" "placeX") ∈ lw_gd := xb_mem 140 rfl rfl
set_option maxRecDepth 100000 in
theorem xk_141 : (Jvm.Cond.laysFinal "NailRules" "NailRules" "placeY" "[I") ∈ lw_gd := xb_mem 141 rfl rfl
set_option maxRecDepth 100000 in
theorem xk_142 : (Jvm.Cond.soleField "NailRules" "placeY") ∈ lw_gd := xb_mem 142 rfl rfl
set_option maxRecDepth 100000 in
theorem xk_143 : (Jvm.Cond.lays "NailRules" "NailRules" "placeCount" "I") ∈ lw_gd := xb_mem 143 rfl rfl
set_option maxRecDepth 100000 in
theorem xk_144 : (Jvm.Cond.soleField "NailRules" "placeCount") ∈ lw_gd := xb_mem 144 rfl rfl
set_option maxRecDepth 100000 in
theorem xk_145 : (Jvm.Cond.laysFinal "NailRules" "NailRules" "members" "Ljava/util/ArrayList;") ∈ lw_gd := xb_mem 145 rfl rfl
set_option maxRecDepth 100000 in
theorem xk_146 : (Jvm.Cond.soleField "NailRules" "members") ∈ lw_gd := xb_mem 146 rfl rfl
set_option maxRecDepth 100000 in
theorem xk_147 : (Jvm.Cond.superclass "NailRules" "java/lang/Object") ∈ lw_gd := xb_mem 147 rfl rfl
set_option maxRecDepth 100000 in
theorem xk_148 : (Jvm.Cond.methodLink "NailRulesLaw" (73 : Nat) ({ cls := "NailRules", name := "unit", desc := "(I)Z" } : Jvm.MethodName)) ∈ lw_gd := xb_mem 148 rfl rfl
set_option maxRecDepth 100000 in
theorem xk_149 : (Jvm.Cond.instanceMethod ({ cls := "NailRules", name := "unit", desc := "(I)Z" } : Jvm.MethodName)) ∈ lw_gd := xb_mem 149 rfl rfl
set_option maxRecDepth 100000 in
theorem xk_150 : (Jvm.Cond.selects "NailRules" ({ cls := "NailRules", name := "unit", desc := "(I)Z" } : Jvm.MethodName) ({ cls := "NailRules", name := "unit", desc := "(I)Z" } : Jvm.MethodName)) ∈ lw_gd := xb_mem 150 rfl rfl
set_option maxRecDepth 100000 in
theorem xk_151 : (Jvm.Cond.code ({ cls := "NailRules", name := "unit", desc := "(I)Z" } : Jvm.MethodName) prog_1_method_2_code (2 : Nat) (Option.some Jvm.ClassFile.FieldType.boolean)) ∈ lw_gd := xb_mem 151 rfl rfl
set_option maxRecDepth 100000 in
theorem xk_152 : (Jvm.Cond.methodLinkNest "NailRules" (52 : Nat) ({ cls := "NailRules$Text", name := "append", desc := "(I)Z" } : Jvm.MethodName) "NailRules") ∈ lw_tbl := List.mem_of_getElem? (i := 152) rfl
set_option maxRecDepth 100000 in
theorem xk_153 : (Jvm.Cond.privateMethod ({ cls := "NailRules$Text", name := "append", desc := "(I)Z" } : Jvm.MethodName)) ∈ lw_tbl := List.mem_of_getElem? (i := 153) rfl
set_option maxRecDepth 100000 in
theorem xk_154 : (Jvm.Cond.instanceMethod ({ cls := "NailRules$Text", name := "append", desc := "(I)Z" } : Jvm.MethodName)) ∈ lw_gd := xb_mem 154 rfl rfl
set_option maxRecDepth 100000 in
theorem xk_155 : (Jvm.Cond.code ({ cls := "NailRules$Text", name := "append", desc := "(I)Z" } : Jvm.MethodName) prog_3_method_2_code (2 : Nat) (Option.some Jvm.ClassFile.FieldType.boolean)) ∈ lw_gd := xb_mem 155 rfl rfl
set_option maxRecDepth 100000 in
theorem xk_156 : (Jvm.Cond.methodLink "NailRulesLaw" (78 : Nat) ({ cls := "NailRules", name := "read", desc := "()I" } : Jvm.MethodName)) ∈ lw_gd := xb_mem 156 rfl rfl
set_option maxRecDepth 100000 in
theorem xk_157 : (Jvm.Cond.instanceMethod ({ cls := "NailRules", name := "read", desc := "()I" } : Jvm.MethodName)) ∈ lw_gd := xb_mem 157 rfl rfl
set_option maxRecDepth 100000 in
theorem xk_158 : (Jvm.Cond.selects "NailRules" ({ cls := "NailRules", name := "read", desc := "()I" } : Jvm.MethodName) ({ cls := "NailRules", name := "read", desc := "()I" } : Jvm.MethodName)) ∈ lw_gd := xb_mem 158 rfl rfl
set_option maxRecDepth 100000 in
theorem xk_159 : (Jvm.Cond.code ({ cls := "NailRules", name := "read", desc := "()I" } : Jvm.MethodName) prog_1_method_3_code (2 : Nat) (Option.some Jvm.ClassFile.FieldType.int)) ∈ lw_gd := xb_mem 159 rfl rfl
set_option maxRecDepth 100000 in
theorem xk_160 : (Jvm.Cond.methodLink "NailRules" (56 : Nat) ({ cls := "NailRules", name := "readStatements", desc := "()I" } : Jvm.MethodName)) ∈ lw_gd := xb_mem 160 rfl rfl
set_option maxRecDepth 100000 in
theorem xk_161 : (Jvm.Cond.privateMethod ({ cls := "NailRules", name := "readStatements", desc := "()I" } : Jvm.MethodName)) ∈ lw_tbl := List.mem_of_getElem? (i := 161) rfl
set_option maxRecDepth 100000 in
theorem xk_162 : (Jvm.Cond.instanceMethod ({ cls := "NailRules", name := "readStatements", desc := "()I" } : Jvm.MethodName)) ∈ lw_gd := xb_mem 162 rfl rfl
set_option maxRecDepth 100000 in
theorem xk_163 : (Jvm.Cond.code ({ cls := "NailRules", name := "readStatements", desc := "()I" } : Jvm.MethodName) prog_1_method_23_code (2 : Nat) (Option.some Jvm.ClassFile.FieldType.int)) ∈ lw_gd := xb_mem 163 rfl rfl
set_option maxRecDepth 100000 in
theorem xk_164 : (Jvm.Cond.methodLinkNest "NailRules" (167 : Nat) ({ cls := "NailRules$Text", name := "rewind", desc := "()V" } : Jvm.MethodName) "NailRules") ∈ lw_tbl := List.mem_of_getElem? (i := 164) rfl
set_option maxRecDepth 100000 in
theorem xk_165 : (Jvm.Cond.privateMethod ({ cls := "NailRules$Text", name := "rewind", desc := "()V" } : Jvm.MethodName)) ∈ lw_tbl := List.mem_of_getElem? (i := 165) rfl
set_option maxRecDepth 100000 in
theorem xk_166 : (Jvm.Cond.instanceMethod ({ cls := "NailRules$Text", name := "rewind", desc := "()V" } : Jvm.MethodName)) ∈ lw_gd := xb_mem 166 rfl rfl
set_option maxRecDepth 100000 in
theorem xk_167 : (Jvm.Cond.code ({ cls := "NailRules$Text", name := "rewind", desc := "()V" } : Jvm.MethodName) prog_3_method_4_code (1 : Nat) (Option.none : Option Jvm.ClassFile.FieldType)) ∈ lw_gd := xb_mem 167 rfl rfl
set_option maxRecDepth 100000 in
theorem xk_168 : (Jvm.Cond.methodLink "NailRules" (170 : Nat) ({ cls := "NailRules", name := "readStatement", desc := "()Z" } : Jvm.MethodName)) ∈ lw_gd := xb_mem 168 rfl rfl
set_option maxRecDepth 100000 in
theorem xk_169 : (Jvm.Cond.privateMethod ({ cls := "NailRules", name := "readStatement", desc := "()Z" } : Jvm.MethodName)) ∈ lw_tbl := List.mem_of_getElem? (i := 169) rfl
set_option maxRecDepth 100000 in
theorem xk_170 : (Jvm.Cond.instanceMethod ({ cls := "NailRules", name := "readStatement", desc := "()Z" } : Jvm.MethodName)) ∈ lw_gd := xb_mem 170 rfl rfl
set_option maxRecDepth 100000 in
theorem xk_171 : (Jvm.Cond.code ({ cls := "NailRules", name := "readStatement", desc := "()Z" } : Jvm.MethodName) prog_1_method_24_code (4 : Nat) (Option.some Jvm.ClassFile.FieldType.boolean)) ∈ lw_gd := xb_mem 171 rfl rfl
set_option maxRecDepth 100000 in
theorem xk_172 : (Jvm.Cond.methodLinkNest "NailRules" (184 : Nat) ({ cls := "NailRules$Text", name := "takeKind", desc := "()I" } : Jvm.MethodName) "NailRules") ∈ lw_tbl := List.mem_of_getElem? (i := 172) rfl
set_option maxRecDepth 100000 in
theorem xk_173 : (Jvm.Cond.privateMethod ({ cls := "NailRules$Text", name := "takeKind", desc := "()I" } : Jvm.MethodName)) ∈ lw_tbl := List.mem_of_getElem? (i := 173) rfl
set_option maxRecDepth 100000 in
theorem xk_174 : (Jvm.Cond.instanceMethod ({ cls := "NailRules$Text", name := "takeKind", desc := "()I" } : Jvm.MethodName)) ∈ lw_gd := xb_mem 174 rfl rfl
set_option maxRecDepth 100000 in
theorem xk_175 : (Jvm.Cond.code ({ cls := "NailRules$Text", name := "takeKind", desc := "()I" } : Jvm.MethodName) prog_3_method_9_code (2 : Nat) (Option.some Jvm.ClassFile.FieldType.int)) ∈ lw_gd := xb_mem 175 rfl rfl
set_option maxRecDepth 100000 in
theorem xk_176 : (Jvm.Cond.methodLink "NailRules$Text" (22 : Nat) ({ cls := "NailRules$Text", name := "look", desc := "(I)I" } : Jvm.MethodName)) ∈ lw_gd := xb_mem 176 rfl rfl
set_option maxRecDepth 100000 in
theorem xk_177 : (Jvm.Cond.privateMethod ({ cls := "NailRules$Text", name := "look", desc := "(I)I" } : Jvm.MethodName)) ∈ lw_tbl := List.mem_of_getElem? (i := 177) rfl
set_option maxRecDepth 100000 in
theorem xk_178 : (Jvm.Cond.instanceMethod ({ cls := "NailRules$Text", name := "look", desc := "(I)I" } : Jvm.MethodName)) ∈ lw_gd := xb_mem 178 rfl rfl
set_option maxRecDepth 100000 in
theorem xk_179 : (Jvm.Cond.code ({ cls := "NailRules$Text", name := "look", desc := "(I)I" } : Jvm.MethodName) prog_3_method_7_code (2 : Nat) (Option.some Jvm.ClassFile.FieldType.int)) ∈ lw_gd := xb_mem 179 rfl rfl
set_option maxRecDepth 100000 in
theorem xk_180 : (Jvm.Cond.methodLink "NailRules$Text" (26 : Nat) ({ cls := "NailRules$Text", name := "kindOf", desc := "(I)I" } : Jvm.MethodName)) ∈ lw_gd := xb_mem 180 rfl rfl
set_option maxRecDepth 100000 in
theorem xk_181 : (Jvm.Cond.static ({ cls := "NailRules$Text", name := "kindOf", desc := "(I)I" } : Jvm.MethodName)) ∈ lw_gd := xb_mem 181 rfl rfl
set_option maxRecDepth 100000 in
theorem xk_182 : (Jvm.Cond.code ({ cls := "NailRules$Text", name := "kindOf", desc := "(I)I" } : Jvm.MethodName) prog_3_method_10_code (1 : Nat) (Option.some Jvm.ClassFile.FieldType.int)) ∈ lw_gd := xb_mem 182 rfl rfl
set_option maxRecDepth 100000 in
theorem xk_183 : (Jvm.Cond.methodLinkNest "NailRules" (180 : Nat) ({ cls := "NailRules$Text", name := "take", desc := "(C)Z" } : Jvm.MethodName) "NailRules") ∈ lw_tbl := List.mem_of_getElem? (i := 183) rfl
set_option maxRecDepth 100000 in
theorem xk_184 : (Jvm.Cond.privateMethod ({ cls := "NailRules$Text", name := "take", desc := "(C)Z" } : Jvm.MethodName)) ∈ lw_tbl := List.mem_of_getElem? (i := 184) rfl
set_option maxRecDepth 100000 in
theorem xk_185 : (Jvm.Cond.instanceMethod ({ cls := "NailRules$Text", name := "take", desc := "(C)Z" } : Jvm.MethodName)) ∈ lw_gd := xb_mem 185 rfl rfl
set_option maxRecDepth 100000 in
theorem xk_186 : (Jvm.Cond.code ({ cls := "NailRules$Text", name := "take", desc := "(C)Z" } : Jvm.MethodName) prog_3_method_8_code (2 : Nat) (Option.some Jvm.ClassFile.FieldType.boolean)) ∈ lw_gd := xb_mem 186 rfl rfl
set_option maxRecDepth 100000 in
theorem xk_187 : (Jvm.Cond.methodLinkNest "NailRules" (187 : Nat) ({ cls := "NailRules$Text", name := "takeWord", desc := "()I" } : Jvm.MethodName) "NailRules") ∈ lw_tbl := List.mem_of_getElem? (i := 187) rfl
set_option maxRecDepth 100000 in
theorem xk_188 : (Jvm.Cond.privateMethod ({ cls := "NailRules$Text", name := "takeWord", desc := "()I" } : Jvm.MethodName)) ∈ lw_tbl := List.mem_of_getElem? (i := 188) rfl
set_option maxRecDepth 100000 in
theorem xk_189 : (Jvm.Cond.instanceMethod ({ cls := "NailRules$Text", name := "takeWord", desc := "()I" } : Jvm.MethodName)) ∈ lw_gd := xb_mem 189 rfl rfl
set_option maxRecDepth 100000 in
theorem xk_190 : (Jvm.Cond.code ({ cls := "NailRules$Text", name := "takeWord", desc := "()I" } : Jvm.MethodName) prog_3_method_11_code (5 : Nat) (Option.some Jvm.ClassFile.FieldType.int)) ∈ lw_gd := xb_mem 190 rfl rfl
set_option maxRecDepth 100000 in
theorem xk_191 : (Jvm.Cond.methodLinkNest "NailRules$Text" (29 : Nat) ({ cls := "NailRules", name := "wordOf", desc := "(I)Ljava/lang/String;" } : Jvm.MethodName) "NailRules") ∈ lw_tbl := List.mem_of_getElem? (i := 191) rfl
set_option maxRecDepth 100000 in
theorem xk_192 : (Jvm.Cond.static ({ cls := "NailRules", name := "wordOf", desc := "(I)Ljava/lang/String;" } : Jvm.MethodName)) ∈ lw_gd := xb_mem 192 rfl rfl
set_option maxRecDepth 100000 in
theorem xk_193 : (Jvm.Cond.code ({ cls := "NailRules", name := "wordOf", desc := "(I)Ljava/lang/String;" } : Jvm.MethodName) prog_1_method_33_code (1 : Nat) (Option.some (Jvm.ClassFile.FieldType.object "java/lang/String"))) ∈ lw_gd := xb_mem 193 rfl rfl
set_option maxRecDepth 100000 in
theorem xk_194 : (Jvm.Cond.stringRef "NailRules" (209 : Nat) "size") ∈ lw_tbl := List.mem_of_getElem? (i := 194) rfl
set_option maxRecDepth 100000 in
theorem xk_195 : (Jvm.Cond.stringRef "NailRules" (210 : Nat) "force") ∈ lw_tbl := List.mem_of_getElem? (i := 195) rfl
set_option maxRecDepth 100000 in
theorem xk_196 : (Jvm.Cond.stringRef "NailRules" (212 : Nat) "edge") ∈ lw_tbl := List.mem_of_getElem? (i := 196) rfl
set_option maxRecDepth 100000 in
theorem xk_197 : (Jvm.Cond.stringRef "NailRules" (214 : Nat) "end") ∈ lw_tbl := List.mem_of_getElem? (i := 197) rfl
set_option maxRecDepth 100000 in
theorem xk_198 : (Jvm.Cond.stringRef "NailRules" (216 : Nat) "side") ∈ lw_tbl := List.mem_of_getElem? (i := 198) rfl
set_option maxRecDepth 100000 in
theorem xk_199 : (Jvm.Cond.stringRef "NailRules" (218 : Nat) "row") ∈ lw_tbl := List.mem_of_getElem? (i := 199) rfl
set_option maxRecDepth 100000 in
theorem xk_200 : (Jvm.Cond.stringRef "NailRules" (220 : Nat) "thin") ∈ lw_tbl := List.mem_of_getElem? (i := 200) rfl
set_option maxRecDepth 100000 in
theorem xk_201 : (Jvm.Cond.methodLink "NailRules$Text" (33 : Nat) ({ cls := "NailRules$Text", name := "unitsAlike", desc := "(Ljava/lang/String;)I" } : Jvm.MethodName)) ∈ lw_gd := xb_mem 201 rfl rfl
set_option maxRecDepth 100000 in
theorem xk_202 : (Jvm.Cond.privateMethod ({ cls := "NailRules$Text", name := "unitsAlike", desc := "(Ljava/lang/String;)I" } : Jvm.MethodName)) ∈ lw_tbl := List.mem_of_getElem? (i := 202) rfl
set_option maxRecDepth 100000 in
theorem xk_203 : (Jvm.Cond.instanceMethod ({ cls := "NailRules$Text", name := "unitsAlike", desc := "(Ljava/lang/String;)I" } : Jvm.MethodName)) ∈ lw_gd := xb_mem 203 rfl rfl
set_option maxRecDepth 100000 in
theorem xk_204 : (Jvm.Cond.code ({ cls := "NailRules$Text", name := "unitsAlike", desc := "(Ljava/lang/String;)I" } : Jvm.MethodName) prog_3_method_12_code (3 : Nat) (Option.some Jvm.ClassFile.FieldType.int)) ∈ lw_gd := xb_mem 204 rfl rfl
set_option maxRecDepth 100000 in
theorem xk_205 : (Jvm.Cond.methodLink "NailRules$Text" (37 : Nat) ({ cls := "java/lang/String", name := "length", desc := "()I" } : Jvm.MethodName)) ∈ lw_gd := xb_mem 205 rfl rfl
set_option maxRecDepth 100000 in
theorem xk_206 : (Jvm.Cond.instanceMethod ({ cls := "java/lang/String", name := "length", desc := "()I" } : Jvm.MethodName)) ∈ lw_gd := xb_mem 206 rfl rfl
set_option maxRecDepth 100000 in
theorem xk_207 : (Jvm.Cond.selects "java/lang/String" ({ cls := "java/lang/String", name := "length", desc := "()I" } : Jvm.MethodName) ({ cls := "java/lang/String", name := "length", desc := "()I" } : Jvm.MethodName)) ∈ lw_gd := xb_mem 207 rfl rfl
set_option maxRecDepth 100000 in
theorem xk_208 : (Jvm.Cond.code ({ cls := "java/lang/String", name := "length", desc := "()I" } : Jvm.MethodName) prog_15_method_54_code (1 : Nat) (Option.some Jvm.ClassFile.FieldType.int)) ∈ lw_gd := xb_mem 208 rfl rfl
set_option maxRecDepth 100000 in
theorem xk_209 : (Jvm.Cond.methodLink "java/lang/String" (335 : Nat) ({ cls := "java/lang/String", name := "coder", desc := "()B" } : Jvm.MethodName)) ∈ lw_gd := xb_mem 209 rfl rfl
set_option maxRecDepth 100000 in
theorem xk_210 : (Jvm.Cond.instanceMethod ({ cls := "java/lang/String", name := "coder", desc := "()B" } : Jvm.MethodName)) ∈ lw_gd := xb_mem 210 rfl rfl
set_option maxRecDepth 100000 in
theorem xk_211 : (Jvm.Cond.selects "java/lang/String" ({ cls := "java/lang/String", name := "coder", desc := "()B" } : Jvm.MethodName) ({ cls := "java/lang/String", name := "coder", desc := "()B" } : Jvm.MethodName)) ∈ lw_gd := xb_mem 211 rfl rfl
set_option maxRecDepth 100000 in
theorem xk_212 : (Jvm.Cond.code ({ cls := "java/lang/String", name := "coder", desc := "()B" } : Jvm.MethodName) prog_15_method_152_code (1 : Nat) (Option.some Jvm.ClassFile.FieldType.byte)) ∈ lw_gd := xb_mem 212 rfl rfl
set_option maxRecDepth 100000 in
theorem xk_213 : (Jvm.Cond.fieldLink "java/lang/String" (38 : Nat) "java/lang/String" "COMPACT_STRINGS" "Z") ∈ lw_gd := xb_mem 213 rfl rfl
set_option maxRecDepth 100000 in
theorem xk_214 : (Jvm.Cond.laysStatic "java/lang/String" "COMPACT_STRINGS" "Z") ∈ lw_tbl := List.mem_of_getElem? (i := 214) rfl
set_option maxRecDepth 100000 in
theorem xk_215 : (Jvm.Cond.methodLink "NailRules$Text" (48 : Nat) ({ cls := "java/lang/String", name := "charAt", desc := "(I)C" } : Jvm.MethodName)) ∈ lw_gd := xb_mem 215 rfl rfl
set_option maxRecDepth 100000 in
theorem xk_216 : (Jvm.Cond.instanceMethod ({ cls := "java/lang/String", name := "charAt", desc := "(I)C" } : Jvm.MethodName)) ∈ lw_gd := xb_mem 216 rfl rfl
set_option maxRecDepth 100000 in
theorem xk_217 : (Jvm.Cond.selects "java/lang/String" ({ cls := "java/lang/String", name := "charAt", desc := "(I)C" } : Jvm.MethodName) ({ cls := "java/lang/String", name := "charAt", desc := "(I)C" } : Jvm.MethodName)) ∈ lw_gd := xb_mem 217 rfl rfl
set_option maxRecDepth 100000 in
theorem xk_218 : (Jvm.Cond.code ({ cls := "java/lang/String", name := "charAt", desc := "(I)C" } : Jvm.MethodName) prog_15_method_56_code (2 : Nat) (Option.some Jvm.ClassFile.FieldType.char)) ∈ lw_gd := xb_mem 218 rfl rfl
set_option maxRecDepth 100000 in
theorem xk_219 : (Jvm.Cond.methodLink "java/lang/String" (492 : Nat) ({ cls := "java/lang/String", name := "isLatin1", desc := "()Z" } : Jvm.MethodName)) ∈ lw_gd := xb_mem 219 rfl rfl
set_option maxRecDepth 100000 in
theorem xk_220 : (Jvm.Cond.instanceMethod ({ cls := "java/lang/String", name := "isLatin1", desc := "()Z" } : Jvm.MethodName)) ∈ lw_gd := xb_mem 220 rfl rfl
set_option maxRecDepth 100000 in
theorem xk_221 : (Jvm.Cond.selects "java/lang/String" ({ cls := "java/lang/String", name := "isLatin1", desc := "()Z" } : Jvm.MethodName) ({ cls := "java/lang/String", name := "isLatin1", desc := "()Z" } : Jvm.MethodName)) ∈ lw_gd := xb_mem 221 rfl rfl
set_option maxRecDepth 100000 in
theorem xk_222 : (Jvm.Cond.code ({ cls := "java/lang/String", name := "isLatin1", desc := "()Z" } : Jvm.MethodName) prog_15_method_154_code (1 : Nat) (Option.some Jvm.ClassFile.FieldType.boolean)) ∈ lw_gd := xb_mem 222 rfl rfl
set_option maxRecDepth 100000 in
theorem xk_223 : (Jvm.Cond.methodLink "java/lang/String" (495 : Nat) ({ cls := "java/lang/StringLatin1", name := "charAt", desc := "([BI)C" } : Jvm.MethodName)) ∈ lw_gd := xb_mem 223 rfl rfl
set_option maxRecDepth 100000 in
theorem xk_224 : (Jvm.Cond.static ({ cls := "java/lang/StringLatin1", name := "charAt", desc := "([BI)C" } : Jvm.MethodName)) ∈ lw_gd := xb_mem 224 rfl rfl
set_option maxRecDepth 100000 in
theorem xk_225 : (Jvm.Cond.code ({ cls := "java/lang/StringLatin1", name := "charAt", desc := "([BI)C" } : Jvm.MethodName) prog_16_method_2_code (2 : Nat) (Option.some Jvm.ClassFile.FieldType.char)) ∈ lw_gd := xb_mem 225 rfl rfl
set_option maxRecDepth 100000 in
theorem xk_226 : (Jvm.Cond.methodLink "java/lang/StringLatin1" (9 : Nat) ({ cls := "java/lang/String", name := "checkIndex", desc := "(II)V" } : Jvm.MethodName)) ∈ lw_gd := xb_mem 226 rfl rfl
set_option maxRecDepth 100000 in
theorem xk_227 : (Jvm.Cond.static ({ cls := "java/lang/String", name := "checkIndex", desc := "(II)V" } : Jvm.MethodName)) ∈ lw_gd := xb_mem 227 rfl rfl
set_option maxRecDepth 100000 in
theorem xk_228 : (Jvm.Cond.code ({ cls := "java/lang/String", name := "checkIndex", desc := "(II)V" } : Jvm.MethodName) prog_15_method_155_code (2 : Nat) (Option.none : Option Jvm.ClassFile.FieldType)) ∈ lw_gd := xb_mem 228 rfl rfl
set_option maxRecDepth 100000 in
theorem xk_229 : (Jvm.Cond.fieldLink "java/lang/String" (1053 : Nat) "jdk/internal/util/Preconditions" "SIOOBE_FORMATTER" "Ljava/util/function/BiFunction;") ∈ lw_gd := xb_mem 229 rfl rfl
set_option maxRecDepth 100000 in
theorem xk_230 : (Jvm.Cond.laysStatic "jdk/internal/util/Preconditions" "SIOOBE_FORMATTER" "Ljava/util/function/BiFunction;") ∈ lw_tbl := List.mem_of_getElem? (i := 230) rfl
set_option maxRecDepth 100000 in
theorem xk_231 : (Jvm.Cond.methodLink "java/lang/String" (1059 : Nat) ({ cls := "jdk/internal/util/Preconditions", name := "checkIndex", desc := "(IILjava/util/function/BiFunction;)I" } : Jvm.MethodName)) ∈ lw_gd := xb_mem 231 rfl rfl
set_option maxRecDepth 100000 in
theorem xk_232 : (Jvm.Cond.static ({ cls := "jdk/internal/util/Preconditions", name := "checkIndex", desc := "(IILjava/util/function/BiFunction;)I" } : Jvm.MethodName)) ∈ lw_gd := xb_mem 232 rfl rfl
set_option maxRecDepth 100000 in
theorem xk_233 : (Jvm.Cond.code ({ cls := "jdk/internal/util/Preconditions", name := "checkIndex", desc := "(IILjava/util/function/BiFunction;)I" } : Jvm.MethodName) prog_30_method_11_code (3 : Nat) (Option.some Jvm.ClassFile.FieldType.int)) ∈ lw_gd := xb_mem 233 rfl rfl
set_option maxRecDepth 100000 in
theorem xk_234 : (Jvm.Cond.methodLink "java/lang/String" (498 : Nat) ({ cls := "java/lang/StringUTF16", name := "charAt", desc := "([BI)C" } : Jvm.MethodName)) ∈ lw_gd := xb_mem 234 rfl rfl
set_option maxRecDepth 100000 in
theorem xk_235 : (Jvm.Cond.static ({ cls := "java/lang/StringUTF16", name := "charAt", desc := "([BI)C" } : Jvm.MethodName)) ∈ lw_gd := xb_mem 235 rfl rfl
set_option maxRecDepth 100000 in
theorem xk_236 : (Jvm.Cond.code ({ cls := "java/lang/StringUTF16", name := "charAt", desc := "([BI)C" } : Jvm.MethodName) prog_17_method_83_code (2 : Nat) (Option.some Jvm.ClassFile.FieldType.char)) ∈ lw_gd := xb_mem 236 rfl rfl
set_option maxRecDepth 100000 in
theorem xk_237 : (Jvm.Cond.methodLink "java/lang/StringUTF16" (67 : Nat) ({ cls := "java/lang/StringUTF16", name := "checkIndex", desc := "(I[B)V" } : Jvm.MethodName)) ∈ lw_gd := xb_mem 237 rfl rfl
set_option maxRecDepth 100000 in
theorem xk_238 : (Jvm.Cond.static ({ cls := "java/lang/StringUTF16", name := "checkIndex", desc := "(I[B)V" } : Jvm.MethodName)) ∈ lw_gd := xb_mem 238 rfl rfl
set_option maxRecDepth 100000 in
theorem xk_239 : (Jvm.Cond.code ({ cls := "java/lang/StringUTF16", name := "checkIndex", desc := "(I[B)V" } : Jvm.MethodName) prog_17_method_91_code (2 : Nat) (Option.none : Option Jvm.ClassFile.FieldType)) ∈ lw_gd := xb_mem 239 rfl rfl
set_option maxRecDepth 100000 in
theorem xk_240 : (Jvm.Cond.methodLink "java/lang/StringUTF16" (48 : Nat) ({ cls := "java/lang/StringUTF16", name := "length", desc := "([B)I" } : Jvm.MethodName)) ∈ lw_gd := xb_mem 240 rfl rfl
set_option maxRecDepth 100000 in
theorem xk_241 : (Jvm.Cond.static ({ cls := "java/lang/StringUTF16", name := "length", desc := "([B)I" } : Jvm.MethodName)) ∈ lw_gd := xb_mem 241 rfl rfl
set_option maxRecDepth 100000 in
theorem xk_242 : (Jvm.Cond.code ({ cls := "java/lang/StringUTF16", name := "length", desc := "([B)I" } : Jvm.MethodName) prog_17_method_6_code (1 : Nat) (Option.some Jvm.ClassFile.FieldType.int)) ∈ lw_gd := xb_mem 242 rfl rfl
set_option maxRecDepth 100000 in
theorem xk_243 : (Jvm.Cond.methodLink "java/lang/StringUTF16" (414 : Nat) ({ cls := "java/lang/String", name := "checkIndex", desc := "(II)V" } : Jvm.MethodName)) ∈ lw_gd := xb_mem 243 rfl rfl
set_option maxRecDepth 100000 in
theorem xk_244 : (Jvm.Cond.methodLink "java/lang/StringUTF16" (71 : Nat) ({ cls := "java/lang/StringUTF16", name := "getChar", desc := "([BI)C" } : Jvm.MethodName)) ∈ lw_gd := xb_mem 244 rfl rfl
set_option maxRecDepth 100000 in
theorem xk_245 : (Jvm.Cond.static ({ cls := "java/lang/StringUTF16", name := "getChar", desc := "([BI)C" } : Jvm.MethodName)) ∈ lw_gd := xb_mem 245 rfl rfl
set_option maxRecDepth 100000 in
theorem xk_246 : (Jvm.Cond.code ({ cls := "java/lang/StringUTF16", name := "getChar", desc := "([BI)C" } : Jvm.MethodName) prog_17_method_5_code (2 : Nat) (Option.some Jvm.ClassFile.FieldType.char)) ∈ lw_gd := xb_mem 246 rfl rfl
set_option maxRecDepth 100000 in
theorem xk_247 : (Jvm.Cond.fieldLink "java/lang/StringUTF16" (44 : Nat) "java/lang/StringUTF16" "$assertionsDisabled" "Z") ∈ lw_gd := xb_mem 247 rfl rfl
set_option maxRecDepth 100000 in
theorem xk_248 : (Jvm.Cond.laysStatic "java/lang/StringUTF16" "$assertionsDisabled" "Z") ∈ lw_tbl := List.mem_of_getElem? (i := 248) rfl
set_option maxRecDepth 100000 in
theorem xk_249 : (Jvm.Cond.fieldLink "java/lang/StringUTF16" (59 : Nat) "java/lang/StringUTF16" "HI_BYTE_SHIFT" "I") ∈ lw_gd := xb_mem 249 rfl rfl
set_option maxRecDepth 100000 in
theorem xk_250 : (Jvm.Cond.laysStatic "java/lang/StringUTF16" "HI_BYTE_SHIFT" "I") ∈ lw_tbl := List.mem_of_getElem? (i := 250) rfl
set_option maxRecDepth 100000 in
theorem xk_251 : (Jvm.Cond.fieldLink "java/lang/StringUTF16" (63 : Nat) "java/lang/StringUTF16" "LO_BYTE_SHIFT" "I") ∈ lw_gd := xb_mem 251 rfl rfl
set_option maxRecDepth 100000 in
theorem xk_252 : (Jvm.Cond.laysStatic "java/lang/StringUTF16" "LO_BYTE_SHIFT" "I") ∈ lw_tbl := List.mem_of_getElem? (i := 252) rfl
set_option maxRecDepth 100000 in
theorem xk_253 : (Jvm.Cond.methodLink "NailRules$Text" (42 : Nat) ({ cls := "java/lang/Math", name := "max", desc := "(II)I" } : Jvm.MethodName)) ∈ lw_gd := xb_mem 253 rfl rfl
set_option maxRecDepth 100000 in
theorem xk_254 : (Jvm.Cond.static ({ cls := "java/lang/Math", name := "max", desc := "(II)I" } : Jvm.MethodName)) ∈ lw_gd := xb_mem 254 rfl rfl
set_option maxRecDepth 100000 in
theorem xk_255 : (Jvm.Cond.code ({ cls := "java/lang/Math", name := "max", desc := "(II)I" } : Jvm.MethodName) prog_13_method_65_code (2 : Nat) (Option.some Jvm.ClassFile.FieldType.int)) ∈ lw_gd := xb_mem 255 rfl rfl
set_option maxRecDepth 100000 in
theorem xk_256 : (Jvm.Cond.methodLinkNest "NailRules" (190 : Nat) ({ cls := "NailRules$Text", name := "takeNumber", desc := "()I" } : Jvm.MethodName) "NailRules") ∈ lw_tbl := List.mem_of_getElem? (i := 256) rfl
set_option maxRecDepth 100000 in
theorem xk_257 : (Jvm.Cond.privateMethod ({ cls := "NailRules$Text", name := "takeNumber", desc := "()I" } : Jvm.MethodName)) ∈ lw_tbl := List.mem_of_getElem? (i := 257) rfl
set_option maxRecDepth 100000 in
theorem xk_258 : (Jvm.Cond.instanceMethod ({ cls := "NailRules$Text", name := "takeNumber", desc := "()I" } : Jvm.MethodName)) ∈ lw_gd := xb_mem 258 rfl rfl
set_option maxRecDepth 100000 in
theorem xk_259 : (Jvm.Cond.code ({ cls := "NailRules$Text", name := "takeNumber", desc := "()I" } : Jvm.MethodName) prog_3_method_13_code (3 : Nat) (Option.some Jvm.ClassFile.FieldType.int)) ∈ lw_gd := xb_mem 259 rfl rfl
set_option maxRecDepth 100000 in
theorem xk_260 : (Jvm.Cond.methodLink "NailRules$Text" (52 : Nat) ({ cls := "NailRules$Text", name := "isDigit", desc := "(I)Z" } : Jvm.MethodName)) ∈ lw_gd := xb_mem 260 rfl rfl
set_option maxRecDepth 100000 in
theorem xk_261 : (Jvm.Cond.static ({ cls := "NailRules$Text", name := "isDigit", desc := "(I)Z" } : Jvm.MethodName)) ∈ lw_gd := xb_mem 261 rfl rfl
set_option maxRecDepth 100000 in
theorem xk_262 : (Jvm.Cond.code ({ cls := "NailRules$Text", name := "isDigit", desc := "(I)Z" } : Jvm.MethodName) prog_3_method_14_code (1 : Nat) (Option.some Jvm.ClassFile.FieldType.boolean)) ∈ lw_gd := xb_mem 262 rfl rfl
set_option maxRecDepth 100000 in
theorem xk_263 : (Jvm.Cond.methodLinkNest "NailRules" (174 : Nat) ({ cls := "NailRules$Text", name := "fault", desc := "()I" } : Jvm.MethodName) "NailRules") ∈ lw_tbl := List.mem_of_getElem? (i := 263) rfl
set_option maxRecDepth 100000 in
theorem xk_264 : (Jvm.Cond.privateMethod ({ cls := "NailRules$Text", name := "fault", desc := "()I" } : Jvm.MethodName)) ∈ lw_tbl := List.mem_of_getElem? (i := 264) rfl
set_option maxRecDepth 100000 in
theorem xk_265 : (Jvm.Cond.instanceMethod ({ cls := "NailRules$Text", name := "fault", desc := "()I" } : Jvm.MethodName)) ∈ lw_gd := xb_mem 265 rfl rfl
set_option maxRecDepth 100000 in
theorem xk_266 : (Jvm.Cond.code ({ cls := "NailRules$Text", name := "fault", desc := "()I" } : Jvm.MethodName) prog_3_method_6_code (1 : Nat) (Option.some Jvm.ClassFile.FieldType.int)) ∈ lw_gd := xb_mem 266 rfl rfl
set_option maxRecDepth 100000 in
theorem xk_267 : (Jvm.Cond.methodLinkNest "NailRules" (177 : Nat) ({ cls := "NailRules$Text", name := "ended", desc := "()Z" } : Jvm.MethodName) "NailRules") ∈ lw_tbl := List.mem_of_getElem? (i := 267) rfl
set_option maxRecDepth 100000 in
theorem xk_268 : (Jvm.Cond.privateMethod ({ cls := "NailRules$Text", name := "ended", desc := "()Z" } : Jvm.MethodName)) ∈ lw_tbl := List.mem_of_getElem? (i := 268) rfl
set_option maxRecDepth 100000 in
theorem xk_269 : (Jvm.Cond.instanceMethod ({ cls := "NailRules$Text", name := "ended", desc := "()Z" } : Jvm.MethodName)) ∈ lw_gd := xb_mem 269 rfl rfl
set_option maxRecDepth 100000 in
theorem xk_270 : (Jvm.Cond.code ({ cls := "NailRules$Text", name := "ended", desc := "()Z" } : Jvm.MethodName) prog_3_method_5_code (1 : Nat) (Option.some Jvm.ClassFile.FieldType.boolean)) ∈ lw_gd := xb_mem 270 rfl rfl
set_option maxRecDepth 100000 in
theorem xk_271 : (Jvm.Cond.methodLinkNest "NailRules" (60 : Nat) ({ cls := "NailRules$Text", name := "empty", desc := "()V" } : Jvm.MethodName) "NailRules") ∈ lw_tbl := List.mem_of_getElem? (i := 271) rfl
set_option maxRecDepth 100000 in
theorem xk_272 : (Jvm.Cond.privateMethod ({ cls := "NailRules$Text", name := "empty", desc := "()V" } : Jvm.MethodName)) ∈ lw_tbl := List.mem_of_getElem? (i := 272) rfl
set_option maxRecDepth 100000 in
theorem xk_273 : (Jvm.Cond.instanceMethod ({ cls := "NailRules$Text", name := "empty", desc := "()V" } : Jvm.MethodName)) ∈ lw_gd := xb_mem 273 rfl rfl
set_option maxRecDepth 100000 in
theorem xk_274 : (Jvm.Cond.code ({ cls := "NailRules$Text", name := "empty", desc := "()V" } : Jvm.MethodName) prog_3_method_3_code (1 : Nat) (Option.none : Option Jvm.ClassFile.FieldType)) ∈ lw_gd := xb_mem 274 rfl rfl
set_option maxRecDepth 100000 in
theorem xk_275 : (Jvm.Cond.arrayClass Jvm.ClassFile.FieldType.byte) ∈ lw_gd := xb_mem 275 rfl rfl
set_option maxRecDepth 100000 in
theorem xk_276 : (Jvm.Cond.methodLink "NailRulesLaw" (117 : Nat) ({ cls := "NailRules", name := "clear", desc := "()V" } : Jvm.MethodName)) ∈ lw_gd := xb_mem 276 rfl rfl
set_option maxRecDepth 100000 in
theorem xk_277 : (Jvm.Cond.instanceMethod ({ cls := "NailRules", name := "clear", desc := "()V" } : Jvm.MethodName)) ∈ lw_gd := xb_mem 277 rfl rfl
set_option maxRecDepth 100000 in
theorem xk_278 : (Jvm.Cond.selects "NailRules" ({ cls := "NailRules", name := "clear", desc := "()V" } : Jvm.MethodName) ({ cls := "NailRules", name := "clear", desc := "()V" } : Jvm.MethodName)) ∈ lw_gd := xb_mem 278 rfl rfl
set_option maxRecDepth 100000 in
theorem xk_279 : (Jvm.Cond.code ({ cls := "NailRules", name := "clear", desc := "()V" } : Jvm.MethodName) prog_1_method_12_code (1 : Nat) (Option.none : Option Jvm.ClassFile.FieldType)) ∈ lw_gd := xb_mem 279 rfl rfl
set_option maxRecDepth 100000 in
theorem xk_280 : (Jvm.Cond.methodLink "NailRulesLaw" (83 : Nat) ({ cls := "NailRulesLaw", name := "rule", desc := "(LNailRules;II[J)I" } : Jvm.MethodName)) ∈ lw_gd := xb_mem 280 rfl rfl
set_option maxRecDepth 100000 in
theorem xk_281 : (Jvm.Cond.static ({ cls := "NailRulesLaw", name := "rule", desc := "(LNailRules;II[J)I" } : Jvm.MethodName)) ∈ lw_gd := xb_mem 281 rfl rfl
set_option maxRecDepth 100000 in
theorem xk_282 : (Jvm.Cond.codeWith ({ cls := "NailRulesLaw", name := "rule", desc := "(LNailRules;II[J)I" } : Jvm.MethodName) method_3_code (5 : Nat) (Option.some Jvm.ClassFile.FieldType.int) [((0 : Nat), (10 : Nat), (13 : Nat), (13 : Nat))]) ∈ lw_gd := xb_mem 282 rfl rfl
set_option maxRecDepth 100000 in
theorem xk_283 : (Jvm.Cond.classLink "NailRulesLaw" (13 : Nat) "java/lang/IndexOutOfBoundsException") ∈ lw_gd := xb_mem 283 rfl rfl
set_option maxRecDepth 100000 in
theorem xk_284 : (Jvm.Cond.methodLink "NailRulesLaw" (7 : Nat) ({ cls := "NailRules", name := "rule", desc := "(II)I" } : Jvm.MethodName)) ∈ lw_gd := xb_mem 284 rfl rfl
set_option maxRecDepth 100000 in
theorem xk_285 : (Jvm.Cond.instanceMethod ({ cls := "NailRules", name := "rule", desc := "(II)I" } : Jvm.MethodName)) ∈ lw_gd := xb_mem 285 rfl rfl
set_option maxRecDepth 100000 in
theorem xk_286 : (Jvm.Cond.selects "NailRules" ({ cls := "NailRules", name := "rule", desc := "(II)I" } : Jvm.MethodName) ({ cls := "NailRules", name := "rule", desc := "(II)I" } : Jvm.MethodName)) ∈ lw_gd := xb_mem 286 rfl rfl
set_option maxRecDepth 100000 in
theorem xk_287 : (Jvm.Cond.code ({ cls := "NailRules", name := "rule", desc := "(II)I" } : Jvm.MethodName) prog_1_method_4_code (3 : Nat) (Option.some Jvm.ClassFile.FieldType.int)) ∈ lw_gd := xb_mem 287 rfl rfl
set_option maxRecDepth 100000 in
theorem xk_288 : (Jvm.Cond.methodLink "NailRules" (63 : Nat) ({ cls := "NailRules", name := "requireIndex", desc := "(II)V" } : Jvm.MethodName)) ∈ lw_gd := xb_mem 288 rfl rfl
set_option maxRecDepth 100000 in
theorem xk_289 : (Jvm.Cond.static ({ cls := "NailRules", name := "requireIndex", desc := "(II)V" } : Jvm.MethodName)) ∈ lw_gd := xb_mem 289 rfl rfl
set_option maxRecDepth 100000 in
theorem xk_290 : (Jvm.Cond.code ({ cls := "NailRules", name := "requireIndex", desc := "(II)V" } : Jvm.MethodName) prog_1_method_19_code (2 : Nat) (Option.none : Option Jvm.ClassFile.FieldType)) ∈ lw_gd := xb_mem 290 rfl rfl
set_option maxRecDepth 100000 in
theorem xk_291 : (Jvm.Cond.classLink "NailRules" (160 : Nat) "java/lang/IndexOutOfBoundsException") ∈ lw_gd := xb_mem 291 rfl rfl
set_option maxRecDepth 100000 in
theorem xk_292 : (Jvm.Cond.instantiable "java/lang/IndexOutOfBoundsException" (6 : Nat)) ∈ lw_gd := xb_mem 292 rfl rfl
set_option maxRecDepth 100000 in
theorem xk_293 : (Jvm.Cond.castable "java/lang/IndexOutOfBoundsException" "java/lang/IndexOutOfBoundsException") ∈ lw_tbl := List.mem_of_getElem? (i := 293) rfl
set_option maxRecDepth 100000 in
theorem xk_294 : (Jvm.Cond.declares ({ cls := "java/lang/RuntimeException", name := "<init>", desc := "()V" } : Jvm.MethodName)) ∈ lw_tbl := List.mem_of_getElem? (i := 294) rfl
set_option maxRecDepth 100000 in
theorem xk_295 : (Jvm.Cond.declares ({ cls := "java/lang/RuntimeException", name := "<init>", desc := "(Ljava/lang/String;)V" } : Jvm.MethodName)) ∈ lw_tbl := List.mem_of_getElem? (i := 295) rfl
set_option maxRecDepth 100000 in
theorem xk_296 : (Jvm.Cond.declares ({ cls := "java/lang/Exception", name := "<init>", desc := "()V" } : Jvm.MethodName)) ∈ lw_tbl := List.mem_of_getElem? (i := 296) rfl
set_option maxRecDepth 100000 in
theorem xk_297 : (Jvm.Cond.declares ({ cls := "java/lang/Exception", name := "<init>", desc := "(Ljava/lang/String;)V" } : Jvm.MethodName)) ∈ lw_tbl := List.mem_of_getElem? (i := 297) rfl
set_option maxRecDepth 100000 in
theorem xk_298 : (Jvm.Cond.declares ({ cls := "java/lang/Throwable", name := "<init>", desc := "()V" } : Jvm.MethodName)) ∈ lw_tbl := List.mem_of_getElem? (i := 298) rfl
set_option maxRecDepth 100000 in
theorem xk_299 : (Jvm.Cond.declares ({ cls := "java/lang/Throwable", name := "<init>", desc := "(Ljava/lang/String;)V" } : Jvm.MethodName)) ∈ lw_tbl := List.mem_of_getElem? (i := 299) rfl
set_option maxRecDepth 100000 in
theorem xk_300 : (Jvm.Cond.selects "java/lang/IndexOutOfBoundsException" ({ cls := "java/lang/Throwable", name := "fillInStackTrace", desc := "(I)Ljava/lang/Throwable;" } : Jvm.MethodName) ({ cls := "java/lang/Throwable", name := "fillInStackTrace", desc := "(I)Ljava/lang/Throwable;" } : Jvm.MethodName)) ∈ lw_gd := xb_mem 300 rfl rfl
set_option maxRecDepth 100000 in
theorem xk_301 : (Jvm.Cond.selects "java/lang/IndexOutOfBoundsException" ({ cls := "java/lang/Throwable", name := "fillInStackTrace", desc := "()Ljava/lang/Throwable;" } : Jvm.MethodName) ({ cls := "java/lang/Throwable", name := "fillInStackTrace", desc := "()Ljava/lang/Throwable;" } : Jvm.MethodName)) ∈ lw_gd := xb_mem 301 rfl rfl
set_option maxRecDepth 100000 in
theorem xk_302 : (Jvm.Cond.lays "java/lang/IndexOutOfBoundsException" "java/lang/Throwable" "cause" "Ljava/lang/Throwable;") ∈ lw_gd := xb_mem 302 rfl rfl
set_option maxRecDepth 100000 in
theorem xk_303 : (Jvm.Cond.lays "java/lang/Throwable" "java/lang/Throwable" "cause" "Ljava/lang/Throwable;") ∈ lw_gd := xb_mem 303 rfl rfl
set_option maxRecDepth 100000 in
theorem xk_304 : (Jvm.Cond.lays "java/lang/IndexOutOfBoundsException" "java/lang/Throwable" "stackTrace" "[Ljava/lang/StackTraceElement;") ∈ lw_gd := xb_mem 304 rfl rfl
set_option maxRecDepth 100000 in
theorem xk_305 : (Jvm.Cond.lays "java/lang/Throwable" "java/lang/Throwable" "stackTrace" "[Ljava/lang/StackTraceElement;") ∈ lw_gd := xb_mem 305 rfl rfl
set_option maxRecDepth 100000 in
theorem xk_306 : (Jvm.Cond.lays "java/lang/IndexOutOfBoundsException" "java/lang/Throwable" "suppressedExceptions" "Ljava/util/List;") ∈ lw_gd := xb_mem 306 rfl rfl
set_option maxRecDepth 100000 in
theorem xk_307 : (Jvm.Cond.lays "java/lang/Throwable" "java/lang/Throwable" "suppressedExceptions" "Ljava/util/List;") ∈ lw_gd := xb_mem 307 rfl rfl
set_option maxRecDepth 100000 in
theorem xk_308 : (Jvm.Cond.lays "java/lang/IndexOutOfBoundsException" "java/lang/Throwable" "detailMessage" "Ljava/lang/String;") ∈ lw_gd := xb_mem 308 rfl rfl
set_option maxRecDepth 100000 in
theorem xk_309 : (Jvm.Cond.lays "java/lang/Throwable" "java/lang/Throwable" "detailMessage" "Ljava/lang/String;") ∈ lw_gd := xb_mem 309 rfl rfl
set_option maxRecDepth 100000 in
theorem xk_310 : (Jvm.Cond.lays "java/lang/IndexOutOfBoundsException" "java/lang/Throwable" "backtrace" "Ljava/lang/Object;") ∈ lw_gd := xb_mem 310 rfl rfl
set_option maxRecDepth 100000 in
theorem xk_311 : (Jvm.Cond.lays "java/lang/Throwable" "java/lang/Throwable" "backtrace" "Ljava/lang/Object;") ∈ lw_gd := xb_mem 311 rfl rfl
set_option maxRecDepth 100000 in
theorem xk_312 : (Jvm.Cond.fieldLink "java/lang/Throwable" (198 : Nat) "java/lang/Throwable" "backtrace" "Ljava/lang/Object;") ∈ lw_gd := xb_mem 312 rfl rfl
set_option maxRecDepth 100000 in
theorem xk_313 : (Jvm.Cond.superclass "java/lang/Throwable" "java/lang/Object") ∈ lw_gd := xb_mem 313 rfl rfl
set_option maxRecDepth 100000 in
theorem xk_314 : (Jvm.Cond.instanceMethod ({ cls := "java/lang/Throwable", name := "<init>", desc := "()V" } : Jvm.MethodName)) ∈ lw_gd := xb_mem 314 rfl rfl
set_option maxRecDepth 100000 in
theorem xk_315 : (Jvm.Cond.code ({ cls := "java/lang/Throwable", name := "<init>", desc := "()V" } : Jvm.MethodName) prog_19_method_1_code (1 : Nat) (Option.none : Option Jvm.ClassFile.FieldType)) ∈ lw_gd := xb_mem 315 rfl rfl
set_option maxRecDepth 100000 in
theorem xk_316 : (Jvm.Cond.methodLink "java/lang/Throwable" (1 : Nat) ({ cls := "java/lang/Object", name := "<init>", desc := "()V" } : Jvm.MethodName)) ∈ lw_gd := xb_mem 316 rfl rfl
set_option maxRecDepth 100000 in
theorem xk_317 : (Jvm.Cond.fieldLink "java/lang/Throwable" (13 : Nat) "java/lang/Throwable" "UNASSIGNED_STACK" "[Ljava/lang/StackTraceElement;") ∈ lw_gd := xb_mem 317 rfl rfl
set_option maxRecDepth 100000 in
theorem xk_318 : (Jvm.Cond.laysStatic "java/lang/Throwable" "UNASSIGNED_STACK" "[Ljava/lang/StackTraceElement;") ∈ lw_tbl := List.mem_of_getElem? (i := 318) rfl
set_option maxRecDepth 100000 in
theorem xk_319 : (Jvm.Cond.fieldLink "java/lang/Throwable" (20 : Nat) "java/lang/Throwable" "SUPPRESSED_SENTINEL" "Ljava/util/List;") ∈ lw_gd := xb_mem 319 rfl rfl
set_option maxRecDepth 100000 in
theorem xk_320 : (Jvm.Cond.laysStatic "java/lang/Throwable" "SUPPRESSED_SENTINEL" "Ljava/util/List;") ∈ lw_tbl := List.mem_of_getElem? (i := 320) rfl
set_option maxRecDepth 100000 in
theorem xk_321 : (Jvm.Cond.methodLink "java/lang/Throwable" (27 : Nat) ({ cls := "java/lang/Throwable", name := "fillInStackTrace", desc := "()Ljava/lang/Throwable;" } : Jvm.MethodName)) ∈ lw_gd := xb_mem 321 rfl rfl
set_option maxRecDepth 100000 in
theorem xk_322 : (Jvm.Cond.instanceMethod ({ cls := "java/lang/Throwable", name := "fillInStackTrace", desc := "()Ljava/lang/Throwable;" } : Jvm.MethodName)) ∈ lw_gd := xb_mem 322 rfl rfl
set_option maxRecDepth 100000 in
theorem xk_323 : (Jvm.Cond.sameMethod "java/lang/Throwable" "java/lang/Throwable" "fillInStackTrace" "()Ljava/lang/Throwable;") ∈ lw_gd := xb_mem 323 rfl rfl
set_option maxRecDepth 100000 in
theorem xk_324 : (Jvm.Cond.selects "java/lang/IllegalArgumentException" ({ cls := "java/lang/Throwable", name := "fillInStackTrace", desc := "()Ljava/lang/Throwable;" } : Jvm.MethodName) ({ cls := "java/lang/Throwable", name := "fillInStackTrace", desc := "()Ljava/lang/Throwable;" } : Jvm.MethodName)) ∈ lw_gd := xb_mem 324 rfl rfl
set_option maxRecDepth 100000 in
theorem xk_325 : (Jvm.Cond.selects "java/lang/IllegalStateException" ({ cls := "java/lang/Throwable", name := "fillInStackTrace", desc := "()Ljava/lang/Throwable;" } : Jvm.MethodName) ({ cls := "java/lang/Throwable", name := "fillInStackTrace", desc := "()Ljava/lang/Throwable;" } : Jvm.MethodName)) ∈ lw_gd := xb_mem 325 rfl rfl
set_option maxRecDepth 100000 in
theorem xk_326 : (Jvm.Cond.codeSync ({ cls := "java/lang/Throwable", name := "fillInStackTrace", desc := "()Ljava/lang/Throwable;" } : Jvm.MethodName) prog_19_method_18_code (1 : Nat) (Option.some (Jvm.ClassFile.FieldType.object "java/lang/Throwable"))) ∈ lw_gd := xb_mem 326 rfl rfl
set_option maxRecDepth 100000 in
theorem xk_327 : (Jvm.Cond.methodLink "java/lang/Throwable" (202 : Nat) ({ cls := "java/lang/Throwable", name := "fillInStackTrace", desc := "(I)Ljava/lang/Throwable;" } : Jvm.MethodName)) ∈ lw_gd := xb_mem 327 rfl rfl
set_option maxRecDepth 100000 in
theorem xk_328 : (Jvm.Cond.privateMethod ({ cls := "java/lang/Throwable", name := "fillInStackTrace", desc := "(I)Ljava/lang/Throwable;" } : Jvm.MethodName)) ∈ lw_tbl := List.mem_of_getElem? (i := 328) rfl
set_option maxRecDepth 100000 in
theorem xk_329 : (Jvm.Cond.instanceMethod ({ cls := "java/lang/Throwable", name := "fillInStackTrace", desc := "(I)Ljava/lang/Throwable;" } : Jvm.MethodName)) ∈ lw_gd := xb_mem 329 rfl rfl
set_option maxRecDepth 100000 in
theorem xk_330 : (Jvm.Cond.instantiable "java/lang/Throwable" (6 : Nat)) ∈ lw_gd := xb_mem 330 rfl rfl
set_option maxRecDepth 100000 in
theorem xk_331 : (Jvm.Cond.native ({ cls := "java/lang/Throwable", name := "fillInStackTrace", desc := "(I)Ljava/lang/Throwable;" } : Jvm.MethodName)) ∈ lw_gd := xb_mem 331 rfl rfl
set_option maxRecDepth 100000 in
theorem xk_332 : (Jvm.Cond.stringRef "NailRules" (162 : Nat) "there is no such kind, part, place, member or axis") ∈ lw_tbl := List.mem_of_getElem? (i := 332) rfl
set_option maxRecDepth 100000 in
theorem xk_333 : (Jvm.Cond.methodLink "NailRules" (164 : Nat) ({ cls := "java/lang/IndexOutOfBoundsException", name := "<init>", desc := "(Ljava/lang/String;)V" } : Jvm.MethodName)) ∈ lw_gd := xb_mem 333 rfl rfl
set_option maxRecDepth 100000 in
theorem xk_334 : (Jvm.Cond.instanceMethod ({ cls := "java/lang/IndexOutOfBoundsException", name := "<init>", desc := "(Ljava/lang/String;)V" } : Jvm.MethodName)) ∈ lw_gd := xb_mem 334 rfl rfl
set_option maxRecDepth 100000 in
theorem xk_335 : (Jvm.Cond.code ({ cls := "java/lang/IndexOutOfBoundsException", name := "<init>", desc := "(Ljava/lang/String;)V" } : Jvm.MethodName) prog_11_method_2_code (2 : Nat) (Option.none : Option Jvm.ClassFile.FieldType)) ∈ lw_gd := xb_mem 335 rfl rfl
set_option maxRecDepth 100000 in
theorem xk_336 : (Jvm.Cond.methodLink "java/lang/IndexOutOfBoundsException" (7 : Nat) ({ cls := "java/lang/RuntimeException", name := "<init>", desc := "(Ljava/lang/String;)V" } : Jvm.MethodName)) ∈ lw_gd := xb_mem 336 rfl rfl
set_option maxRecDepth 100000 in
theorem xk_337 : (Jvm.Cond.instanceMethod ({ cls := "java/lang/RuntimeException", name := "<init>", desc := "(Ljava/lang/String;)V" } : Jvm.MethodName)) ∈ lw_gd := xb_mem 337 rfl rfl
set_option maxRecDepth 100000 in
theorem xk_338 : (Jvm.Cond.code ({ cls := "java/lang/RuntimeException", name := "<init>", desc := "(Ljava/lang/String;)V" } : Jvm.MethodName) prog_14_method_2_code (2 : Nat) (Option.none : Option Jvm.ClassFile.FieldType)) ∈ lw_gd := xb_mem 338 rfl rfl
set_option maxRecDepth 100000 in
theorem xk_339 : (Jvm.Cond.methodLink "java/lang/RuntimeException" (7 : Nat) ({ cls := "java/lang/Exception", name := "<init>", desc := "(Ljava/lang/String;)V" } : Jvm.MethodName)) ∈ lw_gd := xb_mem 339 rfl rfl
set_option maxRecDepth 100000 in
theorem xk_340 : (Jvm.Cond.instanceMethod ({ cls := "java/lang/Exception", name := "<init>", desc := "(Ljava/lang/String;)V" } : Jvm.MethodName)) ∈ lw_gd := xb_mem 340 rfl rfl
set_option maxRecDepth 100000 in
theorem xk_341 : (Jvm.Cond.code ({ cls := "java/lang/Exception", name := "<init>", desc := "(Ljava/lang/String;)V" } : Jvm.MethodName) prog_8_method_2_code (2 : Nat) (Option.none : Option Jvm.ClassFile.FieldType)) ∈ lw_gd := xb_mem 341 rfl rfl
set_option maxRecDepth 100000 in
theorem xk_342 : (Jvm.Cond.methodLink "java/lang/Exception" (7 : Nat) ({ cls := "java/lang/Throwable", name := "<init>", desc := "(Ljava/lang/String;)V" } : Jvm.MethodName)) ∈ lw_gd := xb_mem 342 rfl rfl
set_option maxRecDepth 100000 in
theorem xk_343 : (Jvm.Cond.instanceMethod ({ cls := "java/lang/Throwable", name := "<init>", desc := "(Ljava/lang/String;)V" } : Jvm.MethodName)) ∈ lw_gd := xb_mem 343 rfl rfl
set_option maxRecDepth 100000 in
theorem xk_344 : (Jvm.Cond.code ({ cls := "java/lang/Throwable", name := "<init>", desc := "(Ljava/lang/String;)V" } : Jvm.MethodName) prog_19_method_2_code (2 : Nat) (Option.none : Option Jvm.ClassFile.FieldType)) ∈ lw_gd := xb_mem 344 rfl rfl
set_option maxRecDepth 100000 in
theorem xk_345 : (Jvm.Cond.fieldLink "java/lang/Throwable" (198 : Nat) "java/lang/Throwable" "backtrace" "Ljava/lang/Object;") ∈ lw_gd := xb_mem 345 rfl rfl
set_option maxRecDepth 100000 in
theorem xk_346 : (Jvm.Cond.fieldLink "java/lang/Throwable" (31 : Nat) "java/lang/Throwable" "detailMessage" "Ljava/lang/String;") ∈ lw_gd := xb_mem 346 rfl rfl
set_option maxRecDepth 100000 in
theorem xk_347 : (Jvm.Cond.fieldLink "java/lang/Throwable" (7 : Nat) "java/lang/Throwable" "cause" "Ljava/lang/Throwable;") ∈ lw_gd := xb_mem 347 rfl rfl
set_option maxRecDepth 100000 in
theorem xk_348 : (Jvm.Cond.fieldLink "java/lang/Throwable" (17 : Nat) "java/lang/Throwable" "stackTrace" "[Ljava/lang/StackTraceElement;") ∈ lw_gd := xb_mem 348 rfl rfl
set_option maxRecDepth 100000 in
theorem xk_349 : (Jvm.Cond.fieldLink "java/lang/Throwable" (24 : Nat) "java/lang/Throwable" "suppressedExceptions" "Ljava/util/List;") ∈ lw_gd := xb_mem 349 rfl rfl
set_option maxRecDepth 100000 in
theorem xk_350 : (Jvm.Cond.soleField "java/lang/Throwable" "backtrace") ∈ lw_gd := xb_mem 350 rfl rfl
set_option maxRecDepth 100000 in
theorem xk_351 : (Jvm.Cond.soleField "java/lang/Throwable" "detailMessage") ∈ lw_gd := xb_mem 351 rfl rfl
set_option maxRecDepth 100000 in
theorem xk_352 : (Jvm.Cond.soleField "java/lang/Throwable" "cause") ∈ lw_gd := xb_mem 352 rfl rfl
set_option maxRecDepth 100000 in
theorem xk_353 : (Jvm.Cond.soleField "java/lang/Throwable" "stackTrace") ∈ lw_gd := xb_mem 353 rfl rfl
set_option maxRecDepth 100000 in
theorem xk_354 : (Jvm.Cond.lays "java/lang/IndexOutOfBoundsException" "java/lang/Throwable" "depth" "I") ∈ lw_gd := xb_mem 354 rfl rfl
set_option maxRecDepth 100000 in
theorem xk_355 : (Jvm.Cond.soleField "java/lang/Throwable" "depth") ∈ lw_gd := xb_mem 355 rfl rfl
set_option maxRecDepth 100000 in
theorem xk_356 : (Jvm.Cond.soleField "java/lang/Throwable" "suppressedExceptions") ∈ lw_gd := xb_mem 356 rfl rfl
set_option maxRecDepth 100000 in
theorem xk_357 : (Jvm.Cond.superclass "java/lang/IndexOutOfBoundsException" "java/lang/RuntimeException") ∈ lw_gd := xb_mem 357 rfl rfl
set_option maxRecDepth 100000 in
theorem xk_358 : (Jvm.Cond.methodLink "NailRules" (67 : Nat) ({ cls := "NailRules", name := "told", desc := "(II)I" } : Jvm.MethodName)) ∈ lw_gd := xb_mem 358 rfl rfl
set_option maxRecDepth 100000 in
theorem xk_359 : (Jvm.Cond.privateMethod ({ cls := "NailRules", name := "told", desc := "(II)I" } : Jvm.MethodName)) ∈ lw_tbl := List.mem_of_getElem? (i := 359) rfl
set_option maxRecDepth 100000 in
theorem xk_360 : (Jvm.Cond.instanceMethod ({ cls := "NailRules", name := "told", desc := "(II)I" } : Jvm.MethodName)) ∈ lw_gd := xb_mem 360 rfl rfl
set_option maxRecDepth 100000 in
theorem xk_361 : (Jvm.Cond.code ({ cls := "NailRules", name := "told", desc := "(II)I" } : Jvm.MethodName) prog_1_method_21_code (3 : Nat) (Option.some Jvm.ClassFile.FieldType.int)) ∈ lw_gd := xb_mem 361 rfl rfl
set_option maxRecDepth 100000 in
theorem xk_362 : (Jvm.Cond.methodLink "NailRulesLaw" (89 : Nat) ({ cls := "NailRulesLaw", name := "set", desc := "(LNailRules;II)I" } : Jvm.MethodName)) ∈ lw_gd := xb_mem 362 rfl rfl
set_option maxRecDepth 100000 in
theorem xk_363 : (Jvm.Cond.static ({ cls := "NailRulesLaw", name := "set", desc := "(LNailRules;II)I" } : Jvm.MethodName)) ∈ lw_gd := xb_mem 363 rfl rfl
set_option maxRecDepth 100000 in
theorem xk_364 : (Jvm.Cond.codeWith ({ cls := "NailRulesLaw", name := "set", desc := "(LNailRules;II)I" } : Jvm.MethodName) method_4_code (4 : Nat) (Option.some Jvm.ClassFile.FieldType.int) [((0 : Nat), (6 : Nat), (9 : Nat), (13 : Nat)), ((0 : Nat), (6 : Nat), (12 : Nat), (19 : Nat))]) ∈ lw_gd := xb_mem 364 rfl rfl
set_option maxRecDepth 100000 in
theorem xk_365 : (Jvm.Cond.classLink "NailRulesLaw" (19 : Nat) "java/lang/IllegalArgumentException") ∈ lw_gd := xb_mem 365 rfl rfl
set_option maxRecDepth 100000 in
theorem xk_366 : (Jvm.Cond.methodLink "NailRulesLaw" (15 : Nat) ({ cls := "NailRules", name := "set", desc := "(II)V" } : Jvm.MethodName)) ∈ lw_gd := xb_mem 366 rfl rfl
set_option maxRecDepth 100000 in
theorem xk_367 : (Jvm.Cond.instanceMethod ({ cls := "NailRules", name := "set", desc := "(II)V" } : Jvm.MethodName)) ∈ lw_gd := xb_mem 367 rfl rfl
set_option maxRecDepth 100000 in
theorem xk_368 : (Jvm.Cond.selects "NailRules" ({ cls := "NailRules", name := "set", desc := "(II)V" } : Jvm.MethodName) ({ cls := "NailRules", name := "set", desc := "(II)V" } : Jvm.MethodName)) ∈ lw_gd := xb_mem 368 rfl rfl
set_option maxRecDepth 100000 in
theorem xk_369 : (Jvm.Cond.code ({ cls := "NailRules", name := "set", desc := "(II)V" } : Jvm.MethodName) prog_1_method_5_code (3 : Nat) (Option.none : Option Jvm.ClassFile.FieldType)) ∈ lw_gd := xb_mem 369 rfl rfl
set_option maxRecDepth 100000 in
theorem xk_370 : (Jvm.Cond.constantLong "NailRules" (71 : Nat) (100 : Int64)) ∈ lw_gd := xb_mem 370 rfl rfl
set_option maxRecDepth 100000 in
theorem xk_371 : (Jvm.Cond.methodLink "NailRules" (73 : Nat) ({ cls := "NailRules", name := "requireWithin", desc := "(JJJ)V" } : Jvm.MethodName)) ∈ lw_gd := xb_mem 371 rfl rfl
set_option maxRecDepth 100000 in
theorem xk_372 : (Jvm.Cond.static ({ cls := "NailRules", name := "requireWithin", desc := "(JJJ)V" } : Jvm.MethodName)) ∈ lw_gd := xb_mem 372 rfl rfl
set_option maxRecDepth 100000 in
theorem xk_373 : (Jvm.Cond.code ({ cls := "NailRules", name := "requireWithin", desc := "(JJJ)V" } : Jvm.MethodName) prog_1_method_20_code (6 : Nat) (Option.none : Option Jvm.ClassFile.FieldType)) ∈ lw_gd := xb_mem 373 rfl rfl
set_option maxRecDepth 100000 in
theorem xk_374 : (Jvm.Cond.classLink "NailRules" (129 : Nat) "java/lang/IllegalArgumentException") ∈ lw_gd := xb_mem 374 rfl rfl
set_option maxRecDepth 100000 in
theorem xk_375 : (Jvm.Cond.instantiable "java/lang/IllegalArgumentException" (6 : Nat)) ∈ lw_gd := xb_mem 375 rfl rfl
set_option maxRecDepth 100000 in
theorem xk_376 : (Jvm.Cond.castable "java/lang/IllegalArgumentException" "java/lang/IllegalArgumentException") ∈ lw_tbl := List.mem_of_getElem? (i := 376) rfl
set_option maxRecDepth 100000 in
theorem xk_377 : (Jvm.Cond.selects "java/lang/IllegalArgumentException" ({ cls := "java/lang/Throwable", name := "fillInStackTrace", desc := "(I)Ljava/lang/Throwable;" } : Jvm.MethodName) ({ cls := "java/lang/Throwable", name := "fillInStackTrace", desc := "(I)Ljava/lang/Throwable;" } : Jvm.MethodName)) ∈ lw_gd := xb_mem 377 rfl rfl
set_option maxRecDepth 100000 in
theorem xk_378 : (Jvm.Cond.lays "java/lang/IllegalArgumentException" "java/lang/Throwable" "cause" "Ljava/lang/Throwable;") ∈ lw_gd := xb_mem 378 rfl rfl
set_option maxRecDepth 100000 in
theorem xk_379 : (Jvm.Cond.lays "java/lang/IllegalArgumentException" "java/lang/Throwable" "stackTrace" "[Ljava/lang/StackTraceElement;") ∈ lw_gd := xb_mem 379 rfl rfl
set_option maxRecDepth 100000 in
theorem xk_380 : (Jvm.Cond.lays "java/lang/IllegalArgumentException" "java/lang/Throwable" "suppressedExceptions" "Ljava/util/List;") ∈ lw_gd := xb_mem 380 rfl rfl
set_option maxRecDepth 100000 in
theorem xk_381 : (Jvm.Cond.lays "java/lang/IllegalArgumentException" "java/lang/Throwable" "detailMessage" "Ljava/lang/String;") ∈ lw_gd := xb_mem 381 rfl rfl
set_option maxRecDepth 100000 in
theorem xk_382 : (Jvm.Cond.lays "java/lang/IllegalArgumentException" "java/lang/Throwable" "backtrace" "Ljava/lang/Object;") ∈ lw_gd := xb_mem 382 rfl rfl
set_option maxRecDepth 100000 in
theorem xk_383 : (Jvm.Cond.stringRef "NailRules" (165 : Nat) "a number is not within its bounds") ∈ lw_tbl := List.mem_of_getElem? (i := 383) rfl
set_option maxRecDepth 100000 in
theorem xk_384 : (Jvm.Cond.methodLink "NailRules" (133 : Nat) ({ cls := "java/lang/IllegalArgumentException", name := "<init>", desc := "(Ljava/lang/String;)V" } : Jvm.MethodName)) ∈ lw_gd := xb_mem 384 rfl rfl
set_option maxRecDepth 100000 in
theorem xk_385 : (Jvm.Cond.instanceMethod ({ cls := "java/lang/IllegalArgumentException", name := "<init>", desc := "(Ljava/lang/String;)V" } : Jvm.MethodName)) ∈ lw_gd := xb_mem 385 rfl rfl
set_option maxRecDepth 100000 in
theorem xk_386 : (Jvm.Cond.code ({ cls := "java/lang/IllegalArgumentException", name := "<init>", desc := "(Ljava/lang/String;)V" } : Jvm.MethodName) prog_9_method_2_code (2 : Nat) (Option.none : Option Jvm.ClassFile.FieldType)) ∈ lw_gd := xb_mem 386 rfl rfl
set_option maxRecDepth 100000 in
theorem xk_387 : (Jvm.Cond.methodLink "java/lang/IllegalArgumentException" (7 : Nat) ({ cls := "java/lang/RuntimeException", name := "<init>", desc := "(Ljava/lang/String;)V" } : Jvm.MethodName)) ∈ lw_gd := xb_mem 387 rfl rfl
set_option maxRecDepth 100000 in
theorem xk_388 : (Jvm.Cond.lays "java/lang/IllegalArgumentException" "java/lang/Throwable" "depth" "I") ∈ lw_gd := xb_mem 388 rfl rfl
set_option maxRecDepth 100000 in
theorem xk_389 : (Jvm.Cond.superclass "java/lang/IllegalArgumentException" "java/lang/RuntimeException") ∈ lw_gd := xb_mem 389 rfl rfl
set_option maxRecDepth 100000 in
theorem xk_390 : (Jvm.Cond.methodLink "NailRulesLaw" (93 : Nat) ({ cls := "NailRulesLaw", name := "holds", desc := "(LNailRules;IIIII[J)I" } : Jvm.MethodName)) ∈ lw_gd := xb_mem 390 rfl rfl
set_option maxRecDepth 100000 in
theorem xk_391 : (Jvm.Cond.static ({ cls := "NailRulesLaw", name := "holds", desc := "(LNailRules;IIIII[J)I" } : Jvm.MethodName)) ∈ lw_gd := xb_mem 391 rfl rfl
set_option maxRecDepth 100000 in
theorem xk_392 : (Jvm.Cond.codeWith ({ cls := "NailRulesLaw", name := "holds", desc := "(LNailRules;IIIII[J)I" } : Jvm.MethodName) method_5_code (8 : Nat) (Option.some Jvm.ClassFile.FieldType.int) [((0 : Nat), (15 : Nat), (18 : Nat), (13 : Nat)), ((0 : Nat), (15 : Nat), (22 : Nat), (19 : Nat))]) ∈ lw_gd := xb_mem 392 rfl rfl
set_option maxRecDepth 100000 in
theorem xk_393 : (Jvm.Cond.methodLink "NailRulesLaw" (21 : Nat) ({ cls := "NailRules", name := "holds", desc := "(IIIII)J" } : Jvm.MethodName)) ∈ lw_gd := xb_mem 393 rfl rfl
set_option maxRecDepth 100000 in
theorem xk_394 : (Jvm.Cond.instanceMethod ({ cls := "NailRules", name := "holds", desc := "(IIIII)J" } : Jvm.MethodName)) ∈ lw_gd := xb_mem 394 rfl rfl
set_option maxRecDepth 100000 in
theorem xk_395 : (Jvm.Cond.selects "NailRules" ({ cls := "NailRules", name := "holds", desc := "(IIIII)J" } : Jvm.MethodName) ({ cls := "NailRules", name := "holds", desc := "(IIIII)J" } : Jvm.MethodName)) ∈ lw_gd := xb_mem 395 rfl rfl
set_option maxRecDepth 100000 in
theorem xk_396 : (Jvm.Cond.code ({ cls := "NailRules", name := "holds", desc := "(IIIII)J" } : Jvm.MethodName) prog_1_method_6_code (9 : Nat) (Option.some Jvm.ClassFile.FieldType.long)) ∈ lw_gd := xb_mem 396 rfl rfl
set_option maxRecDepth 100000 in
theorem xk_397 : (Jvm.Cond.constantLong "NailRules" (77 : Nat) (1000 : Int64)) ∈ lw_gd := xb_mem 397 rfl rfl
set_option maxRecDepth 100000 in
theorem xk_398 : (Jvm.Cond.constantLong "NailRules" (79 : Nat) (90 : Int64)) ∈ lw_gd := xb_mem 398 rfl rfl
set_option maxRecDepth 100000 in
theorem xk_399 : (Jvm.Cond.methodLink "NailRules" (81 : Nat) ({ cls := "NailRules", name := "leastFormula", desc := "(III)I" } : Jvm.MethodName)) ∈ lw_gd := xb_mem 399 rfl rfl
set_option maxRecDepth 100000 in
theorem xk_400 : (Jvm.Cond.privateMethod ({ cls := "NailRules", name := "leastFormula", desc := "(III)I" } : Jvm.MethodName)) ∈ lw_tbl := List.mem_of_getElem? (i := 400) rfl
set_option maxRecDepth 100000 in
theorem xk_401 : (Jvm.Cond.instanceMethod ({ cls := "NailRules", name := "leastFormula", desc := "(III)I" } : Jvm.MethodName)) ∈ lw_gd := xb_mem 401 rfl rfl
set_option maxRecDepth 100000 in
theorem xk_402 : (Jvm.Cond.code ({ cls := "NailRules", name := "leastFormula", desc := "(III)I" } : Jvm.MethodName) prog_1_method_25_code (6 : Nat) (Option.some Jvm.ClassFile.FieldType.int)) ∈ lw_gd := xb_mem 402 rfl rfl
set_option maxRecDepth 100000 in
theorem xk_403 : (Jvm.Cond.methodLink "NailRules" (85 : Nat) ({ cls := "NailRules", name := "formula", desc := "(IIII)J" } : Jvm.MethodName)) ∈ lw_gd := xb_mem 403 rfl rfl
set_option maxRecDepth 100000 in
theorem xk_404 : (Jvm.Cond.privateMethod ({ cls := "NailRules", name := "formula", desc := "(IIII)J" } : Jvm.MethodName)) ∈ lw_tbl := List.mem_of_getElem? (i := 404) rfl
set_option maxRecDepth 100000 in
theorem xk_405 : (Jvm.Cond.instanceMethod ({ cls := "NailRules", name := "formula", desc := "(IIII)J" } : Jvm.MethodName)) ∈ lw_gd := xb_mem 405 rfl rfl
set_option maxRecDepth 100000 in
theorem xk_406 : (Jvm.Cond.code ({ cls := "NailRules", name := "formula", desc := "(IIII)J" } : Jvm.MethodName) prog_1_method_26_code (9 : Nat) (Option.some Jvm.ClassFile.FieldType.long)) ∈ lw_gd := xb_mem 406 rfl rfl
set_option maxRecDepth 100000 in
theorem xk_407 : (Jvm.Cond.constantLong "NailRules" (193 : Nat) (2 : Int64)) ∈ lw_gd := xb_mem 407 rfl rfl
set_option maxRecDepth 100000 in
theorem xk_408 : (Jvm.Cond.constantLong "NailRules" (195 : Nat) (4 : Int64)) ∈ lw_gd := xb_mem 408 rfl rfl
set_option maxRecDepth 100000 in
theorem xk_409 : (Jvm.Cond.constantLong "NailRules" (89 : Nat) (200 : Int64)) ∈ lw_gd := xb_mem 409 rfl rfl
set_option maxRecDepth 100000 in
theorem xk_410 : (Jvm.Cond.methodLink "NailRulesLaw" (99 : Nat) ({ cls := "NailRulesLaw", name := "together", desc := "(LNailRules;IJ[J)I" } : Jvm.MethodName)) ∈ lw_gd := xb_mem 410 rfl rfl
set_option maxRecDepth 100000 in
theorem xk_411 : (Jvm.Cond.static ({ cls := "NailRulesLaw", name := "together", desc := "(LNailRules;IJ[J)I" } : Jvm.MethodName)) ∈ lw_gd := xb_mem 411 rfl rfl
set_option maxRecDepth 100000 in
theorem xk_412 : (Jvm.Cond.codeWith ({ cls := "NailRulesLaw", name := "together", desc := "(LNailRules;IJ[J)I" } : Jvm.MethodName) method_6_code (6 : Nat) (Option.some Jvm.ClassFile.FieldType.int) [((0 : Nat), (10 : Nat), (13 : Nat), (19 : Nat))]) ∈ lw_gd := xb_mem 412 rfl rfl
set_option maxRecDepth 100000 in
theorem xk_413 : (Jvm.Cond.methodLink "NailRulesLaw" (25 : Nat) ({ cls := "NailRules", name := "together", desc := "(IJ)J" } : Jvm.MethodName)) ∈ lw_gd := xb_mem 413 rfl rfl
set_option maxRecDepth 100000 in
theorem xk_414 : (Jvm.Cond.instanceMethod ({ cls := "NailRules", name := "together", desc := "(IJ)J" } : Jvm.MethodName)) ∈ lw_gd := xb_mem 414 rfl rfl
set_option maxRecDepth 100000 in
theorem xk_415 : (Jvm.Cond.selects "NailRules" ({ cls := "NailRules", name := "together", desc := "(IJ)J" } : Jvm.MethodName) ({ cls := "NailRules", name := "together", desc := "(IJ)J" } : Jvm.MethodName)) ∈ lw_gd := xb_mem 415 rfl rfl
set_option maxRecDepth 100000 in
theorem xk_416 : (Jvm.Cond.code ({ cls := "NailRules", name := "together", desc := "(IJ)J" } : Jvm.MethodName) prog_1_method_7_code (4 : Nat) (Option.some Jvm.ClassFile.FieldType.long)) ∈ lw_gd := xb_mem 416 rfl rfl
set_option maxRecDepth 100000 in
theorem xk_417 : (Jvm.Cond.constantLong "NailRules" (91 : Nat) (1000000000000 : Int64)) ∈ lw_gd := xb_mem 417 rfl rfl
set_option maxRecDepth 100000 in
theorem xk_418 : (Jvm.Cond.methodLink "NailRules" (93 : Nat) ({ cls := "NailRules", name := "heldByRow", desc := "(IJ)J" } : Jvm.MethodName)) ∈ lw_gd := xb_mem 418 rfl rfl
set_option maxRecDepth 100000 in
theorem xk_419 : (Jvm.Cond.privateMethod ({ cls := "NailRules", name := "heldByRow", desc := "(IJ)J" } : Jvm.MethodName)) ∈ lw_tbl := List.mem_of_getElem? (i := 419) rfl
set_option maxRecDepth 100000 in
theorem xk_420 : (Jvm.Cond.instanceMethod ({ cls := "NailRules", name := "heldByRow", desc := "(IJ)J" } : Jvm.MethodName)) ∈ lw_gd := xb_mem 420 rfl rfl
set_option maxRecDepth 100000 in
theorem xk_421 : (Jvm.Cond.code ({ cls := "NailRules", name := "heldByRow", desc := "(IJ)J" } : Jvm.MethodName) prog_1_method_27_code (5 : Nat) (Option.some Jvm.ClassFile.FieldType.long)) ∈ lw_gd := xb_mem 421 rfl rfl
set_option maxRecDepth 100000 in
theorem xk_422 : (Jvm.Cond.methodLink "NailRules" (197 : Nat) ({ cls := "java/lang/Math", name := "max", desc := "(II)I" } : Jvm.MethodName)) ∈ lw_gd := xb_mem 422 rfl rfl
set_option maxRecDepth 100000 in
theorem xk_423 : (Jvm.Cond.methodLink "NailRulesLaw" (103 : Nat) ({ cls := "NailRulesLaw", name := "count", desc := "(LNailRules;JJ[J)I" } : Jvm.MethodName)) ∈ lw_gd := xb_mem 423 rfl rfl
set_option maxRecDepth 100000 in
theorem xk_424 : (Jvm.Cond.static ({ cls := "NailRulesLaw", name := "count", desc := "(LNailRules;JJ[J)I" } : Jvm.MethodName)) ∈ lw_gd := xb_mem 424 rfl rfl
set_option maxRecDepth 100000 in
theorem xk_425 : (Jvm.Cond.codeWith ({ cls := "NailRulesLaw", name := "count", desc := "(LNailRules;JJ[J)I" } : Jvm.MethodName) method_7_code (7 : Nat) (Option.some Jvm.ClassFile.FieldType.int) [((0 : Nat), (11 : Nat), (14 : Nat), (19 : Nat))]) ∈ lw_gd := xb_mem 425 rfl rfl
set_option maxRecDepth 100000 in
theorem xk_426 : (Jvm.Cond.methodLink "NailRulesLaw" (29 : Nat) ({ cls := "NailRules", name := "count", desc := "(JJ)I" } : Jvm.MethodName)) ∈ lw_gd := xb_mem 426 rfl rfl
set_option maxRecDepth 100000 in
theorem xk_427 : (Jvm.Cond.instanceMethod ({ cls := "NailRules", name := "count", desc := "(JJ)I" } : Jvm.MethodName)) ∈ lw_gd := xb_mem 427 rfl rfl
set_option maxRecDepth 100000 in
theorem xk_428 : (Jvm.Cond.selects "NailRules" ({ cls := "NailRules", name := "count", desc := "(JJ)I" } : Jvm.MethodName) ({ cls := "NailRules", name := "count", desc := "(JJ)I" } : Jvm.MethodName)) ∈ lw_gd := xb_mem 428 rfl rfl
set_option maxRecDepth 100000 in
theorem xk_429 : (Jvm.Cond.code ({ cls := "NailRules", name := "count", desc := "(JJ)I" } : Jvm.MethodName) prog_1_method_8_code (6 : Nat) (Option.some Jvm.ClassFile.FieldType.int)) ∈ lw_gd := xb_mem 429 rfl rfl
set_option maxRecDepth 100000 in
theorem xk_430 : (Jvm.Cond.methodLink "NailRulesLaw" (107 : Nat) ({ cls := "NailRulesLaw", name := "pattern", desc := "(LNailRules;IIII[J)I" } : Jvm.MethodName)) ∈ lw_gd := xb_mem 430 rfl rfl
set_option maxRecDepth 100000 in
theorem xk_431 : (Jvm.Cond.static ({ cls := "NailRulesLaw", name := "pattern", desc := "(LNailRules;IIII[J)I" } : Jvm.MethodName)) ∈ lw_gd := xb_mem 431 rfl rfl
set_option maxRecDepth 100000 in
theorem xk_432 : (Jvm.Cond.codeWith ({ cls := "NailRulesLaw", name := "pattern", desc := "(LNailRules;IIII[J)I" } : Jvm.MethodName) method_8_code (7 : Nat) (Option.some Jvm.ClassFile.FieldType.int) [((0 : Nat), (21 : Nat), (24 : Nat), (13 : Nat)), ((0 : Nat), (21 : Nat), (28 : Nat), (19 : Nat))]) ∈ lw_gd := xb_mem 432 rfl rfl
set_option maxRecDepth 100000 in
theorem xk_433 : (Jvm.Cond.methodLink "NailRulesLaw" (33 : Nat) ({ cls := "NailRules", name := "pattern", desc := "(IIII)Z" } : Jvm.MethodName)) ∈ lw_gd := xb_mem 433 rfl rfl
set_option maxRecDepth 100000 in
theorem xk_434 : (Jvm.Cond.instanceMethod ({ cls := "NailRules", name := "pattern", desc := "(IIII)Z" } : Jvm.MethodName)) ∈ lw_gd := xb_mem 434 rfl rfl
set_option maxRecDepth 100000 in
theorem xk_435 : (Jvm.Cond.selects "NailRules" ({ cls := "NailRules", name := "pattern", desc := "(IIII)Z" } : Jvm.MethodName) ({ cls := "NailRules", name := "pattern", desc := "(IIII)Z" } : Jvm.MethodName)) ∈ lw_gd := xb_mem 435 rfl rfl
set_option maxRecDepth 100000 in
theorem xk_436 : (Jvm.Cond.code ({ cls := "NailRules", name := "pattern", desc := "(IIII)Z" } : Jvm.MethodName) prog_1_method_9_code (7 : Nat) (Option.some Jvm.ClassFile.FieldType.boolean)) ∈ lw_gd := xb_mem 436 rfl rfl
set_option maxRecDepth 100000 in
theorem xk_437 : (Jvm.Cond.constantLong "NailRules" (97 : Nat) (100000 : Int64)) ∈ lw_gd := xb_mem 437 rfl rfl
set_option maxRecDepth 100000 in
theorem xk_438 : (Jvm.Cond.methodLink "NailRules" (99 : Nat) ({ cls := "NailRules", name := "space", desc := "(II)I" } : Jvm.MethodName)) ∈ lw_gd := xb_mem 438 rfl rfl
set_option maxRecDepth 100000 in
theorem xk_439 : (Jvm.Cond.privateMethod ({ cls := "NailRules", name := "space", desc := "(II)I" } : Jvm.MethodName)) ∈ lw_tbl := List.mem_of_getElem? (i := 439) rfl
set_option maxRecDepth 100000 in
theorem xk_440 : (Jvm.Cond.instanceMethod ({ cls := "NailRules", name := "space", desc := "(II)I" } : Jvm.MethodName)) ∈ lw_gd := xb_mem 440 rfl rfl
set_option maxRecDepth 100000 in
theorem xk_441 : (Jvm.Cond.code ({ cls := "NailRules", name := "space", desc := "(II)I" } : Jvm.MethodName) prog_1_method_22_code (3 : Nat) (Option.some Jvm.ClassFile.FieldType.int)) ∈ lw_gd := xb_mem 441 rfl rfl
set_option maxRecDepth 100000 in
theorem xk_442 : (Jvm.Cond.methodLink "NailRules" (102 : Nat) ({ cls := "NailRules", name := "fitting", desc := "(III)I" } : Jvm.MethodName)) ∈ lw_gd := xb_mem 442 rfl rfl
set_option maxRecDepth 100000 in
theorem xk_443 : (Jvm.Cond.static ({ cls := "NailRules", name := "fitting", desc := "(III)I" } : Jvm.MethodName)) ∈ lw_gd := xb_mem 443 rfl rfl
set_option maxRecDepth 100000 in
theorem xk_444 : (Jvm.Cond.code ({ cls := "NailRules", name := "fitting", desc := "(III)I" } : Jvm.MethodName) prog_1_method_28_code (4 : Nat) (Option.some Jvm.ClassFile.FieldType.int)) ∈ lw_gd := xb_mem 444 rfl rfl
set_option maxRecDepth 100000 in
theorem xk_445 : (Jvm.Cond.methodLink "NailRules" (105 : Nat) ({ cls := "NailRules", name := "layOut", desc := "(III)V" } : Jvm.MethodName)) ∈ lw_gd := xb_mem 445 rfl rfl
set_option maxRecDepth 100000 in
theorem xk_446 : (Jvm.Cond.privateMethod ({ cls := "NailRules", name := "layOut", desc := "(III)V" } : Jvm.MethodName)) ∈ lw_tbl := List.mem_of_getElem? (i := 446) rfl
set_option maxRecDepth 100000 in
theorem xk_447 : (Jvm.Cond.instanceMethod ({ cls := "NailRules", name := "layOut", desc := "(III)V" } : Jvm.MethodName)) ∈ lw_gd := xb_mem 447 rfl rfl
set_option maxRecDepth 100000 in
theorem xk_448 : (Jvm.Cond.code ({ cls := "NailRules", name := "layOut", desc := "(III)V" } : Jvm.MethodName) prog_1_method_29_code (7 : Nat) (Option.none : Option Jvm.ClassFile.FieldType)) ∈ lw_gd := xb_mem 448 rfl rfl
set_option maxRecDepth 100000 in
theorem xk_449 : (Jvm.Cond.methodLink "NailRulesLaw" (111 : Nat) ({ cls := "NailRulesLaw", name := "at", desc := "(LNailRules;II[J)I" } : Jvm.MethodName)) ∈ lw_gd := xb_mem 449 rfl rfl
set_option maxRecDepth 100000 in
theorem xk_450 : (Jvm.Cond.static ({ cls := "NailRulesLaw", name := "at", desc := "(LNailRules;II[J)I" } : Jvm.MethodName)) ∈ lw_gd := xb_mem 450 rfl rfl
set_option maxRecDepth 100000 in
theorem xk_451 : (Jvm.Cond.codeWith ({ cls := "NailRulesLaw", name := "at", desc := "(LNailRules;II[J)I" } : Jvm.MethodName) method_9_code (5 : Nat) (Option.some Jvm.ClassFile.FieldType.int) [((0 : Nat), (10 : Nat), (13 : Nat), (40 : Nat)), ((0 : Nat), (10 : Nat), (17 : Nat), (13 : Nat))]) ∈ lw_gd := xb_mem 451 rfl rfl
set_option maxRecDepth 100000 in
theorem xk_452 : (Jvm.Cond.classLink "NailRulesLaw" (40 : Nat) "java/lang/IllegalStateException") ∈ lw_gd := xb_mem 452 rfl rfl
set_option maxRecDepth 100000 in
theorem xk_453 : (Jvm.Cond.methodLink "NailRulesLaw" (37 : Nat) ({ cls := "NailRules", name := "at", desc := "(II)I" } : Jvm.MethodName)) ∈ lw_gd := xb_mem 453 rfl rfl
set_option maxRecDepth 100000 in
theorem xk_454 : (Jvm.Cond.instanceMethod ({ cls := "NailRules", name := "at", desc := "(II)I" } : Jvm.MethodName)) ∈ lw_gd := xb_mem 454 rfl rfl
set_option maxRecDepth 100000 in
theorem xk_455 : (Jvm.Cond.selects "NailRules" ({ cls := "NailRules", name := "at", desc := "(II)I" } : Jvm.MethodName) ({ cls := "NailRules", name := "at", desc := "(II)I" } : Jvm.MethodName)) ∈ lw_gd := xb_mem 455 rfl rfl
set_option maxRecDepth 100000 in
theorem xk_456 : (Jvm.Cond.code ({ cls := "NailRules", name := "at", desc := "(II)I" } : Jvm.MethodName) prog_1_method_10_code (3 : Nat) (Option.some Jvm.ClassFile.FieldType.int)) ∈ lw_gd := xb_mem 456 rfl rfl
set_option maxRecDepth 100000 in
theorem xk_457 : (Jvm.Cond.classLink "NailRules" (109 : Nat) "java/lang/IllegalStateException") ∈ lw_gd := xb_mem 457 rfl rfl
set_option maxRecDepth 100000 in
theorem xk_458 : (Jvm.Cond.instantiable "java/lang/IllegalStateException" (6 : Nat)) ∈ lw_gd := xb_mem 458 rfl rfl
set_option maxRecDepth 100000 in
theorem xk_459 : (Jvm.Cond.castable "java/lang/IllegalStateException" "java/lang/IllegalStateException") ∈ lw_tbl := List.mem_of_getElem? (i := 459) rfl
set_option maxRecDepth 100000 in
theorem xk_460 : (Jvm.Cond.selects "java/lang/IllegalStateException" ({ cls := "java/lang/Throwable", name := "fillInStackTrace", desc := "(I)Ljava/lang/Throwable;" } : Jvm.MethodName) ({ cls := "java/lang/Throwable", name := "fillInStackTrace", desc := "(I)Ljava/lang/Throwable;" } : Jvm.MethodName)) ∈ lw_gd := xb_mem 460 rfl rfl
set_option maxRecDepth 100000 in
theorem xk_461 : (Jvm.Cond.lays "java/lang/IllegalStateException" "java/lang/Throwable" "cause" "Ljava/lang/Throwable;") ∈ lw_gd := xb_mem 461 rfl rfl
set_option maxRecDepth 100000 in
theorem xk_462 : (Jvm.Cond.lays "java/lang/IllegalStateException" "java/lang/Throwable" "stackTrace" "[Ljava/lang/StackTraceElement;") ∈ lw_gd := xb_mem 462 rfl rfl
set_option maxRecDepth 100000 in
theorem xk_463 : (Jvm.Cond.lays "java/lang/IllegalStateException" "java/lang/Throwable" "suppressedExceptions" "Ljava/util/List;") ∈ lw_gd := xb_mem 463 rfl rfl
set_option maxRecDepth 100000 in
theorem xk_464 : (Jvm.Cond.lays "java/lang/IllegalStateException" "java/lang/Throwable" "detailMessage" "Ljava/lang/String;") ∈ lw_gd := xb_mem 464 rfl rfl
set_option maxRecDepth 100000 in
theorem xk_465 : (Jvm.Cond.lays "java/lang/IllegalStateException" "java/lang/Throwable" "backtrace" "Ljava/lang/Object;") ∈ lw_gd := xb_mem 465 rfl rfl
set_option maxRecDepth 100000 in
theorem xk_466 : (Jvm.Cond.stringRef "NailRules" (111 : Nat) "there is no pattern") ∈ lw_tbl := List.mem_of_getElem? (i := 466) rfl
set_option maxRecDepth 100000 in
theorem xk_467 : (Jvm.Cond.methodLink "NailRules" (113 : Nat) ({ cls := "java/lang/IllegalStateException", name := "<init>", desc := "(Ljava/lang/String;)V" } : Jvm.MethodName)) ∈ lw_gd := xb_mem 467 rfl rfl
set_option maxRecDepth 100000 in
theorem xk_468 : (Jvm.Cond.instanceMethod ({ cls := "java/lang/IllegalStateException", name := "<init>", desc := "(Ljava/lang/String;)V" } : Jvm.MethodName)) ∈ lw_gd := xb_mem 468 rfl rfl
set_option maxRecDepth 100000 in
theorem xk_469 : (Jvm.Cond.code ({ cls := "java/lang/IllegalStateException", name := "<init>", desc := "(Ljava/lang/String;)V" } : Jvm.MethodName) prog_10_method_2_code (2 : Nat) (Option.none : Option Jvm.ClassFile.FieldType)) ∈ lw_gd := xb_mem 469 rfl rfl
set_option maxRecDepth 100000 in
theorem xk_470 : (Jvm.Cond.methodLink "java/lang/IllegalStateException" (7 : Nat) ({ cls := "java/lang/RuntimeException", name := "<init>", desc := "(Ljava/lang/String;)V" } : Jvm.MethodName)) ∈ lw_gd := xb_mem 470 rfl rfl
set_option maxRecDepth 100000 in
theorem xk_471 : (Jvm.Cond.lays "java/lang/IllegalStateException" "java/lang/Throwable" "depth" "I") ∈ lw_gd := xb_mem 471 rfl rfl
set_option maxRecDepth 100000 in
theorem xk_472 : (Jvm.Cond.superclass "java/lang/IllegalStateException" "java/lang/RuntimeException") ∈ lw_gd := xb_mem 472 rfl rfl
set_option maxRecDepth 100000 in
theorem xk_473 : (Jvm.Cond.methodLink "NailRulesLaw" (114 : Nat) ({ cls := "NailRulesLaw", name := "place", desc := "(LNailRules;II[J)I" } : Jvm.MethodName)) ∈ lw_gd := xb_mem 473 rfl rfl
set_option maxRecDepth 100000 in
theorem xk_474 : (Jvm.Cond.static ({ cls := "NailRulesLaw", name := "place", desc := "(LNailRules;II[J)I" } : Jvm.MethodName)) ∈ lw_gd := xb_mem 474 rfl rfl
set_option maxRecDepth 100000 in
theorem xk_475 : (Jvm.Cond.codeWith ({ cls := "NailRulesLaw", name := "place", desc := "(LNailRules;II[J)I" } : Jvm.MethodName) method_10_code (5 : Nat) (Option.some Jvm.ClassFile.FieldType.int) [((0 : Nat), (10 : Nat), (13 : Nat), (19 : Nat)), ((0 : Nat), (10 : Nat), (17 : Nat), (40 : Nat))]) ∈ lw_gd := xb_mem 475 rfl rfl
set_option maxRecDepth 100000 in
theorem xk_476 : (Jvm.Cond.methodLink "NailRulesLaw" (42 : Nat) ({ cls := "NailRules", name := "place", desc := "(II)I" } : Jvm.MethodName)) ∈ lw_gd := xb_mem 476 rfl rfl
set_option maxRecDepth 100000 in
theorem xk_477 : (Jvm.Cond.instanceMethod ({ cls := "NailRules", name := "place", desc := "(II)I" } : Jvm.MethodName)) ∈ lw_gd := xb_mem 477 rfl rfl
set_option maxRecDepth 100000 in
theorem xk_478 : (Jvm.Cond.selects "NailRules" ({ cls := "NailRules", name := "place", desc := "(II)I" } : Jvm.MethodName) ({ cls := "NailRules", name := "place", desc := "(II)I" } : Jvm.MethodName)) ∈ lw_gd := xb_mem 478 rfl rfl
set_option maxRecDepth 100000 in
theorem xk_479 : (Jvm.Cond.code ({ cls := "NailRules", name := "place", desc := "(II)I" } : Jvm.MethodName) prog_1_method_11_code (3 : Nat) (Option.some Jvm.ClassFile.FieldType.int)) ∈ lw_gd := xb_mem 479 rfl rfl
set_option maxRecDepth 100000 in
theorem xk_480 : (Jvm.Cond.stringRef "NailRules" (116 : Nat) "there is no room for a place") ∈ lw_tbl := List.mem_of_getElem? (i := 480) rfl
set_option maxRecDepth 100000 in
theorem xk_481 : (Jvm.Cond.methodLink "NailRulesLaw" (121 : Nat) ({ cls := "NailRulesLaw", name := "keeps", desc := "(LNailRules;III[J)I" } : Jvm.MethodName)) ∈ lw_gd := xb_mem 481 rfl rfl
set_option maxRecDepth 100000 in
theorem xk_482 : (Jvm.Cond.static ({ cls := "NailRulesLaw", name := "keeps", desc := "(LNailRules;III[J)I" } : Jvm.MethodName)) ∈ lw_gd := xb_mem 482 rfl rfl
set_option maxRecDepth 100000 in
theorem xk_483 : (Jvm.Cond.codeWith ({ cls := "NailRulesLaw", name := "keeps", desc := "(LNailRules;III[J)I" } : Jvm.MethodName) method_11_code (6 : Nat) (Option.some Jvm.ClassFile.FieldType.int) [((0 : Nat), (12 : Nat), (15 : Nat), (13 : Nat)), ((0 : Nat), (12 : Nat), (19 : Nat), (19 : Nat))]) ∈ lw_gd := xb_mem 483 rfl rfl
set_option maxRecDepth 100000 in
theorem xk_484 : (Jvm.Cond.methodLink "NailRulesLaw" (45 : Nat) ({ cls := "NailRules", name := "keeps", desc := "(III)I" } : Jvm.MethodName)) ∈ lw_gd := xb_mem 484 rfl rfl
set_option maxRecDepth 100000 in
theorem xk_485 : (Jvm.Cond.instanceMethod ({ cls := "NailRules", name := "keeps", desc := "(III)I" } : Jvm.MethodName)) ∈ lw_gd := xb_mem 485 rfl rfl
set_option maxRecDepth 100000 in
theorem xk_486 : (Jvm.Cond.selects "NailRules" ({ cls := "NailRules", name := "keeps", desc := "(III)I" } : Jvm.MethodName) ({ cls := "NailRules", name := "keeps", desc := "(III)I" } : Jvm.MethodName)) ∈ lw_gd := xb_mem 486 rfl rfl
set_option maxRecDepth 100000 in
theorem xk_487 : (Jvm.Cond.code ({ cls := "NailRules", name := "keeps", desc := "(III)I" } : Jvm.MethodName) prog_1_method_13_code (6 : Nat) (Option.some Jvm.ClassFile.FieldType.int)) ∈ lw_gd := xb_mem 487 rfl rfl
set_option maxRecDepth 100000 in
theorem xk_488 : (Jvm.Cond.methodLink "NailRules" (118 : Nat) ({ cls := "NailRules", name := "firstNearSide", desc := "(III)I" } : Jvm.MethodName)) ∈ lw_gd := xb_mem 488 rfl rfl
set_option maxRecDepth 100000 in
theorem xk_489 : (Jvm.Cond.privateMethod ({ cls := "NailRules", name := "firstNearSide", desc := "(III)I" } : Jvm.MethodName)) ∈ lw_tbl := List.mem_of_getElem? (i := 489) rfl
set_option maxRecDepth 100000 in
theorem xk_490 : (Jvm.Cond.instanceMethod ({ cls := "NailRules", name := "firstNearSide", desc := "(III)I" } : Jvm.MethodName)) ∈ lw_gd := xb_mem 490 rfl rfl
set_option maxRecDepth 100000 in
theorem xk_491 : (Jvm.Cond.code ({ cls := "NailRules", name := "firstNearSide", desc := "(III)I" } : Jvm.MethodName) prog_1_method_30_code (9 : Nat) (Option.some Jvm.ClassFile.FieldType.int)) ∈ lw_gd := xb_mem 491 rfl rfl
set_option maxRecDepth 100000 in
theorem xk_492 : (Jvm.Cond.methodLink "NailRules" (202 : Nat) ({ cls := "java/lang/Math", name := "min", desc := "(II)I" } : Jvm.MethodName)) ∈ lw_gd := xb_mem 492 rfl rfl
set_option maxRecDepth 100000 in
theorem xk_493 : (Jvm.Cond.static ({ cls := "java/lang/Math", name := "min", desc := "(II)I" } : Jvm.MethodName)) ∈ lw_gd := xb_mem 493 rfl rfl
set_option maxRecDepth 100000 in
theorem xk_494 : (Jvm.Cond.code ({ cls := "java/lang/Math", name := "min", desc := "(II)I" } : Jvm.MethodName) prog_13_method_69_code (2 : Nat) (Option.some Jvm.ClassFile.FieldType.int)) ∈ lw_gd := xb_mem 494 rfl rfl
set_option maxRecDepth 100000 in
theorem xk_495 : (Jvm.Cond.methodLink "NailRules" (121 : Nat) ({ cls := "NailRules", name := "firstNearPair", desc := "(J)I" } : Jvm.MethodName)) ∈ lw_gd := xb_mem 495 rfl rfl
set_option maxRecDepth 100000 in
theorem xk_496 : (Jvm.Cond.privateMethod ({ cls := "NailRules", name := "firstNearPair", desc := "(J)I" } : Jvm.MethodName)) ∈ lw_tbl := List.mem_of_getElem? (i := 496) rfl
set_option maxRecDepth 100000 in
theorem xk_497 : (Jvm.Cond.instanceMethod ({ cls := "NailRules", name := "firstNearPair", desc := "(J)I" } : Jvm.MethodName)) ∈ lw_gd := xb_mem 497 rfl rfl
set_option maxRecDepth 100000 in
theorem xk_498 : (Jvm.Cond.code ({ cls := "NailRules", name := "firstNearPair", desc := "(J)I" } : Jvm.MethodName) prog_1_method_31_code (5 : Nat) (Option.some Jvm.ClassFile.FieldType.int)) ∈ lw_gd := xb_mem 498 rfl rfl
set_option maxRecDepth 100000 in
theorem xk_499 : (Jvm.Cond.methodLink "NailRules" (205 : Nat) ({ cls := "NailRules", name := "squareBetween", desc := "(II)J" } : Jvm.MethodName)) ∈ lw_gd := xb_mem 499 rfl rfl
set_option maxRecDepth 100000 in
theorem xk_500 : (Jvm.Cond.privateMethod ({ cls := "NailRules", name := "squareBetween", desc := "(II)J" } : Jvm.MethodName)) ∈ lw_tbl := List.mem_of_getElem? (i := 500) rfl
set_option maxRecDepth 100000 in
theorem xk_501 : (Jvm.Cond.instanceMethod ({ cls := "NailRules", name := "squareBetween", desc := "(II)J" } : Jvm.MethodName)) ∈ lw_gd := xb_mem 501 rfl rfl
set_option maxRecDepth 100000 in
theorem xk_502 : (Jvm.Cond.code ({ cls := "NailRules", name := "squareBetween", desc := "(II)J" } : Jvm.MethodName) prog_1_method_32_code (7 : Nat) (Option.some Jvm.ClassFile.FieldType.long)) ∈ lw_gd := xb_mem 502 rfl rfl
set_option maxRecDepth 100000 in
theorem xk_503 : (Jvm.Cond.methodLink "NailRulesLaw" (125 : Nat) ({ cls := "NailRulesLaw", name := "member", desc := "(LNailRules;IIIII[J)I" } : Jvm.MethodName)) ∈ lw_gd := xb_mem 503 rfl rfl
set_option maxRecDepth 100000 in
theorem xk_504 : (Jvm.Cond.static ({ cls := "NailRulesLaw", name := "member", desc := "(LNailRules;IIIII[J)I" } : Jvm.MethodName)) ∈ lw_gd := xb_mem 504 rfl rfl
set_option maxRecDepth 100000 in
theorem xk_505 : (Jvm.Cond.codeWith ({ cls := "NailRulesLaw", name := "member", desc := "(LNailRules;IIIII[J)I" } : Jvm.MethodName) method_12_code (8 : Nat) (Option.some Jvm.ClassFile.FieldType.int) [((0 : Nat), (16 : Nat), (19 : Nat), (19 : Nat)), ((0 : Nat), (16 : Nat), (23 : Nat), (40 : Nat))]) ∈ lw_gd := xb_mem 505 rfl rfl
set_option maxRecDepth 100000 in
theorem xk_506 : (Jvm.Cond.methodLink "NailRulesLaw" (49 : Nat) ({ cls := "NailRules", name := "member", desc := "(IIIII)I" } : Jvm.MethodName)) ∈ lw_gd := xb_mem 506 rfl rfl
set_option maxRecDepth 100000 in
theorem xk_507 : (Jvm.Cond.instanceMethod ({ cls := "NailRules", name := "member", desc := "(IIIII)I" } : Jvm.MethodName)) ∈ lw_gd := xb_mem 507 rfl rfl
set_option maxRecDepth 100000 in
theorem xk_508 : (Jvm.Cond.selects "NailRules" ({ cls := "NailRules", name := "member", desc := "(IIIII)I" } : Jvm.MethodName) ({ cls := "NailRules", name := "member", desc := "(IIIII)I" } : Jvm.MethodName)) ∈ lw_gd := xb_mem 508 rfl rfl
set_option maxRecDepth 100000 in
theorem xk_509 : (Jvm.Cond.code ({ cls := "NailRules", name := "member", desc := "(IIIII)I" } : Jvm.MethodName) prog_1_method_14_code (6 : Nat) (Option.some Jvm.ClassFile.FieldType.int)) ∈ lw_gd := xb_mem 509 rfl rfl
set_option maxRecDepth 100000 in
theorem xk_510 : (Jvm.Cond.constantLong "NailRules" (125 : Nat) (-10000 : Int64)) ∈ lw_gd := xb_mem 510 rfl rfl
set_option maxRecDepth 100000 in
theorem xk_511 : (Jvm.Cond.constantLong "NailRules" (127 : Nat) (10000 : Int64)) ∈ lw_gd := xb_mem 511 rfl rfl
set_option maxRecDepth 100000 in
theorem xk_512 : (Jvm.Cond.stringRef "NailRules" (131 : Nat) "both ends are one") ∈ lw_tbl := List.mem_of_getElem? (i := 512) rfl
set_option maxRecDepth 100000 in
theorem xk_513 : (Jvm.Cond.methodLink "NailRules" (134 : Nat) ({ cls := "java/util/ArrayList", name := "size", desc := "()I" } : Jvm.MethodName)) ∈ lw_gd := xb_mem 513 rfl rfl
set_option maxRecDepth 100000 in
theorem xk_514 : (Jvm.Cond.instanceMethod ({ cls := "java/util/ArrayList", name := "size", desc := "()I" } : Jvm.MethodName)) ∈ lw_gd := xb_mem 514 rfl rfl
set_option maxRecDepth 100000 in
theorem xk_515 : (Jvm.Cond.selects "java/util/ArrayList" ({ cls := "java/util/ArrayList", name := "size", desc := "()I" } : Jvm.MethodName) ({ cls := "java/util/ArrayList", name := "size", desc := "()I" } : Jvm.MethodName)) ∈ lw_gd := xb_mem 515 rfl rfl
set_option maxRecDepth 100000 in
theorem xk_516 : (Jvm.Cond.code ({ cls := "java/util/ArrayList", name := "size", desc := "()I" } : Jvm.MethodName) prog_22_method_8_code (1 : Nat) (Option.some Jvm.ClassFile.FieldType.int)) ∈ lw_gd := xb_mem 516 rfl rfl
set_option maxRecDepth 100000 in
theorem xk_517 : (Jvm.Cond.stringRef "NailRules" (137 : Nat) "there is no room for a member") ∈ lw_tbl := List.mem_of_getElem? (i := 517) rfl
set_option maxRecDepth 100000 in
theorem xk_518 : (Jvm.Cond.classLink "NailRules" (139 : Nat) "NailRules$Member") ∈ lw_gd := xb_mem 518 rfl rfl
set_option maxRecDepth 100000 in
theorem xk_519 : (Jvm.Cond.instantiable "NailRules$Member" (5 : Nat)) ∈ lw_gd := xb_mem 519 rfl rfl
set_option maxRecDepth 100000 in
theorem xk_520 : (Jvm.Cond.methodLinkNest "NailRules" (141 : Nat) ({ cls := "NailRules$Member", name := "<init>", desc := "(IIIII)V" } : Jvm.MethodName) "NailRules") ∈ lw_tbl := List.mem_of_getElem? (i := 520) rfl
set_option maxRecDepth 100000 in
theorem xk_521 : (Jvm.Cond.instanceMethod ({ cls := "NailRules$Member", name := "<init>", desc := "(IIIII)V" } : Jvm.MethodName)) ∈ lw_gd := xb_mem 521 rfl rfl
set_option maxRecDepth 100000 in
theorem xk_522 : (Jvm.Cond.code ({ cls := "NailRules$Member", name := "<init>", desc := "(IIIII)V" } : Jvm.MethodName) prog_2_method_1_code (6 : Nat) (Option.none : Option Jvm.ClassFile.FieldType)) ∈ lw_gd := xb_mem 522 rfl rfl
set_option maxRecDepth 100000 in
theorem xk_523 : (Jvm.Cond.methodLink "NailRules$Member" (1 : Nat) ({ cls := "java/lang/Object", name := "<init>", desc := "()V" } : Jvm.MethodName)) ∈ lw_gd := xb_mem 523 rfl rfl
set_option maxRecDepth 100000 in
theorem xk_524 : (Jvm.Cond.fieldLink "NailRules$Member" (7 : Nat) "NailRules$Member" "x0" "J") ∈ lw_gd := xb_mem 524 rfl rfl
set_option maxRecDepth 100000 in
theorem xk_525 : (Jvm.Cond.fieldLink "NailRules$Member" (13 : Nat) "NailRules$Member" "y0" "J") ∈ lw_gd := xb_mem 525 rfl rfl
set_option maxRecDepth 100000 in
theorem xk_526 : (Jvm.Cond.fieldLink "NailRules$Member" (16 : Nat) "NailRules$Member" "alongX" "J") ∈ lw_gd := xb_mem 526 rfl rfl
set_option maxRecDepth 100000 in
theorem xk_527 : (Jvm.Cond.fieldLink "NailRules$Member" (19 : Nat) "NailRules$Member" "alongY" "J") ∈ lw_gd := xb_mem 527 rfl rfl
set_option maxRecDepth 100000 in
theorem xk_528 : (Jvm.Cond.fieldLink "NailRules$Member" (22 : Nat) "NailRules$Member" "wide" "J") ∈ lw_gd := xb_mem 528 rfl rfl
set_option maxRecDepth 100000 in
theorem xk_529 : (Jvm.Cond.laysFinal "NailRules$Member" "NailRules$Member" "x0" "J") ∈ lw_gd := xb_mem 529 rfl rfl
set_option maxRecDepth 100000 in
theorem xk_530 : (Jvm.Cond.soleField "NailRules$Member" "x0") ∈ lw_gd := xb_mem 530 rfl rfl
set_option maxRecDepth 100000 in
theorem xk_531 : (Jvm.Cond.laysFinal "NailRules$Member" "NailRules$Member" "y0" "J") ∈ lw_gd := xb_mem 531 rfl rfl
set_option maxRecDepth 100000 in
theorem xk_532 : (Jvm.Cond.soleField "NailRules$Member" "y0") ∈ lw_gd := xb_mem 532 rfl rfl
set_option maxRecDepth 100000 in
theorem xk_533 : (Jvm.Cond.laysFinal "NailRules$Member" "NailRules$Member" "alongX" "J") ∈ lw_gd := xb_mem 533 rfl rfl
set_option maxRecDepth 100000 in
theorem xk_534 : (Jvm.Cond.soleField "NailRules$Member" "alongX") ∈ lw_gd := xb_mem 534 rfl rfl
set_option maxRecDepth 100000 in
theorem xk_535 : (Jvm.Cond.laysFinal "NailRules$Member" "NailRules$Member" "alongY" "J") ∈ lw_gd := xb_mem 535 rfl rfl
set_option maxRecDepth 100000 in
theorem xk_536 : (Jvm.Cond.soleField "NailRules$Member" "alongY") ∈ lw_gd := xb_mem 536 rfl rfl
set_option maxRecDepth 100000 in
theorem xk_537 : (Jvm.Cond.laysFinal "NailRules$Member" "NailRules$Member" "wide" "J") ∈ lw_gd := xb_mem 537 rfl rfl
set_option maxRecDepth 100000 in
theorem xk_538 : (Jvm.Cond.soleField "NailRules$Member" "wide") ∈ lw_gd := xb_mem 538 rfl rfl
set_option maxRecDepth 100000 in
theorem xk_539 : (Jvm.Cond.superclass "NailRules$Member" "java/lang/Object") ∈ lw_gd := xb_mem 539 rfl rfl
set_option maxRecDepth 100000 in
theorem xk_540 : (Jvm.Cond.methodLink "NailRules" (144 : Nat) ({ cls := "java/util/ArrayList", name := "add", desc := "(Ljava/lang/Object;)Z" } : Jvm.MethodName)) ∈ lw_gd := xb_mem 540 rfl rfl
set_option maxRecDepth 100000 in
theorem xk_541 : (Jvm.Cond.instanceMethod ({ cls := "java/util/ArrayList", name := "add", desc := "(Ljava/lang/Object;)Z" } : Jvm.MethodName)) ∈ lw_gd := xb_mem 541 rfl rfl
set_option maxRecDepth 100000 in
theorem xk_542 : (Jvm.Cond.selects "java/util/ArrayList" ({ cls := "java/util/ArrayList", name := "add", desc := "(Ljava/lang/Object;)Z" } : Jvm.MethodName) ({ cls := "java/util/ArrayList", name := "add", desc := "(Ljava/lang/Object;)Z" } : Jvm.MethodName)) ∈ lw_gd := xb_mem 542 rfl rfl
set_option maxRecDepth 100000 in
theorem xk_543 : (Jvm.Cond.code ({ cls := "java/util/ArrayList", name := "add", desc := "(Ljava/lang/Object;)Z" } : Jvm.MethodName) prog_22_method_25_code (2 : Nat) (Option.some Jvm.ClassFile.FieldType.boolean)) ∈ lw_gd := xb_mem 543 rfl rfl
set_option maxRecDepth 100000 in
theorem xk_544 : (Jvm.Cond.methodLink "java/util/ArrayList" (131 : Nat) ({ cls := "java/util/ArrayList", name := "add", desc := "(Ljava/lang/Object;[Ljava/lang/Object;I)V" } : Jvm.MethodName)) ∈ lw_gd := xb_mem 544 rfl rfl
set_option maxRecDepth 100000 in
theorem xk_545 : (Jvm.Cond.privateMethod ({ cls := "java/util/ArrayList", name := "add", desc := "(Ljava/lang/Object;[Ljava/lang/Object;I)V" } : Jvm.MethodName)) ∈ lw_tbl := List.mem_of_getElem? (i := 545) rfl
set_option maxRecDepth 100000 in
theorem xk_546 : (Jvm.Cond.instanceMethod ({ cls := "java/util/ArrayList", name := "add", desc := "(Ljava/lang/Object;[Ljava/lang/Object;I)V" } : Jvm.MethodName)) ∈ lw_gd := xb_mem 546 rfl rfl
set_option maxRecDepth 100000 in
theorem xk_547 : (Jvm.Cond.code ({ cls := "java/util/ArrayList", name := "add", desc := "(Ljava/lang/Object;[Ljava/lang/Object;I)V" } : Jvm.MethodName) prog_22_method_24_code (4 : Nat) (Option.none : Option Jvm.ClassFile.FieldType)) ∈ lw_gd := xb_mem 547 rfl rfl
set_option maxRecDepth 100000 in
theorem xk_548 : (Jvm.Cond.methodLink "java/util/ArrayList" (129 : Nat) ({ cls := "java/util/ArrayList", name := "grow", desc := "()[Ljava/lang/Object;" } : Jvm.MethodName)) ∈ lw_gd := xb_mem 548 rfl rfl
set_option maxRecDepth 100000 in
theorem xk_549 : (Jvm.Cond.privateMethod ({ cls := "java/util/ArrayList", name := "grow", desc := "()[Ljava/lang/Object;" } : Jvm.MethodName)) ∈ lw_tbl := List.mem_of_getElem? (i := 549) rfl
set_option maxRecDepth 100000 in
theorem xk_550 : (Jvm.Cond.instanceMethod ({ cls := "java/util/ArrayList", name := "grow", desc := "()[Ljava/lang/Object;" } : Jvm.MethodName)) ∈ lw_gd := xb_mem 550 rfl rfl
set_option maxRecDepth 100000 in
theorem xk_551 : (Jvm.Cond.code ({ cls := "java/util/ArrayList", name := "grow", desc := "()[Ljava/lang/Object;" } : Jvm.MethodName) prog_22_method_7_code (1 : Nat) (Option.some (Jvm.ClassFile.FieldType.array (Jvm.ClassFile.FieldType.object "java/lang/Object")))) ∈ lw_gd := xb_mem 551 rfl rfl
set_option maxRecDepth 100000 in
theorem xk_552 : (Jvm.Cond.methodLink "java/util/ArrayList" (69 : Nat) ({ cls := "java/util/ArrayList", name := "grow", desc := "(I)[Ljava/lang/Object;" } : Jvm.MethodName)) ∈ lw_gd := xb_mem 552 rfl rfl
set_option maxRecDepth 100000 in
theorem xk_553 : (Jvm.Cond.privateMethod ({ cls := "java/util/ArrayList", name := "grow", desc := "(I)[Ljava/lang/Object;" } : Jvm.MethodName)) ∈ lw_tbl := List.mem_of_getElem? (i := 553) rfl
set_option maxRecDepth 100000 in
theorem xk_554 : (Jvm.Cond.instanceMethod ({ cls := "java/util/ArrayList", name := "grow", desc := "(I)[Ljava/lang/Object;" } : Jvm.MethodName)) ∈ lw_gd := xb_mem 554 rfl rfl
set_option maxRecDepth 100000 in
theorem xk_555 : (Jvm.Cond.code ({ cls := "java/util/ArrayList", name := "grow", desc := "(I)[Ljava/lang/Object;" } : Jvm.MethodName) prog_22_method_6_code (4 : Nat) (Option.some (Jvm.ClassFile.FieldType.array (Jvm.ClassFile.FieldType.object "java/lang/Object")))) ∈ lw_gd := xb_mem 555 rfl rfl
set_option maxRecDepth 100000 in
theorem xk_556 : (Jvm.Cond.methodLink "java/util/ArrayList" (73 : Nat) ({ cls := "jdk/internal/util/ArraysSupport", name := "newLength", desc := "(III)I" } : Jvm.MethodName)) ∈ lw_gd := xb_mem 556 rfl rfl
set_option maxRecDepth 100000 in
theorem xk_557 : (Jvm.Cond.static ({ cls := "jdk/internal/util/ArraysSupport", name := "newLength", desc := "(III)I" } : Jvm.MethodName)) ∈ lw_gd := xb_mem 557 rfl rfl
set_option maxRecDepth 100000 in
theorem xk_558 : (Jvm.Cond.code ({ cls := "jdk/internal/util/ArraysSupport", name := "newLength", desc := "(III)I" } : Jvm.MethodName) prog_29_method_27_code (4 : Nat) (Option.some Jvm.ClassFile.FieldType.int)) ∈ lw_gd := xb_mem 558 rfl rfl
set_option maxRecDepth 100000 in
theorem xk_559 : (Jvm.Cond.methodLink "jdk/internal/util/ArraysSupport" (194 : Nat) ({ cls := "java/lang/Math", name := "max", desc := "(II)I" } : Jvm.MethodName)) ∈ lw_gd := xb_mem 559 rfl rfl
set_option maxRecDepth 100000 in
theorem xk_560 : (Jvm.Cond.constant "jdk/internal/util/ArraysSupport" (200 : Nat) (2147483639 : Int32)) ∈ lw_gd := xb_mem 560 rfl rfl
set_option maxRecDepth 100000 in
theorem xk_561 : (Jvm.Cond.methodLink "jdk/internal/util/ArraysSupport" (201 : Nat) ({ cls := "jdk/internal/util/ArraysSupport", name := "hugeLength", desc := "(II)I" } : Jvm.MethodName)) ∈ lw_gd := xb_mem 561 rfl rfl
set_option maxRecDepth 100000 in
theorem xk_562 : (Jvm.Cond.static ({ cls := "jdk/internal/util/ArraysSupport", name := "hugeLength", desc := "(II)I" } : Jvm.MethodName)) ∈ lw_gd := xb_mem 562 rfl rfl
set_option maxRecDepth 100000 in
theorem xk_563 : (Jvm.Cond.code ({ cls := "jdk/internal/util/ArraysSupport", name := "hugeLength", desc := "(II)I" } : Jvm.MethodName) prog_29_method_28_code (3 : Nat) (Option.some Jvm.ClassFile.FieldType.int)) ∈ lw_gd := xb_mem 563 rfl rfl
set_option maxRecDepth 100000 in
theorem xk_564 : (Jvm.Cond.methodLink "java/util/ArrayList" (66 : Nat) ({ cls := "java/util/Arrays", name := "copyOf", desc := "([Ljava/lang/Object;I)[Ljava/lang/Object;" } : Jvm.MethodName)) ∈ lw_gd := xb_mem 564 rfl rfl
set_option maxRecDepth 100000 in
theorem xk_565 : (Jvm.Cond.static ({ cls := "java/util/Arrays", name := "copyOf", desc := "([Ljava/lang/Object;I)[Ljava/lang/Object;" } : Jvm.MethodName)) ∈ lw_gd := xb_mem 565 rfl rfl
set_option maxRecDepth 100000 in
theorem xk_566 : (Jvm.Cond.code ({ cls := "java/util/Arrays", name := "copyOf", desc := "([Ljava/lang/Object;I)[Ljava/lang/Object;" } : Jvm.MethodName) prog_23_method_119_code (2 : Nat) (Option.some (Jvm.ClassFile.FieldType.array (Jvm.ClassFile.FieldType.object "java/lang/Object")))) ∈ lw_gd := xb_mem 566 rfl rfl
set_option maxRecDepth 100000 in
theorem xk_567 : (Jvm.Cond.methodLink "java/util/Arrays" (86 : Nat) ({ cls := "java/lang/Object", name := "getClass", desc := "()Ljava/lang/Class;" } : Jvm.MethodName)) ∈ lw_gd := xb_mem 567 rfl rfl
set_option maxRecDepth 100000 in
theorem xk_568 : (Jvm.Cond.instanceMethod ({ cls := "java/lang/Object", name := "getClass", desc := "()Ljava/lang/Class;" } : Jvm.MethodName)) ∈ lw_gd := xb_mem 568 rfl rfl
set_option maxRecDepth 100000 in
theorem xk_569 : (Jvm.Cond.sameMethod "java/lang/Object" "java/lang/Object" "getClass" "()Ljava/lang/Class;") ∈ lw_gd := xb_mem 569 rfl rfl
set_option maxRecDepth 100000 in
theorem xk_570 : (Jvm.Cond.selects "NailRules" ({ cls := "java/lang/Object", name := "getClass", desc := "()Ljava/lang/Class;" } : Jvm.MethodName) ({ cls := "java/lang/Object", name := "getClass", desc := "()Ljava/lang/Class;" } : Jvm.MethodName)) ∈ lw_gd := xb_mem 570 rfl rfl
set_option maxRecDepth 100000 in
theorem xk_571 : (Jvm.Cond.selects "NailRules$Member" ({ cls := "java/lang/Object", name := "getClass", desc := "()Ljava/lang/Class;" } : Jvm.MethodName) ({ cls := "java/lang/Object", name := "getClass", desc := "()Ljava/lang/Class;" } : Jvm.MethodName)) ∈ lw_gd := xb_mem 571 rfl rfl
set_option maxRecDepth 100000 in
theorem xk_572 : (Jvm.Cond.selects "NailRules$Text" ({ cls := "java/lang/Object", name := "getClass", desc := "()Ljava/lang/Class;" } : Jvm.MethodName) ({ cls := "java/lang/Object", name := "getClass", desc := "()Ljava/lang/Class;" } : Jvm.MethodName)) ∈ lw_gd := xb_mem 572 rfl rfl
set_option maxRecDepth 100000 in
theorem xk_573 : (Jvm.Cond.selects "NailRulesModel" ({ cls := "java/lang/Object", name := "getClass", desc := "()Ljava/lang/Class;" } : Jvm.MethodName) ({ cls := "java/lang/Object", name := "getClass", desc := "()Ljava/lang/Class;" } : Jvm.MethodName)) ∈ lw_gd := xb_mem 573 rfl rfl
set_option maxRecDepth 100000 in
theorem xk_574 : (Jvm.Cond.selects "java/lang/IllegalArgumentException" ({ cls := "java/lang/Object", name := "getClass", desc := "()Ljava/lang/Class;" } : Jvm.MethodName) ({ cls := "java/lang/Object", name := "getClass", desc := "()Ljava/lang/Class;" } : Jvm.MethodName)) ∈ lw_gd := xb_mem 574 rfl rfl
set_option maxRecDepth 100000 in
theorem xk_575 : (Jvm.Cond.selects "java/lang/IllegalStateException" ({ cls := "java/lang/Object", name := "getClass", desc := "()Ljava/lang/Class;" } : Jvm.MethodName) ({ cls := "java/lang/Object", name := "getClass", desc := "()Ljava/lang/Class;" } : Jvm.MethodName)) ∈ lw_gd := xb_mem 575 rfl rfl
set_option maxRecDepth 100000 in
theorem xk_576 : (Jvm.Cond.selects "java/lang/IndexOutOfBoundsException" ({ cls := "java/lang/Object", name := "getClass", desc := "()Ljava/lang/Class;" } : Jvm.MethodName) ({ cls := "java/lang/Object", name := "getClass", desc := "()Ljava/lang/Class;" } : Jvm.MethodName)) ∈ lw_gd := xb_mem 576 rfl rfl
set_option maxRecDepth 100000 in
theorem xk_577 : (Jvm.Cond.selects "java/util/ArrayList" ({ cls := "java/lang/Object", name := "getClass", desc := "()Ljava/lang/Class;" } : Jvm.MethodName) ({ cls := "java/lang/Object", name := "getClass", desc := "()Ljava/lang/Class;" } : Jvm.MethodName)) ∈ lw_gd := xb_mem 577 rfl rfl
set_option maxRecDepth 100000 in
theorem xk_578 : (Jvm.Cond.native ({ cls := "java/lang/Object", name := "getClass", desc := "()Ljava/lang/Class;" } : Jvm.MethodName)) ∈ lw_gd := xb_mem 578 rfl rfl
set_option maxRecDepth 100000 in
theorem xk_579 : (Jvm.Cond.methodLink "java/util/Arrays" (300 : Nat) ({ cls := "java/util/Arrays", name := "copyOf", desc := "([Ljava/lang/Object;ILjava/lang/Class;)[Ljava/lang/Object;" } : Jvm.MethodName)) ∈ lw_gd := xb_mem 579 rfl rfl
set_option maxRecDepth 100000 in
theorem xk_580 : (Jvm.Cond.static ({ cls := "java/util/Arrays", name := "copyOf", desc := "([Ljava/lang/Object;ILjava/lang/Class;)[Ljava/lang/Object;" } : Jvm.MethodName)) ∈ lw_gd := xb_mem 580 rfl rfl
set_option maxRecDepth 100000 in
theorem xk_581 : (Jvm.Cond.code ({ cls := "java/util/Arrays", name := "copyOf", desc := "([Ljava/lang/Object;ILjava/lang/Class;)[Ljava/lang/Object;" } : Jvm.MethodName) prog_23_method_120_code (4 : Nat) (Option.some (Jvm.ClassFile.FieldType.array (Jvm.ClassFile.FieldType.object "java/lang/Object")))) ∈ lw_gd := xb_mem 581 rfl rfl
set_option maxRecDepth 100000 in
theorem xk_582 : (Jvm.Cond.classLink "java/util/Arrays" (110 : Nat) "[Ljava/lang/Object;") ∈ lw_gd := xb_mem 582 rfl rfl
set_option maxRecDepth 100000 in
theorem xk_583 : (Jvm.Cond.arrayOver (Jvm.ClassFile.FieldType.object "java/lang/Object")) ∈ lw_tbl := List.mem_of_getElem? (i := 583) rfl
set_option maxRecDepth 100000 in
theorem xk_584 : (Jvm.Cond.classLink "java/util/Arrays" (2 : Nat) "java/lang/Object") ∈ lw_gd := xb_mem 584 rfl rfl
set_option maxRecDepth 100000 in
theorem xk_585 : (Jvm.Cond.methodLink "java/util/Arrays" (304 : Nat) ({ cls := "java/lang/Math", name := "min", desc := "(II)I" } : Jvm.MethodName)) ∈ lw_gd := xb_mem 585 rfl rfl
set_option maxRecDepth 100000 in
theorem xk_586 : (Jvm.Cond.methodLink "java/util/Arrays" (150 : Nat) ({ cls := "java/lang/System", name := "arraycopy", desc := "(Ljava/lang/Object;ILjava/lang/Object;II)V" } : Jvm.MethodName)) ∈ lw_gd := xb_mem 586 rfl rfl
set_option maxRecDepth 100000 in
theorem xk_587 : (Jvm.Cond.static ({ cls := "java/lang/System", name := "arraycopy", desc := "(Ljava/lang/Object;ILjava/lang/Object;II)V" } : Jvm.MethodName)) ∈ lw_gd := xb_mem 587 rfl rfl
set_option maxRecDepth 100000 in
theorem xk_588 : (Jvm.Cond.native ({ cls := "java/lang/System", name := "arraycopy", desc := "(Ljava/lang/Object;ILjava/lang/Object;II)V" } : Jvm.MethodName)) ∈ lw_gd := xb_mem 588 rfl rfl
set_option maxRecDepth 100000 in
theorem xk_589 : (Jvm.Cond.methodLink "java/util/ArrayList" (79 : Nat) ({ cls := "java/lang/Math", name := "max", desc := "(II)I" } : Jvm.MethodName)) ∈ lw_gd := xb_mem 589 rfl rfl
set_option maxRecDepth 100000 in
theorem xk_590 : (Jvm.Cond.classLink "java/util/ArrayList" (7 : Nat) "java/lang/Object") ∈ lw_gd := xb_mem 590 rfl rfl
set_option maxRecDepth 100000 in
theorem xk_591 : (Jvm.Cond.methodLink "NailRulesLaw" (128 : Nat) ({ cls := "NailRulesLaw", name := "in", desc := "(LNailRules;III[J)I" } : Jvm.MethodName)) ∈ lw_gd := xb_mem 591 rfl rfl
set_option maxRecDepth 100000 in
theorem xk_592 : (Jvm.Cond.static ({ cls := "NailRulesLaw", name := "in", desc := "(LNailRules;III[J)I" } : Jvm.MethodName)) ∈ lw_gd := xb_mem 592 rfl rfl
set_option maxRecDepth 100000 in
theorem xk_593 : (Jvm.Cond.codeWith ({ cls := "NailRulesLaw", name := "in", desc := "(LNailRules;III[J)I" } : Jvm.MethodName) method_13_code (6 : Nat) (Option.some Jvm.ClassFile.FieldType.int) [((0 : Nat), (19 : Nat), (22 : Nat), (13 : Nat)), ((0 : Nat), (19 : Nat), (26 : Nat), (19 : Nat))]) ∈ lw_gd := xb_mem 593 rfl rfl
set_option maxRecDepth 100000 in
theorem xk_594 : (Jvm.Cond.methodLink "NailRulesLaw" (53 : Nat) ({ cls := "NailRules", name := "in", desc := "(III)Z" } : Jvm.MethodName)) ∈ lw_gd := xb_mem 594 rfl rfl
set_option maxRecDepth 100000 in
theorem xk_595 : (Jvm.Cond.instanceMethod ({ cls := "NailRules", name := "in", desc := "(III)Z" } : Jvm.MethodName)) ∈ lw_gd := xb_mem 595 rfl rfl
set_option maxRecDepth 100000 in
theorem xk_596 : (Jvm.Cond.selects "NailRules" ({ cls := "NailRules", name := "in", desc := "(III)Z" } : Jvm.MethodName) ({ cls := "NailRules", name := "in", desc := "(III)Z" } : Jvm.MethodName)) ∈ lw_gd := xb_mem 596 rfl rfl
set_option maxRecDepth 100000 in
theorem xk_597 : (Jvm.Cond.code ({ cls := "NailRules", name := "in", desc := "(III)Z" } : Jvm.MethodName) prog_1_method_15_code (4 : Nat) (Option.some Jvm.ClassFile.FieldType.boolean)) ∈ lw_gd := xb_mem 597 rfl rfl
set_option maxRecDepth 100000 in
theorem xk_598 : (Jvm.Cond.methodLink "NailRules" (148 : Nat) ({ cls := "java/util/ArrayList", name := "get", desc := "(I)Ljava/lang/Object;" } : Jvm.MethodName)) ∈ lw_gd := xb_mem 598 rfl rfl
set_option maxRecDepth 100000 in
theorem xk_599 : (Jvm.Cond.instanceMethod ({ cls := "java/util/ArrayList", name := "get", desc := "(I)Ljava/lang/Object;" } : Jvm.MethodName)) ∈ lw_gd := xb_mem 599 rfl rfl
set_option maxRecDepth 100000 in
theorem xk_600 : (Jvm.Cond.selects "java/util/ArrayList" ({ cls := "java/util/ArrayList", name := "get", desc := "(I)Ljava/lang/Object;" } : Jvm.MethodName) ({ cls := "java/util/ArrayList", name := "get", desc := "(I)Ljava/lang/Object;" } : Jvm.MethodName)) ∈ lw_gd := xb_mem 600 rfl rfl
set_option maxRecDepth 100000 in
theorem xk_601 : (Jvm.Cond.code ({ cls := "java/util/ArrayList", name := "get", desc := "(I)Ljava/lang/Object;" } : Jvm.MethodName) prog_22_method_20_code (2 : Nat) (Option.some (Jvm.ClassFile.FieldType.object "java/lang/Object"))) ∈ lw_gd := xb_mem 601 rfl rfl
set_option maxRecDepth 100000 in
theorem xk_602 : (Jvm.Cond.methodLink "java/util/ArrayList" (118 : Nat) ({ cls := "java/util/Objects", name := "checkIndex", desc := "(II)I" } : Jvm.MethodName)) ∈ lw_gd := xb_mem 602 rfl rfl
set_option maxRecDepth 100000 in
theorem xk_603 : (Jvm.Cond.static ({ cls := "java/util/Objects", name := "checkIndex", desc := "(II)I" } : Jvm.MethodName)) ∈ lw_gd := xb_mem 603 rfl rfl
set_option maxRecDepth 100000 in
theorem xk_604 : (Jvm.Cond.code ({ cls := "java/util/Objects", name := "checkIndex", desc := "(II)I" } : Jvm.MethodName) prog_26_method_17_code (2 : Nat) (Option.some Jvm.ClassFile.FieldType.int)) ∈ lw_gd := xb_mem 604 rfl rfl
set_option maxRecDepth 100000 in
theorem xk_605 : (Jvm.Cond.methodLink "java/util/Objects" (105 : Nat) ({ cls := "jdk/internal/util/Preconditions", name := "checkIndex", desc := "(IILjava/util/function/BiFunction;)I" } : Jvm.MethodName)) ∈ lw_gd := xb_mem 605 rfl rfl
set_option maxRecDepth 100000 in
theorem xk_606 : (Jvm.Cond.methodLink "java/util/ArrayList" (123 : Nat) ({ cls := "java/util/ArrayList", name := "elementData", desc := "(I)Ljava/lang/Object;" } : Jvm.MethodName)) ∈ lw_gd := xb_mem 606 rfl rfl
set_option maxRecDepth 100000 in
theorem xk_607 : (Jvm.Cond.instanceMethod ({ cls := "java/util/ArrayList", name := "elementData", desc := "(I)Ljava/lang/Object;" } : Jvm.MethodName)) ∈ lw_gd := xb_mem 607 rfl rfl
set_option maxRecDepth 100000 in
theorem xk_608 : (Jvm.Cond.selects "java/util/ArrayList" ({ cls := "java/util/ArrayList", name := "elementData", desc := "(I)Ljava/lang/Object;" } : Jvm.MethodName) ({ cls := "java/util/ArrayList", name := "elementData", desc := "(I)Ljava/lang/Object;" } : Jvm.MethodName)) ∈ lw_gd := xb_mem 608 rfl rfl
set_option maxRecDepth 100000 in
theorem xk_609 : (Jvm.Cond.code ({ cls := "java/util/ArrayList", name := "elementData", desc := "(I)Ljava/lang/Object;" } : Jvm.MethodName) prog_22_method_18_code (2 : Nat) (Option.some (Jvm.ClassFile.FieldType.object "java/lang/Object"))) ∈ lw_gd := xb_mem 609 rfl rfl
set_option maxRecDepth 100000 in
theorem xk_610 : (Jvm.Cond.methodLinkNest "NailRules" (152 : Nat) ({ cls := "NailRules$Member", name := "grips", desc := "(II)Z" } : Jvm.MethodName) "NailRules") ∈ lw_tbl := List.mem_of_getElem? (i := 610) rfl
set_option maxRecDepth 100000 in
theorem xk_611 : (Jvm.Cond.privateMethod ({ cls := "NailRules$Member", name := "grips", desc := "(II)Z" } : Jvm.MethodName)) ∈ lw_tbl := List.mem_of_getElem? (i := 611) rfl
set_option maxRecDepth 100000 in
theorem xk_612 : (Jvm.Cond.instanceMethod ({ cls := "NailRules$Member", name := "grips", desc := "(II)Z" } : Jvm.MethodName)) ∈ lw_gd := xb_mem 612 rfl rfl
set_option maxRecDepth 100000 in
theorem xk_613 : (Jvm.Cond.code ({ cls := "NailRules$Member", name := "grips", desc := "(II)Z" } : Jvm.MethodName) prog_2_method_2_code (13 : Nat) (Option.some Jvm.ClassFile.FieldType.boolean)) ∈ lw_gd := xb_mem 613 rfl rfl
set_option maxRecDepth 100000 in
theorem xk_614 : (Jvm.Cond.constantLong "NailRules$Member" (25 : Nat) (4 : Int64)) ∈ lw_gd := xb_mem 614 rfl rfl
set_option maxRecDepth 100000 in
theorem xk_615 : (Jvm.Cond.methodLink "NailRulesLaw" (131 : Nat) ({ cls := "NailRulesLaw", name := "teeth", desc := "(LNailRules;IIIIII[J)I" } : Jvm.MethodName)) ∈ lw_gd := xb_mem 615 rfl rfl
set_option maxRecDepth 100000 in
theorem xk_616 : (Jvm.Cond.static ({ cls := "NailRulesLaw", name := "teeth", desc := "(LNailRules;IIIIII[J)I" } : Jvm.MethodName)) ∈ lw_gd := xb_mem 616 rfl rfl
set_option maxRecDepth 100000 in
theorem xk_617 : (Jvm.Cond.codeWith ({ cls := "NailRulesLaw", name := "teeth", desc := "(LNailRules;IIIIII[J)I" } : Jvm.MethodName) method_14_code (9 : Nat) (Option.some Jvm.ClassFile.FieldType.int) [((0 : Nat), (18 : Nat), (21 : Nat), (13 : Nat)), ((0 : Nat), (18 : Nat), (25 : Nat), (19 : Nat))]) ∈ lw_gd := xb_mem 617 rfl rfl
set_option maxRecDepth 100000 in
theorem xk_618 : (Jvm.Cond.methodLink "NailRulesLaw" (57 : Nat) ({ cls := "NailRules", name := "teeth", desc := "(IIIIII)I" } : Jvm.MethodName)) ∈ lw_gd := xb_mem 618 rfl rfl
set_option maxRecDepth 100000 in
theorem xk_619 : (Jvm.Cond.instanceMethod ({ cls := "NailRules", name := "teeth", desc := "(IIIIII)I" } : Jvm.MethodName)) ∈ lw_gd := xb_mem 619 rfl rfl
set_option maxRecDepth 100000 in
theorem xk_620 : (Jvm.Cond.selects "NailRules" ({ cls := "NailRules", name := "teeth", desc := "(IIIIII)I" } : Jvm.MethodName) ({ cls := "NailRules", name := "teeth", desc := "(IIIIII)I" } : Jvm.MethodName)) ∈ lw_gd := xb_mem 620 rfl rfl
set_option maxRecDepth 100000 in
theorem xk_621 : (Jvm.Cond.code ({ cls := "NailRules", name := "teeth", desc := "(IIIIII)I" } : Jvm.MethodName) prog_1_method_16_code (11 : Nat) (Option.some Jvm.ClassFile.FieldType.int)) ∈ lw_gd := xb_mem 621 rfl rfl
set_option maxRecDepth 100000 in
theorem xk_622 : (Jvm.Cond.constantLong "NailRules" (156 : Nat) (10 : Int64)) ∈ lw_gd := xb_mem 622 rfl rfl
set_option maxRecDepth 100000 in
theorem xk_623 : (Jvm.Cond.methodLink "NailRulesLaw" (135 : Nat) ({ cls := "NailRulesLaw", name := "thick", desc := "(LNailRules;II[J)I" } : Jvm.MethodName)) ∈ lw_gd := xb_mem 623 rfl rfl
set_option maxRecDepth 100000 in
theorem xk_624 : (Jvm.Cond.static ({ cls := "NailRulesLaw", name := "thick", desc := "(LNailRules;II[J)I" } : Jvm.MethodName)) ∈ lw_gd := xb_mem 624 rfl rfl
set_option maxRecDepth 100000 in
theorem xk_625 : (Jvm.Cond.codeWith ({ cls := "NailRulesLaw", name := "thick", desc := "(LNailRules;II[J)I" } : Jvm.MethodName) method_15_code (5 : Nat) (Option.some Jvm.ClassFile.FieldType.int) [((0 : Nat), (17 : Nat), (20 : Nat), (13 : Nat)), ((0 : Nat), (17 : Nat), (24 : Nat), (19 : Nat))]) ∈ lw_gd := xb_mem 625 rfl rfl
set_option maxRecDepth 100000 in
theorem xk_626 : (Jvm.Cond.methodLink "NailRulesLaw" (61 : Nat) ({ cls := "NailRules", name := "thick", desc := "(II)Z" } : Jvm.MethodName)) ∈ lw_gd := xb_mem 626 rfl rfl
set_option maxRecDepth 100000 in
theorem xk_627 : (Jvm.Cond.instanceMethod ({ cls := "NailRules", name := "thick", desc := "(II)Z" } : Jvm.MethodName)) ∈ lw_gd := xb_mem 627 rfl rfl
set_option maxRecDepth 100000 in
theorem xk_628 : (Jvm.Cond.selects "NailRules" ({ cls := "NailRules", name := "thick", desc := "(II)Z" } : Jvm.MethodName) ({ cls := "NailRules", name := "thick", desc := "(II)Z" } : Jvm.MethodName)) ∈ lw_gd := xb_mem 628 rfl rfl
set_option maxRecDepth 100000 in
theorem xk_629 : (Jvm.Cond.code ({ cls := "NailRules", name := "thick", desc := "(II)Z" } : Jvm.MethodName) prog_1_method_17_code (3 : Nat) (Option.some Jvm.ClassFile.FieldType.boolean)) ∈ lw_gd := xb_mem 629 rfl rfl
set_option maxRecDepth 100000 in
theorem xk_630 : (Jvm.Cond.stringRef "NailRules" (158 : Nat) "a thickness below 0") ∈ lw_tbl := List.mem_of_getElem? (i := 630) rfl
set_option maxRecDepth 100000 in
theorem xk_631 : (Jvm.Cond.methodLink "NailRulesLaw" (138 : Nat) ({ cls := "NailRulesLaw", name := "hole", desc := "(LNailRules;I[J)I" } : Jvm.MethodName)) ∈ lw_gd := xb_mem 631 rfl rfl
set_option maxRecDepth 100000 in
theorem xk_632 : (Jvm.Cond.static ({ cls := "NailRulesLaw", name := "hole", desc := "(LNailRules;I[J)I" } : Jvm.MethodName)) ∈ lw_gd := xb_mem 632 rfl rfl
set_option maxRecDepth 100000 in
theorem xk_633 : (Jvm.Cond.codeWith ({ cls := "NailRulesLaw", name := "hole", desc := "(LNailRules;I[J)I" } : Jvm.MethodName) method_16_code (4 : Nat) (Option.some Jvm.ClassFile.FieldType.int) [((0 : Nat), (9 : Nat), (12 : Nat), (13 : Nat))]) ∈ lw_gd := xb_mem 633 rfl rfl
set_option maxRecDepth 100000 in
theorem xk_634 : (Jvm.Cond.methodLink "NailRulesLaw" (65 : Nat) ({ cls := "NailRules", name := "hole", desc := "(I)I" } : Jvm.MethodName)) ∈ lw_gd := xb_mem 634 rfl rfl
set_option maxRecDepth 100000 in
theorem xk_635 : (Jvm.Cond.instanceMethod ({ cls := "NailRules", name := "hole", desc := "(I)I" } : Jvm.MethodName)) ∈ lw_gd := xb_mem 635 rfl rfl
set_option maxRecDepth 100000 in
theorem xk_636 : (Jvm.Cond.selects "NailRules" ({ cls := "NailRules", name := "hole", desc := "(I)I" } : Jvm.MethodName) ({ cls := "NailRules", name := "hole", desc := "(I)I" } : Jvm.MethodName)) ∈ lw_gd := xb_mem 636 rfl rfl
set_option maxRecDepth 100000 in
theorem xk_637 : (Jvm.Cond.code ({ cls := "NailRules", name := "hole", desc := "(I)I" } : Jvm.MethodName) prog_1_method_18_code (3 : Nat) (Option.some Jvm.ClassFile.FieldType.int)) ∈ lw_gd := xb_mem 637 rfl rfl
set_option maxRecDepth 100000 in
theorem xk_638 : (Jvm.Cond.classLink "NailRulesLaw" (70 : Nat) "NailRulesModel") ∈ lw_gd := xb_mem 638 rfl rfl
set_option maxRecDepth 100000 in
theorem xk_639 : (Jvm.Cond.instantiable "NailRulesModel" (20 : Nat)) ∈ lw_gd := xb_mem 639 rfl rfl
set_option maxRecDepth 100000 in
theorem xk_640 : (Jvm.Cond.methodLink "NailRulesLaw" (72 : Nat) ({ cls := "NailRulesModel", name := "<init>", desc := "()V" } : Jvm.MethodName)) ∈ lw_gd := xb_mem 640 rfl rfl
set_option maxRecDepth 100000 in
theorem xk_641 : (Jvm.Cond.instanceMethod ({ cls := "NailRulesModel", name := "<init>", desc := "()V" } : Jvm.MethodName)) ∈ lw_gd := xb_mem 641 rfl rfl
set_option maxRecDepth 100000 in
theorem xk_642 : (Jvm.Cond.code ({ cls := "NailRulesModel", name := "<init>", desc := "()V" } : Jvm.MethodName) prog_5_method_1_code (1 : Nat) (Option.none : Option Jvm.ClassFile.FieldType)) ∈ lw_gd := xb_mem 642 rfl rfl
set_option maxRecDepth 100000 in
theorem xk_643 : (Jvm.Cond.methodLink "NailRulesModel" (1 : Nat) ({ cls := "java/lang/Object", name := "<init>", desc := "()V" } : Jvm.MethodName)) ∈ lw_gd := xb_mem 643 rfl rfl
set_option maxRecDepth 100000 in
theorem xk_644 : (Jvm.Cond.constantLong "NailRulesModel" (22 : Nat) (100 : Int64)) ∈ lw_gd := xb_mem 644 rfl rfl
set_option maxRecDepth 100000 in
theorem xk_645 : (Jvm.Cond.constantLong "NailRulesModel" (28 : Nat) (2 : Int64)) ∈ lw_gd := xb_mem 645 rfl rfl
set_option maxRecDepth 100000 in
theorem xk_646 : (Jvm.Cond.fieldLink "NailRulesModel" (52 : Nat) "NailRulesModel" "thrown" "I") ∈ lw_gd := xb_mem 646 rfl rfl
set_option maxRecDepth 100000 in
theorem xk_647 : (Jvm.Cond.fieldLink "NailRulesModel" (7 : Nat) "NailRulesModel" "text" "[I") ∈ lw_gd := xb_mem 647 rfl rfl
set_option maxRecDepth 100000 in
theorem xk_648 : (Jvm.Cond.fieldLink "NailRulesModel" (55 : Nat) "NailRulesModel" "size" "I") ∈ lw_gd := xb_mem 648 rfl rfl
set_option maxRecDepth 100000 in
theorem xk_649 : (Jvm.Cond.fieldLink "NailRulesModel" (58 : Nat) "NailRulesModel" "at" "I") ∈ lw_gd := xb_mem 649 rfl rfl
set_option maxRecDepth 100000 in
theorem xk_650 : (Jvm.Cond.fieldLink "NailRulesModel" (61 : Nat) "NailRulesModel" "fault" "I") ∈ lw_gd := xb_mem 650 rfl rfl
set_option maxRecDepth 100000 in
theorem xk_651 : (Jvm.Cond.fieldLink "NailRulesModel" (13 : Nat) "NailRulesModel" "draft" "[I") ∈ lw_gd := xb_mem 651 rfl rfl
set_option maxRecDepth 100000 in
theorem xk_652 : (Jvm.Cond.fieldLink "NailRulesModel" (16 : Nat) "NailRulesModel" "rules" "[I") ∈ lw_gd := xb_mem 652 rfl rfl
set_option maxRecDepth 100000 in
theorem xk_653 : (Jvm.Cond.fieldLink "NailRulesModel" (19 : Nat) "NailRulesModel" "letters" "[I") ∈ lw_gd := xb_mem 653 rfl rfl
set_option maxRecDepth 100000 in
theorem xk_654 : (Jvm.Cond.fieldLink "NailRulesModel" (24 : Nat) "NailRulesModel" "wet" "J") ∈ lw_gd := xb_mem 654 rfl rfl
set_option maxRecDepth 100000 in
theorem xk_655 : (Jvm.Cond.fieldLink "NailRulesModel" (30 : Nat) "NailRulesModel" "less" "J") ∈ lw_gd := xb_mem 655 rfl rfl
set_option maxRecDepth 100000 in
theorem xk_656 : (Jvm.Cond.fieldLink "NailRulesModel" (33 : Nat) "NailRulesModel" "patternKind" "I") ∈ lw_gd := xb_mem 656 rfl rfl
set_option maxRecDepth 100000 in
theorem xk_657 : (Jvm.Cond.fieldLink "NailRulesModel" (133 : Nat) "NailRulesModel" "patternMany" "I") ∈ lw_gd := xb_mem 657 rfl rfl
set_option maxRecDepth 100000 in
theorem xk_658 : (Jvm.Cond.fieldLink "NailRulesModel" (136 : Nat) "NailRulesModel" "columns" "I") ∈ lw_gd := xb_mem 658 rfl rfl
set_option maxRecDepth 100000 in
theorem xk_659 : (Jvm.Cond.fieldLink "NailRulesModel" (37 : Nat) "NailRulesModel" "patternAt" "[I") ∈ lw_gd := xb_mem 659 rfl rfl
set_option maxRecDepth 100000 in
theorem xk_660 : (Jvm.Cond.fieldLink "NailRulesModel" (139 : Nat) "NailRulesModel" "places" "I") ∈ lw_gd := xb_mem 660 rfl rfl
set_option maxRecDepth 100000 in
theorem xk_661 : (Jvm.Cond.fieldLink "NailRulesModel" (40 : Nat) "NailRulesModel" "xs" "[I") ∈ lw_gd := xb_mem 661 rfl rfl
set_option maxRecDepth 100000 in
theorem xk_662 : (Jvm.Cond.fieldLink "NailRulesModel" (43 : Nat) "NailRulesModel" "ys" "[I") ∈ lw_gd := xb_mem 662 rfl rfl
set_option maxRecDepth 100000 in
theorem xk_663 : (Jvm.Cond.fieldLink "NailRulesModel" (149 : Nat) "NailRulesModel" "members" "I") ∈ lw_gd := xb_mem 663 rfl rfl
set_option maxRecDepth 100000 in
theorem xk_664 : (Jvm.Cond.fieldLink "NailRulesModel" (46 : Nat) "NailRulesModel" "ends" "[I") ∈ lw_gd := xb_mem 664 rfl rfl
set_option maxRecDepth 100000 in
theorem xk_665 : (Jvm.Cond.fieldLink "NailRulesModel" (49 : Nat) "NailRulesModel" "wides" "[I") ∈ lw_gd := xb_mem 665 rfl rfl
set_option maxRecDepth 100000 in
theorem xk_666 : (Jvm.Cond.lays "NailRulesModel" "NailRulesModel" "thrown" "I") ∈ lw_gd := xb_mem 666 rfl rfl
set_option maxRecDepth 100000 in
theorem xk_667 : (Jvm.Cond.soleField "NailRulesModel" "thrown") ∈ lw_gd := xb_mem 667 rfl rfl
set_option maxRecDepth 100000 in
theorem xk_668 : (Jvm.Cond.laysFinal "NailRulesModel" "NailRulesModel" "text" "[I") ∈ lw_gd := xb_mem 668 rfl rfl
set_option maxRecDepth 100000 in
theorem xk_669 : (Jvm.Cond.soleField "NailRulesModel" "text") ∈ lw_gd := xb_mem 669 rfl rfl
set_option maxRecDepth 100000 in
theorem xk_670 : (Jvm.Cond.lays "NailRulesModel" "NailRulesModel" "size" "I") ∈ lw_gd := xb_mem 670 rfl rfl
set_option maxRecDepth 100000 in
theorem xk_671 : (Jvm.Cond.soleField "NailRulesModel" "size") ∈ lw_gd := xb_mem 671 rfl rfl
set_option maxRecDepth 100000 in
theorem xk_672 : (Jvm.Cond.lays "NailRulesModel" "NailRulesModel" "at" "I") ∈ lw_gd := xb_mem 672 rfl rfl
set_option maxRecDepth 100000 in
theorem xk_673 : (Jvm.Cond.soleField "NailRulesModel" "at") ∈ lw_gd := xb_mem 673 rfl rfl
set_option maxRecDepth 100000 in
theorem xk_674 : (Jvm.Cond.lays "NailRulesModel" "NailRulesModel" "fault" "I") ∈ lw_gd := xb_mem 674 rfl rfl
set_option maxRecDepth 100000 in
theorem xk_675 : (Jvm.Cond.soleField "NailRulesModel" "fault") ∈ lw_gd := xb_mem 675 rfl rfl
set_option maxRecDepth 100000 in
theorem xk_676 : (Jvm.Cond.laysFinal "NailRulesModel" "NailRulesModel" "draft" "[I") ∈ lw_gd := xb_mem 676 rfl rfl
set_option maxRecDepth 100000 in
theorem xk_677 : (Jvm.Cond.soleField "NailRulesModel" "draft") ∈ lw_gd := xb_mem 677 rfl rfl
set_option maxRecDepth 100000 in
theorem xk_678 : (Jvm.Cond.laysFinal "NailRulesModel" "NailRulesModel" "rules" "[I") ∈ lw_gd := xb_mem 678 rfl rfl
set_option maxRecDepth 100000 in
theorem xk_679 : (Jvm.Cond.soleField "NailRulesModel" "rules") ∈ lw_gd := xb_mem 679 rfl rfl
set_option maxRecDepth 100000 in
theorem xk_680 : (Jvm.Cond.laysFinal "NailRulesModel" "NailRulesModel" "letters" "[I") ∈ lw_gd := xb_mem 680 rfl rfl
set_option maxRecDepth 100000 in
theorem xk_681 : (Jvm.Cond.soleField "NailRulesModel" "letters") ∈ lw_gd := xb_mem 681 rfl rfl
set_option maxRecDepth 100000 in
theorem xk_682 : (Jvm.Cond.lays "NailRulesModel" "NailRulesModel" "wet" "J") ∈ lw_gd := xb_mem 682 rfl rfl
set_option maxRecDepth 100000 in
theorem xk_683 : (Jvm.Cond.soleField "NailRulesModel" "wet") ∈ lw_gd := xb_mem 683 rfl rfl
set_option maxRecDepth 100000 in
theorem xk_684 : (Jvm.Cond.lays "NailRulesModel" "NailRulesModel" "less" "J") ∈ lw_gd := xb_mem 684 rfl rfl
set_option maxRecDepth 100000 in
theorem xk_685 : (Jvm.Cond.soleField "NailRulesModel" "less") ∈ lw_gd := xb_mem 685 rfl rfl
set_option maxRecDepth 100000 in
theorem xk_686 : (Jvm.Cond.lays "NailRulesModel" "NailRulesModel" "patternKind" "I") ∈ lw_gd := xb_mem 686 rfl rfl
set_option maxRecDepth 100000 in
theorem xk_687 : (Jvm.Cond.soleField "NailRulesModel" "patternKind") ∈ lw_gd := xb_mem 687 rfl rfl
set_option maxRecDepth 100000 in
theorem xk_688 : (Jvm.Cond.lays "NailRulesModel" "NailRulesModel" "patternMany" "I") ∈ lw_gd := xb_mem 688 rfl rfl
set_option maxRecDepth 100000 in
theorem xk_689 : (Jvm.Cond.soleField "NailRulesModel" "patternMany") ∈ lw_gd := xb_mem 689 rfl rfl
set_option maxRecDepth 100000 in
theorem xk_690 : (Jvm.Cond.lays "NailRulesModel" "NailRulesModel" "columns" "I") ∈ lw_gd := xb_mem 690 rfl rfl
set_option maxRecDepth 100000 in
theorem xk_691 : (Jvm.Cond.soleField "NailRulesModel" "columns") ∈ lw_gd := xb_mem 691 rfl rfl
set_option maxRecDepth 100000 in
theorem xk_692 : (Jvm.Cond.laysFinal "NailRulesModel" "NailRulesModel" "patternAt" "[I") ∈ lw_gd := xb_mem 692 rfl rfl
set_option maxRecDepth 100000 in
theorem xk_693 : (Jvm.Cond.soleField "NailRulesModel" "patternAt") ∈ lw_gd := xb_mem 693 rfl rfl
set_option maxRecDepth 100000 in
theorem xk_694 : (Jvm.Cond.lays "NailRulesModel" "NailRulesModel" "places" "I") ∈ lw_gd := xb_mem 694 rfl rfl
set_option maxRecDepth 100000 in
theorem xk_695 : (Jvm.Cond.soleField "NailRulesModel" "places") ∈ lw_gd := xb_mem 695 rfl rfl
set_option maxRecDepth 100000 in
theorem xk_696 : (Jvm.Cond.laysFinal "NailRulesModel" "NailRulesModel" "xs" "[I") ∈ lw_gd := xb_mem 696 rfl rfl
set_option maxRecDepth 100000 in
theorem xk_697 : (Jvm.Cond.soleField "NailRulesModel" "xs") ∈ lw_gd := xb_mem 697 rfl rfl
set_option maxRecDepth 100000 in
theorem xk_698 : (Jvm.Cond.laysFinal "NailRulesModel" "NailRulesModel" "ys" "[I") ∈ lw_gd := xb_mem 698 rfl rfl
set_option maxRecDepth 100000 in
theorem xk_699 : (Jvm.Cond.soleField "NailRulesModel" "ys") ∈ lw_gd := xb_mem 699 rfl rfl
set_option maxRecDepth 100000 in
theorem xk_700 : (Jvm.Cond.lays "NailRulesModel" "NailRulesModel" "members" "I") ∈ lw_gd := xb_mem 700 rfl rfl
set_option maxRecDepth 100000 in
theorem xk_701 : (Jvm.Cond.soleField "NailRulesModel" "members") ∈ lw_gd := xb_mem 701 rfl rfl
set_option maxRecDepth 100000 in
theorem xk_702 : (Jvm.Cond.laysFinal "NailRulesModel" "NailRulesModel" "ends" "[I") ∈ lw_gd := xb_mem 702 rfl rfl
set_option maxRecDepth 100000 in
theorem xk_703 : (Jvm.Cond.soleField "NailRulesModel" "ends") ∈ lw_gd := xb_mem 703 rfl rfl
set_option maxRecDepth 100000 in
theorem xk_704 : (Jvm.Cond.laysFinal "NailRulesModel" "NailRulesModel" "wides" "[I") ∈ lw_gd := xb_mem 704 rfl rfl
set_option maxRecDepth 100000 in
theorem xk_705 : (Jvm.Cond.soleField "NailRulesModel" "wides") ∈ lw_gd := xb_mem 705 rfl rfl
set_option maxRecDepth 100000 in
theorem xk_706 : (Jvm.Cond.superclass "NailRulesModel" "java/lang/Object") ∈ lw_gd := xb_mem 706 rfl rfl
set_option maxRecDepth 100000 in
theorem xk_707 : (Jvm.Cond.methodLink "NailRulesLaw" (77 : Nat) ({ cls := "NailRulesModel", name := "unit", desc := "(I)Z" } : Jvm.MethodName)) ∈ lw_gd := xb_mem 707 rfl rfl
set_option maxRecDepth 100000 in
theorem xk_708 : (Jvm.Cond.instanceMethod ({ cls := "NailRulesModel", name := "unit", desc := "(I)Z" } : Jvm.MethodName)) ∈ lw_gd := xb_mem 708 rfl rfl
set_option maxRecDepth 100000 in
theorem xk_709 : (Jvm.Cond.selects "NailRulesModel" ({ cls := "NailRulesModel", name := "unit", desc := "(I)Z" } : Jvm.MethodName) ({ cls := "NailRulesModel", name := "unit", desc := "(I)Z" } : Jvm.MethodName)) ∈ lw_gd := xb_mem 709 rfl rfl
set_option maxRecDepth 100000 in
theorem xk_710 : (Jvm.Cond.code ({ cls := "NailRulesModel", name := "unit", desc := "(I)Z" } : Jvm.MethodName) prog_5_method_5_code (3 : Nat) (Option.some Jvm.ClassFile.FieldType.boolean)) ∈ lw_gd := xb_mem 710 rfl rfl
set_option maxRecDepth 100000 in
theorem xk_711 : (Jvm.Cond.methodLink "NailRulesLaw" (82 : Nat) ({ cls := "NailRulesModel", name := "read", desc := "()I" } : Jvm.MethodName)) ∈ lw_gd := xb_mem 711 rfl rfl
set_option maxRecDepth 100000 in
theorem xk_712 : (Jvm.Cond.instanceMethod ({ cls := "NailRulesModel", name := "read", desc := "()I" } : Jvm.MethodName)) ∈ lw_gd := xb_mem 712 rfl rfl
set_option maxRecDepth 100000 in
theorem xk_713 : (Jvm.Cond.selects "NailRulesModel" ({ cls := "NailRulesModel", name := "read", desc := "()I" } : Jvm.MethodName) ({ cls := "NailRulesModel", name := "read", desc := "()I" } : Jvm.MethodName)) ∈ lw_gd := xb_mem 713 rfl rfl
set_option maxRecDepth 100000 in
theorem xk_714 : (Jvm.Cond.code ({ cls := "NailRulesModel", name := "read", desc := "()I" } : Jvm.MethodName) prog_5_method_14_code (6 : Nat) (Option.some Jvm.ClassFile.FieldType.int)) ∈ lw_gd := xb_mem 714 rfl rfl
set_option maxRecDepth 100000 in
theorem xk_715 : (Jvm.Cond.methodLink "NailRulesModel" (68 : Nat) ({ cls := "NailRulesModel", name := "now", desc := "()I" } : Jvm.MethodName)) ∈ lw_gd := xb_mem 715 rfl rfl
set_option maxRecDepth 100000 in
theorem xk_716 : (Jvm.Cond.privateMethod ({ cls := "NailRulesModel", name := "now", desc := "()I" } : Jvm.MethodName)) ∈ lw_tbl := List.mem_of_getElem? (i := 716) rfl
set_option maxRecDepth 100000 in
theorem xk_717 : (Jvm.Cond.instanceMethod ({ cls := "NailRulesModel", name := "now", desc := "()I" } : Jvm.MethodName)) ∈ lw_gd := xb_mem 717 rfl rfl
set_option maxRecDepth 100000 in
theorem xk_718 : (Jvm.Cond.code ({ cls := "NailRulesModel", name := "now", desc := "()I" } : Jvm.MethodName) prog_5_method_6_code (1 : Nat) (Option.some Jvm.ClassFile.FieldType.int)) ∈ lw_gd := xb_mem 718 rfl rfl
set_option maxRecDepth 100000 in
theorem xk_719 : (Jvm.Cond.methodLink "NailRulesModel" (84 : Nat) ({ cls := "NailRulesModel", name := "kindOf", desc := "(I)I" } : Jvm.MethodName)) ∈ lw_gd := xb_mem 719 rfl rfl
set_option maxRecDepth 100000 in
theorem xk_720 : (Jvm.Cond.static ({ cls := "NailRulesModel", name := "kindOf", desc := "(I)I" } : Jvm.MethodName)) ∈ lw_gd := xb_mem 720 rfl rfl
set_option maxRecDepth 100000 in
theorem xk_721 : (Jvm.Cond.code ({ cls := "NailRulesModel", name := "kindOf", desc := "(I)I" } : Jvm.MethodName) prog_5_method_8_code (1 : Nat) (Option.some Jvm.ClassFile.FieldType.int)) ∈ lw_gd := xb_mem 721 rfl rfl
set_option maxRecDepth 100000 in
theorem xk_722 : (Jvm.Cond.methodLink "NailRulesModel" (76 : Nat) ({ cls := "NailRulesModel", name := "must", desc := "(Z)V" } : Jvm.MethodName)) ∈ lw_gd := xb_mem 722 rfl rfl
set_option maxRecDepth 100000 in
theorem xk_723 : (Jvm.Cond.privateMethod ({ cls := "NailRulesModel", name := "must", desc := "(Z)V" } : Jvm.MethodName)) ∈ lw_tbl := List.mem_of_getElem? (i := 723) rfl
set_option maxRecDepth 100000 in
theorem xk_724 : (Jvm.Cond.instanceMethod ({ cls := "NailRulesModel", name := "must", desc := "(Z)V" } : Jvm.MethodName)) ∈ lw_gd := xb_mem 724 rfl rfl
set_option maxRecDepth 100000 in
theorem xk_725 : (Jvm.Cond.code ({ cls := "NailRulesModel", name := "must", desc := "(Z)V" } : Jvm.MethodName) prog_5_method_7_code (2 : Nat) (Option.none : Option Jvm.ClassFile.FieldType)) ∈ lw_gd := xb_mem 725 rfl rfl
set_option maxRecDepth 100000 in
theorem xk_726 : (Jvm.Cond.methodLink "NailRulesModel" (87 : Nat) ({ cls := "NailRulesModel", name := "word", desc := "()I" } : Jvm.MethodName)) ∈ lw_gd := xb_mem 726 rfl rfl
set_option maxRecDepth 100000 in
theorem xk_727 : (Jvm.Cond.privateMethod ({ cls := "NailRulesModel", name := "word", desc := "()I" } : Jvm.MethodName)) ∈ lw_tbl := List.mem_of_getElem? (i := 727) rfl
set_option maxRecDepth 100000 in
theorem xk_728 : (Jvm.Cond.instanceMethod ({ cls := "NailRulesModel", name := "word", desc := "()I" } : Jvm.MethodName)) ∈ lw_gd := xb_mem 728 rfl rfl
set_option maxRecDepth 100000 in
theorem xk_729 : (Jvm.Cond.code ({ cls := "NailRulesModel", name := "word", desc := "()I" } : Jvm.MethodName) prog_5_method_11_code (4 : Nat) (Option.some Jvm.ClassFile.FieldType.int)) ∈ lw_gd := xb_mem 729 rfl rfl
set_option maxRecDepth 100000 in
theorem xk_730 : (Jvm.Cond.methodLink "NailRulesModel" (64 : Nat) ({ cls := "NailRulesModel", name := "whole", desc := "(I)I" } : Jvm.MethodName)) ∈ lw_gd := xb_mem 730 rfl rfl
set_option maxRecDepth 100000 in
theorem xk_731 : (Jvm.Cond.privateMethod ({ cls := "NailRulesModel", name := "whole", desc := "(I)I" } : Jvm.MethodName)) ∈ lw_tbl := List.mem_of_getElem? (i := 731) rfl
set_option maxRecDepth 100000 in
theorem xk_732 : (Jvm.Cond.instanceMethod ({ cls := "NailRulesModel", name := "whole", desc := "(I)I" } : Jvm.MethodName)) ∈ lw_gd := xb_mem 732 rfl rfl
set_option maxRecDepth 100000 in
theorem xk_733 : (Jvm.Cond.code ({ cls := "NailRulesModel", name := "whole", desc := "(I)I" } : Jvm.MethodName) prog_5_method_10_code (6 : Nat) (Option.some Jvm.ClassFile.FieldType.int)) ∈ lw_gd := xb_mem 733 rfl rfl
set_option maxRecDepth 100000 in
theorem xk_734 : (Jvm.Cond.methodLink "NailRulesModel" (72 : Nat) ({ cls := "NailRulesModel", name := "may", desc := "(III)Z" } : Jvm.MethodName)) ∈ lw_gd := xb_mem 734 rfl rfl
set_option maxRecDepth 100000 in
theorem xk_735 : (Jvm.Cond.privateMethod ({ cls := "NailRulesModel", name := "may", desc := "(III)Z" } : Jvm.MethodName)) ∈ lw_tbl := List.mem_of_getElem? (i := 735) rfl
set_option maxRecDepth 100000 in
theorem xk_736 : (Jvm.Cond.instanceMethod ({ cls := "NailRulesModel", name := "may", desc := "(III)Z" } : Jvm.MethodName)) ∈ lw_gd := xb_mem 736 rfl rfl
set_option maxRecDepth 100000 in
theorem xk_737 : (Jvm.Cond.code ({ cls := "NailRulesModel", name := "may", desc := "(III)Z" } : Jvm.MethodName) prog_5_method_9_code (6 : Nat) (Option.some Jvm.ClassFile.FieldType.boolean)) ∈ lw_gd := xb_mem 737 rfl rfl
set_option maxRecDepth 100000 in
theorem xk_738 : (Jvm.Cond.methodLink "NailRulesModel" (90 : Nat) ({ cls := "NailRulesModel", name := "number", desc := "()I" } : Jvm.MethodName)) ∈ lw_gd := xb_mem 738 rfl rfl
set_option maxRecDepth 100000 in
theorem xk_739 : (Jvm.Cond.privateMethod ({ cls := "NailRulesModel", name := "number", desc := "()I" } : Jvm.MethodName)) ∈ lw_tbl := List.mem_of_getElem? (i := 739) rfl
set_option maxRecDepth 100000 in
theorem xk_740 : (Jvm.Cond.instanceMethod ({ cls := "NailRulesModel", name := "number", desc := "()I" } : Jvm.MethodName)) ∈ lw_gd := xb_mem 740 rfl rfl
set_option maxRecDepth 100000 in
theorem xk_741 : (Jvm.Cond.code ({ cls := "NailRulesModel", name := "number", desc := "()I" } : Jvm.MethodName) prog_5_method_13_code (4 : Nat) (Option.some Jvm.ClassFile.FieldType.int)) ∈ lw_gd := xb_mem 741 rfl rfl
set_option maxRecDepth 100000 in
theorem xk_742 : (Jvm.Cond.methodLink "NailRulesModel" (80 : Nat) ({ cls := "NailRulesModel", name := "isDigit", desc := "()Z" } : Jvm.MethodName)) ∈ lw_gd := xb_mem 742 rfl rfl
set_option maxRecDepth 100000 in
theorem xk_743 : (Jvm.Cond.privateMethod ({ cls := "NailRulesModel", name := "isDigit", desc := "()Z" } : Jvm.MethodName)) ∈ lw_tbl := List.mem_of_getElem? (i := 743) rfl
set_option maxRecDepth 100000 in
theorem xk_744 : (Jvm.Cond.instanceMethod ({ cls := "NailRulesModel", name := "isDigit", desc := "()Z" } : Jvm.MethodName)) ∈ lw_gd := xb_mem 744 rfl rfl
set_option maxRecDepth 100000 in
theorem xk_745 : (Jvm.Cond.code ({ cls := "NailRulesModel", name := "isDigit", desc := "()Z" } : Jvm.MethodName) prog_5_method_12_code (1 : Nat) (Option.some Jvm.ClassFile.FieldType.boolean)) ∈ lw_gd := xb_mem 745 rfl rfl
set_option maxRecDepth 100000 in
theorem xk_746 : (Jvm.Cond.methodLink "NailRulesLaw" (88 : Nat) ({ cls := "NailRulesModel", name := "rule", desc := "(II)I" } : Jvm.MethodName)) ∈ lw_gd := xb_mem 746 rfl rfl
set_option maxRecDepth 100000 in
theorem xk_747 : (Jvm.Cond.instanceMethod ({ cls := "NailRulesModel", name := "rule", desc := "(II)I" } : Jvm.MethodName)) ∈ lw_gd := xb_mem 747 rfl rfl
set_option maxRecDepth 100000 in
theorem xk_748 : (Jvm.Cond.selects "NailRulesModel" ({ cls := "NailRulesModel", name := "rule", desc := "(II)I" } : Jvm.MethodName) ({ cls := "NailRulesModel", name := "rule", desc := "(II)I" } : Jvm.MethodName)) ∈ lw_gd := xb_mem 748 rfl rfl
set_option maxRecDepth 100000 in
theorem xk_749 : (Jvm.Cond.code ({ cls := "NailRulesModel", name := "rule", desc := "(II)I" } : Jvm.MethodName) prog_5_method_15_code (3 : Nat) (Option.some Jvm.ClassFile.FieldType.int)) ∈ lw_gd := xb_mem 749 rfl rfl
set_option maxRecDepth 100000 in
theorem xk_750 : (Jvm.Cond.methodLink "NailRulesModel" (93 : Nat) ({ cls := "NailRulesModel", name := "isFour", desc := "(I)Z" } : Jvm.MethodName)) ∈ lw_gd := xb_mem 750 rfl rfl
set_option maxRecDepth 100000 in
theorem xk_751 : (Jvm.Cond.static ({ cls := "NailRulesModel", name := "isFour", desc := "(I)Z" } : Jvm.MethodName)) ∈ lw_gd := xb_mem 751 rfl rfl
set_option maxRecDepth 100000 in
theorem xk_752 : (Jvm.Cond.code ({ cls := "NailRulesModel", name := "isFour", desc := "(I)Z" } : Jvm.MethodName) prog_5_method_4_code (1 : Nat) (Option.some Jvm.ClassFile.FieldType.boolean)) ∈ lw_gd := xb_mem 752 rfl rfl
set_option maxRecDepth 100000 in
theorem xk_753 : (Jvm.Cond.constantLong "NailRulesModel" (97 : Nat) (6 : Int64)) ∈ lw_gd := xb_mem 753 rfl rfl
set_option maxRecDepth 100000 in
theorem xk_754 : (Jvm.Cond.methodLink "NailRulesModel" (99 : Nat) ({ cls := "NailRulesModel", name := "isIn", desc := "(JJJ)Z" } : Jvm.MethodName)) ∈ lw_gd := xb_mem 754 rfl rfl
set_option maxRecDepth 100000 in
theorem xk_755 : (Jvm.Cond.static ({ cls := "NailRulesModel", name := "isIn", desc := "(JJJ)Z" } : Jvm.MethodName)) ∈ lw_gd := xb_mem 755 rfl rfl
set_option maxRecDepth 100000 in
theorem xk_756 : (Jvm.Cond.code ({ cls := "NailRulesModel", name := "isIn", desc := "(JJJ)Z" } : Jvm.MethodName) prog_5_method_3_code (6 : Nat) (Option.some Jvm.ClassFile.FieldType.boolean)) ∈ lw_gd := xb_mem 756 rfl rfl
set_option maxRecDepth 100000 in
theorem xk_757 : (Jvm.Cond.methodLink "NailRulesLaw" (92 : Nat) ({ cls := "NailRulesModel", name := "set", desc := "(II)V" } : Jvm.MethodName)) ∈ lw_gd := xb_mem 757 rfl rfl
set_option maxRecDepth 100000 in
theorem xk_758 : (Jvm.Cond.instanceMethod ({ cls := "NailRulesModel", name := "set", desc := "(II)V" } : Jvm.MethodName)) ∈ lw_gd := xb_mem 758 rfl rfl
set_option maxRecDepth 100000 in
theorem xk_759 : (Jvm.Cond.selects "NailRulesModel" ({ cls := "NailRulesModel", name := "set", desc := "(II)V" } : Jvm.MethodName) ({ cls := "NailRulesModel", name := "set", desc := "(II)V" } : Jvm.MethodName)) ∈ lw_gd := xb_mem 759 rfl rfl
set_option maxRecDepth 100000 in
theorem xk_760 : (Jvm.Cond.code ({ cls := "NailRulesModel", name := "set", desc := "(II)V" } : Jvm.MethodName) prog_5_method_16_code (3 : Nat) (Option.none : Option Jvm.ClassFile.FieldType)) ∈ lw_gd := xb_mem 760 rfl rfl
set_option maxRecDepth 100000 in
theorem xk_761 : (Jvm.Cond.methodLink "NailRulesLaw" (96 : Nat) ({ cls := "NailRulesModel", name := "holds", desc := "(IIIII)J" } : Jvm.MethodName)) ∈ lw_gd := xb_mem 761 rfl rfl
set_option maxRecDepth 100000 in
theorem xk_762 : (Jvm.Cond.instanceMethod ({ cls := "NailRulesModel", name := "holds", desc := "(IIIII)J" } : Jvm.MethodName)) ∈ lw_gd := xb_mem 762 rfl rfl
set_option maxRecDepth 100000 in
theorem xk_763 : (Jvm.Cond.selects "NailRulesModel" ({ cls := "NailRulesModel", name := "holds", desc := "(IIIII)J" } : Jvm.MethodName) ({ cls := "NailRulesModel", name := "holds", desc := "(IIIII)J" } : Jvm.MethodName)) ∈ lw_gd := xb_mem 763 rfl rfl
set_option maxRecDepth 100000 in
theorem xk_764 : (Jvm.Cond.code ({ cls := "NailRulesModel", name := "holds", desc := "(IIIII)J" } : Jvm.MethodName) prog_5_method_18_code (9 : Nat) (Option.some Jvm.ClassFile.FieldType.long)) ∈ lw_gd := xb_mem 764 rfl rfl
set_option maxRecDepth 100000 in
theorem xk_765 : (Jvm.Cond.constantLong "NailRulesModel" (105 : Nat) (1000 : Int64)) ∈ lw_gd := xb_mem 765 rfl rfl
set_option maxRecDepth 100000 in
theorem xk_766 : (Jvm.Cond.constantLong "NailRulesModel" (107 : Nat) (90 : Int64)) ∈ lw_gd := xb_mem 766 rfl rfl
set_option maxRecDepth 100000 in
theorem xk_767 : (Jvm.Cond.methodLink "NailRulesModel" (109 : Nat) ({ cls := "NailRulesModel", name := "formula", desc := "(IIJJ)J" } : Jvm.MethodName)) ∈ lw_gd := xb_mem 767 rfl rfl
set_option maxRecDepth 100000 in
theorem xk_768 : (Jvm.Cond.privateMethod ({ cls := "NailRulesModel", name := "formula", desc := "(IIJJ)J" } : Jvm.MethodName)) ∈ lw_tbl := List.mem_of_getElem? (i := 768) rfl
set_option maxRecDepth 100000 in
theorem xk_769 : (Jvm.Cond.instanceMethod ({ cls := "NailRulesModel", name := "formula", desc := "(IIJJ)J" } : Jvm.MethodName)) ∈ lw_gd := xb_mem 769 rfl rfl
set_option maxRecDepth 100000 in
theorem xk_770 : (Jvm.Cond.code ({ cls := "NailRulesModel", name := "formula", desc := "(IIJJ)J" } : Jvm.MethodName) prog_5_method_17_code (11 : Nat) (Option.some Jvm.ClassFile.FieldType.long)) ∈ lw_gd := xb_mem 770 rfl rfl
set_option maxRecDepth 100000 in
theorem xk_771 : (Jvm.Cond.constantLong "NailRulesModel" (103 : Nat) (4 : Int64)) ∈ lw_gd := xb_mem 771 rfl rfl
set_option maxRecDepth 100000 in
theorem xk_772 : (Jvm.Cond.constantLong "NailRulesModel" (113 : Nat) (200 : Int64)) ∈ lw_gd := xb_mem 772 rfl rfl
set_option maxRecDepth 100000 in
theorem xk_773 : (Jvm.Cond.methodLink "NailRulesLaw" (102 : Nat) ({ cls := "NailRulesModel", name := "together", desc := "(IJ)J" } : Jvm.MethodName)) ∈ lw_gd := xb_mem 773 rfl rfl
set_option maxRecDepth 100000 in
theorem xk_774 : (Jvm.Cond.instanceMethod ({ cls := "NailRulesModel", name := "together", desc := "(IJ)J" } : Jvm.MethodName)) ∈ lw_gd := xb_mem 774 rfl rfl
set_option maxRecDepth 100000 in
theorem xk_775 : (Jvm.Cond.selects "NailRulesModel" ({ cls := "NailRulesModel", name := "together", desc := "(IJ)J" } : Jvm.MethodName) ({ cls := "NailRulesModel", name := "together", desc := "(IJ)J" } : Jvm.MethodName)) ∈ lw_gd := xb_mem 775 rfl rfl
set_option maxRecDepth 100000 in
theorem xk_776 : (Jvm.Cond.code ({ cls := "NailRulesModel", name := "together", desc := "(IJ)J" } : Jvm.MethodName) prog_5_method_20_code (4 : Nat) (Option.some Jvm.ClassFile.FieldType.long)) ∈ lw_gd := xb_mem 776 rfl rfl
set_option maxRecDepth 100000 in
theorem xk_777 : (Jvm.Cond.constantLong "NailRulesModel" (117 : Nat) (1000000000000 : Int64)) ∈ lw_gd := xb_mem 777 rfl rfl
set_option maxRecDepth 100000 in
theorem xk_778 : (Jvm.Cond.methodLink "NailRulesModel" (119 : Nat) ({ cls := "NailRulesModel", name := "all", desc := "(JJ)J" } : Jvm.MethodName)) ∈ lw_gd := xb_mem 778 rfl rfl
set_option maxRecDepth 100000 in
theorem xk_779 : (Jvm.Cond.privateMethod ({ cls := "NailRulesModel", name := "all", desc := "(JJ)J" } : Jvm.MethodName)) ∈ lw_tbl := List.mem_of_getElem? (i := 779) rfl
set_option maxRecDepth 100000 in
theorem xk_780 : (Jvm.Cond.instanceMethod ({ cls := "NailRulesModel", name := "all", desc := "(JJ)J" } : Jvm.MethodName)) ∈ lw_gd := xb_mem 780 rfl rfl
set_option maxRecDepth 100000 in
theorem xk_781 : (Jvm.Cond.code ({ cls := "NailRulesModel", name := "all", desc := "(JJ)J" } : Jvm.MethodName) prog_5_method_19_code (7 : Nat) (Option.some Jvm.ClassFile.FieldType.long)) ∈ lw_gd := xb_mem 781 rfl rfl
set_option maxRecDepth 100000 in
theorem xk_782 : (Jvm.Cond.constantLong "NailRulesModel" (115 : Nat) (50 : Int64)) ∈ lw_gd := xb_mem 782 rfl rfl
set_option maxRecDepth 100000 in
theorem xk_783 : (Jvm.Cond.methodLink "NailRulesLaw" (106 : Nat) ({ cls := "NailRulesModel", name := "count", desc := "(JJ)I" } : Jvm.MethodName)) ∈ lw_gd := xb_mem 783 rfl rfl
set_option maxRecDepth 100000 in
theorem xk_784 : (Jvm.Cond.instanceMethod ({ cls := "NailRulesModel", name := "count", desc := "(JJ)I" } : Jvm.MethodName)) ∈ lw_gd := xb_mem 784 rfl rfl
set_option maxRecDepth 100000 in
theorem xk_785 : (Jvm.Cond.selects "NailRulesModel" ({ cls := "NailRulesModel", name := "count", desc := "(JJ)I" } : Jvm.MethodName) ({ cls := "NailRulesModel", name := "count", desc := "(JJ)I" } : Jvm.MethodName)) ∈ lw_gd := xb_mem 785 rfl rfl
set_option maxRecDepth 100000 in
theorem xk_786 : (Jvm.Cond.code ({ cls := "NailRulesModel", name := "count", desc := "(JJ)I" } : Jvm.MethodName) prog_5_method_21_code (6 : Nat) (Option.some Jvm.ClassFile.FieldType.int)) ∈ lw_gd := xb_mem 786 rfl rfl
set_option maxRecDepth 100000 in
theorem xk_787 : (Jvm.Cond.methodLink "NailRulesLaw" (110 : Nat) ({ cls := "NailRulesModel", name := "pattern", desc := "(IIII)Z" } : Jvm.MethodName)) ∈ lw_gd := xb_mem 787 rfl rfl
set_option maxRecDepth 100000 in
theorem xk_788 : (Jvm.Cond.instanceMethod ({ cls := "NailRulesModel", name := "pattern", desc := "(IIII)Z" } : Jvm.MethodName)) ∈ lw_gd := xb_mem 788 rfl rfl
set_option maxRecDepth 100000 in
theorem xk_789 : (Jvm.Cond.selects "NailRulesModel" ({ cls := "NailRulesModel", name := "pattern", desc := "(IIII)Z" } : Jvm.MethodName) ({ cls := "NailRulesModel", name := "pattern", desc := "(IIII)Z" } : Jvm.MethodName)) ∈ lw_gd := xb_mem 789 rfl rfl
set_option maxRecDepth 100000 in
theorem xk_790 : (Jvm.Cond.code ({ cls := "NailRulesModel", name := "pattern", desc := "(IIII)Z" } : Jvm.MethodName) prog_5_method_24_code (10 : Nat) (Option.some Jvm.ClassFile.FieldType.boolean)) ∈ lw_gd := xb_mem 790 rfl rfl
set_option maxRecDepth 100000 in
theorem xk_791 : (Jvm.Cond.constantLong "NailRulesModel" (123 : Nat) (100000 : Int64)) ∈ lw_gd := xb_mem 791 rfl rfl
set_option maxRecDepth 100000 in
theorem xk_792 : (Jvm.Cond.methodLink "NailRulesModel" (125 : Nat) ({ cls := "NailRulesModel", name := "space", desc := "(II)J" } : Jvm.MethodName)) ∈ lw_gd := xb_mem 792 rfl rfl
set_option maxRecDepth 100000 in
theorem xk_793 : (Jvm.Cond.privateMethod ({ cls := "NailRulesModel", name := "space", desc := "(II)J" } : Jvm.MethodName)) ∈ lw_tbl := List.mem_of_getElem? (i := 793) rfl
set_option maxRecDepth 100000 in
theorem xk_794 : (Jvm.Cond.instanceMethod ({ cls := "NailRulesModel", name := "space", desc := "(II)J" } : Jvm.MethodName)) ∈ lw_gd := xb_mem 794 rfl rfl
set_option maxRecDepth 100000 in
theorem xk_795 : (Jvm.Cond.code ({ cls := "NailRulesModel", name := "space", desc := "(II)J" } : Jvm.MethodName) prog_5_method_22_code (3 : Nat) (Option.some Jvm.ClassFile.FieldType.long)) ∈ lw_gd := xb_mem 795 rfl rfl
set_option maxRecDepth 100000 in
theorem xk_796 : (Jvm.Cond.methodLink "NailRulesModel" (129 : Nat) ({ cls := "NailRulesModel", name := "fits", desc := "(JJJ)J" } : Jvm.MethodName)) ∈ lw_gd := xb_mem 796 rfl rfl
set_option maxRecDepth 100000 in
theorem xk_797 : (Jvm.Cond.static ({ cls := "NailRulesModel", name := "fits", desc := "(JJJ)J" } : Jvm.MethodName)) ∈ lw_gd := xb_mem 797 rfl rfl
set_option maxRecDepth 100000 in
theorem xk_798 : (Jvm.Cond.code ({ cls := "NailRulesModel", name := "fits", desc := "(JJJ)J" } : Jvm.MethodName) prog_5_method_23_code (8 : Nat) (Option.some Jvm.ClassFile.FieldType.long)) ∈ lw_gd := xb_mem 798 rfl rfl
set_option maxRecDepth 100000 in
theorem xk_799 : (Jvm.Cond.methodLink "NailRulesLaw" (113 : Nat) ({ cls := "NailRulesModel", name := "at", desc := "(II)I" } : Jvm.MethodName)) ∈ lw_gd := xb_mem 799 rfl rfl
set_option maxRecDepth 100000 in
theorem xk_800 : (Jvm.Cond.instanceMethod ({ cls := "NailRulesModel", name := "at", desc := "(II)I" } : Jvm.MethodName)) ∈ lw_gd := xb_mem 800 rfl rfl
set_option maxRecDepth 100000 in
theorem xk_801 : (Jvm.Cond.selects "NailRulesModel" ({ cls := "NailRulesModel", name := "at", desc := "(II)I" } : Jvm.MethodName) ({ cls := "NailRulesModel", name := "at", desc := "(II)I" } : Jvm.MethodName)) ∈ lw_gd := xb_mem 801 rfl rfl
set_option maxRecDepth 100000 in
theorem xk_802 : (Jvm.Cond.code ({ cls := "NailRulesModel", name := "at", desc := "(II)I" } : Jvm.MethodName) prog_5_method_25_code (3 : Nat) (Option.some Jvm.ClassFile.FieldType.int)) ∈ lw_gd := xb_mem 802 rfl rfl
set_option maxRecDepth 100000 in
theorem xk_803 : (Jvm.Cond.methodLink "NailRulesLaw" (116 : Nat) ({ cls := "NailRulesModel", name := "place", desc := "(II)I" } : Jvm.MethodName)) ∈ lw_gd := xb_mem 803 rfl rfl
set_option maxRecDepth 100000 in
theorem xk_804 : (Jvm.Cond.instanceMethod ({ cls := "NailRulesModel", name := "place", desc := "(II)I" } : Jvm.MethodName)) ∈ lw_gd := xb_mem 804 rfl rfl
set_option maxRecDepth 100000 in
theorem xk_805 : (Jvm.Cond.selects "NailRulesModel" ({ cls := "NailRulesModel", name := "place", desc := "(II)I" } : Jvm.MethodName) ({ cls := "NailRulesModel", name := "place", desc := "(II)I" } : Jvm.MethodName)) ∈ lw_gd := xb_mem 805 rfl rfl
set_option maxRecDepth 100000 in
theorem xk_806 : (Jvm.Cond.code ({ cls := "NailRulesModel", name := "place", desc := "(II)I" } : Jvm.MethodName) prog_5_method_26_code (3 : Nat) (Option.some Jvm.ClassFile.FieldType.int)) ∈ lw_gd := xb_mem 806 rfl rfl
set_option maxRecDepth 100000 in
theorem xk_807 : (Jvm.Cond.methodLink "NailRulesLaw" (120 : Nat) ({ cls := "NailRulesModel", name := "clear", desc := "()V" } : Jvm.MethodName)) ∈ lw_gd := xb_mem 807 rfl rfl
set_option maxRecDepth 100000 in
theorem xk_808 : (Jvm.Cond.instanceMethod ({ cls := "NailRulesModel", name := "clear", desc := "()V" } : Jvm.MethodName)) ∈ lw_gd := xb_mem 808 rfl rfl
set_option maxRecDepth 100000 in
theorem xk_809 : (Jvm.Cond.selects "NailRulesModel" ({ cls := "NailRulesModel", name := "clear", desc := "()V" } : Jvm.MethodName) ({ cls := "NailRulesModel", name := "clear", desc := "()V" } : Jvm.MethodName)) ∈ lw_gd := xb_mem 809 rfl rfl
set_option maxRecDepth 100000 in
theorem xk_810 : (Jvm.Cond.code ({ cls := "NailRulesModel", name := "clear", desc := "()V" } : Jvm.MethodName) prog_5_method_27_code (1 : Nat) (Option.none : Option Jvm.ClassFile.FieldType)) ∈ lw_gd := xb_mem 810 rfl rfl
set_option maxRecDepth 100000 in
theorem xk_811 : (Jvm.Cond.methodLink "NailRulesLaw" (124 : Nat) ({ cls := "NailRulesModel", name := "keeps", desc := "(III)I" } : Jvm.MethodName)) ∈ lw_gd := xb_mem 811 rfl rfl
set_option maxRecDepth 100000 in
theorem xk_812 : (Jvm.Cond.instanceMethod ({ cls := "NailRulesModel", name := "keeps", desc := "(III)I" } : Jvm.MethodName)) ∈ lw_gd := xb_mem 812 rfl rfl
set_option maxRecDepth 100000 in
theorem xk_813 : (Jvm.Cond.selects "NailRulesModel" ({ cls := "NailRulesModel", name := "keeps", desc := "(III)I" } : Jvm.MethodName) ({ cls := "NailRulesModel", name := "keeps", desc := "(III)I" } : Jvm.MethodName)) ∈ lw_gd := xb_mem 813 rfl rfl
set_option maxRecDepth 100000 in
theorem xk_814 : (Jvm.Cond.code ({ cls := "NailRulesModel", name := "keeps", desc := "(III)I" } : Jvm.MethodName) prog_5_method_28_code (16 : Nat) (Option.some Jvm.ClassFile.FieldType.int)) ∈ lw_gd := xb_mem 814 rfl rfl
set_option maxRecDepth 100000 in
theorem xk_815 : (Jvm.Cond.methodLink "NailRulesLaw" (127 : Nat) ({ cls := "NailRulesModel", name := "member", desc := "(IIIII)I" } : Jvm.MethodName)) ∈ lw_gd := xb_mem 815 rfl rfl
set_option maxRecDepth 100000 in
theorem xk_816 : (Jvm.Cond.instanceMethod ({ cls := "NailRulesModel", name := "member", desc := "(IIIII)I" } : Jvm.MethodName)) ∈ lw_gd := xb_mem 816 rfl rfl
set_option maxRecDepth 100000 in
theorem xk_817 : (Jvm.Cond.selects "NailRulesModel" ({ cls := "NailRulesModel", name := "member", desc := "(IIIII)I" } : Jvm.MethodName) ({ cls := "NailRulesModel", name := "member", desc := "(IIIII)I" } : Jvm.MethodName)) ∈ lw_gd := xb_mem 817 rfl rfl
set_option maxRecDepth 100000 in
theorem xk_818 : (Jvm.Cond.code ({ cls := "NailRulesModel", name := "member", desc := "(IIIII)I" } : Jvm.MethodName) prog_5_method_30_code (7 : Nat) (Option.some Jvm.ClassFile.FieldType.int)) ∈ lw_gd := xb_mem 818 rfl rfl
set_option maxRecDepth 100000 in
theorem xk_819 : (Jvm.Cond.methodLink "NailRulesModel" (146 : Nat) ({ cls := "NailRulesModel", name := "isPlace", desc := "(I)Z" } : Jvm.MethodName)) ∈ lw_gd := xb_mem 819 rfl rfl
set_option maxRecDepth 100000 in
theorem xk_820 : (Jvm.Cond.static ({ cls := "NailRulesModel", name := "isPlace", desc := "(I)Z" } : Jvm.MethodName)) ∈ lw_gd := xb_mem 820 rfl rfl
set_option maxRecDepth 100000 in
theorem xk_821 : (Jvm.Cond.code ({ cls := "NailRulesModel", name := "isPlace", desc := "(I)Z" } : Jvm.MethodName) prog_5_method_29_code (1 : Nat) (Option.some Jvm.ClassFile.FieldType.boolean)) ∈ lw_gd := xb_mem 821 rfl rfl
set_option maxRecDepth 100000 in
theorem xk_822 : (Jvm.Cond.constantLong "NailRulesModel" (142 : Nat) (-10000 : Int64)) ∈ lw_gd := xb_mem 822 rfl rfl
set_option maxRecDepth 100000 in
theorem xk_823 : (Jvm.Cond.constantLong "NailRulesModel" (144 : Nat) (10000 : Int64)) ∈ lw_gd := xb_mem 823 rfl rfl
set_option maxRecDepth 100000 in
theorem xk_824 : (Jvm.Cond.methodLink "NailRulesLaw" (130 : Nat) ({ cls := "NailRulesModel", name := "in", desc := "(III)Z" } : Jvm.MethodName)) ∈ lw_gd := xb_mem 824 rfl rfl
set_option maxRecDepth 100000 in
theorem xk_825 : (Jvm.Cond.instanceMethod ({ cls := "NailRulesModel", name := "in", desc := "(III)Z" } : Jvm.MethodName)) ∈ lw_gd := xb_mem 825 rfl rfl
set_option maxRecDepth 100000 in
theorem xk_826 : (Jvm.Cond.selects "NailRulesModel" ({ cls := "NailRulesModel", name := "in", desc := "(III)Z" } : Jvm.MethodName) ({ cls := "NailRulesModel", name := "in", desc := "(III)Z" } : Jvm.MethodName)) ∈ lw_gd := xb_mem 826 rfl rfl
set_option maxRecDepth 100000 in
theorem xk_827 : (Jvm.Cond.code ({ cls := "NailRulesModel", name := "in", desc := "(III)Z" } : Jvm.MethodName) prog_5_method_33_code (4 : Nat) (Option.some Jvm.ClassFile.FieldType.boolean)) ∈ lw_gd := xb_mem 827 rfl rfl
set_option maxRecDepth 100000 in
theorem xk_828 : (Jvm.Cond.methodLink "NailRulesModel" (152 : Nat) ({ cls := "NailRulesModel", name := "noMember", desc := "(I)Z" } : Jvm.MethodName)) ∈ lw_gd := xb_mem 828 rfl rfl
set_option maxRecDepth 100000 in
theorem xk_829 : (Jvm.Cond.privateMethod ({ cls := "NailRulesModel", name := "noMember", desc := "(I)Z" } : Jvm.MethodName)) ∈ lw_tbl := List.mem_of_getElem? (i := 829) rfl
set_option maxRecDepth 100000 in
theorem xk_830 : (Jvm.Cond.instanceMethod ({ cls := "NailRulesModel", name := "noMember", desc := "(I)Z" } : Jvm.MethodName)) ∈ lw_gd := xb_mem 830 rfl rfl
set_option maxRecDepth 100000 in
theorem xk_831 : (Jvm.Cond.code ({ cls := "NailRulesModel", name := "noMember", desc := "(I)Z" } : Jvm.MethodName) prog_5_method_32_code (2 : Nat) (Option.some Jvm.ClassFile.FieldType.boolean)) ∈ lw_gd := xb_mem 831 rfl rfl
set_option maxRecDepth 100000 in
theorem xk_832 : (Jvm.Cond.methodLink "NailRulesModel" (155 : Nat) ({ cls := "NailRulesModel", name := "isWithin", desc := "(IJJ)Z" } : Jvm.MethodName)) ∈ lw_gd := xb_mem 832 rfl rfl
set_option maxRecDepth 100000 in
theorem xk_833 : (Jvm.Cond.privateMethod ({ cls := "NailRulesModel", name := "isWithin", desc := "(IJJ)Z" } : Jvm.MethodName)) ∈ lw_tbl := List.mem_of_getElem? (i := 833) rfl
set_option maxRecDepth 100000 in
theorem xk_834 : (Jvm.Cond.instanceMethod ({ cls := "NailRulesModel", name := "isWithin", desc := "(IJJ)Z" } : Jvm.MethodName)) ∈ lw_gd := xb_mem 834 rfl rfl
set_option maxRecDepth 100000 in
theorem xk_835 : (Jvm.Cond.code ({ cls := "NailRulesModel", name := "isWithin", desc := "(IJJ)Z" } : Jvm.MethodName) prog_5_method_31_code (20 : Nat) (Option.some Jvm.ClassFile.FieldType.boolean)) ∈ lw_gd := xb_mem 835 rfl rfl
set_option maxRecDepth 100000 in
theorem xk_836 : (Jvm.Cond.methodLink "NailRulesLaw" (134 : Nat) ({ cls := "NailRulesModel", name := "teeth", desc := "(IIIIII)I" } : Jvm.MethodName)) ∈ lw_gd := xb_mem 836 rfl rfl
set_option maxRecDepth 100000 in
theorem xk_837 : (Jvm.Cond.instanceMethod ({ cls := "NailRulesModel", name := "teeth", desc := "(IIIIII)I" } : Jvm.MethodName)) ∈ lw_gd := xb_mem 837 rfl rfl
set_option maxRecDepth 100000 in
theorem xk_838 : (Jvm.Cond.selects "NailRulesModel" ({ cls := "NailRulesModel", name := "teeth", desc := "(IIIIII)I" } : Jvm.MethodName) ({ cls := "NailRulesModel", name := "teeth", desc := "(IIIIII)I" } : Jvm.MethodName)) ∈ lw_gd := xb_mem 838 rfl rfl
set_option maxRecDepth 100000 in
theorem xk_839 : (Jvm.Cond.code ({ cls := "NailRulesModel", name := "teeth", desc := "(IIIIII)I" } : Jvm.MethodName) prog_5_method_34_code (11 : Nat) (Option.some Jvm.ClassFile.FieldType.int)) ∈ lw_gd := xb_mem 839 rfl rfl
set_option maxRecDepth 100000 in
theorem xk_840 : (Jvm.Cond.constantLong "NailRulesModel" (159 : Nat) (10 : Int64)) ∈ lw_gd := xb_mem 840 rfl rfl
set_option maxRecDepth 100000 in
theorem xk_841 : (Jvm.Cond.methodLink "NailRulesLaw" (137 : Nat) ({ cls := "NailRulesModel", name := "thick", desc := "(II)Z" } : Jvm.MethodName)) ∈ lw_gd := xb_mem 841 rfl rfl
set_option maxRecDepth 100000 in
theorem xk_842 : (Jvm.Cond.instanceMethod ({ cls := "NailRulesModel", name := "thick", desc := "(II)Z" } : Jvm.MethodName)) ∈ lw_gd := xb_mem 842 rfl rfl
set_option maxRecDepth 100000 in
theorem xk_843 : (Jvm.Cond.selects "NailRulesModel" ({ cls := "NailRulesModel", name := "thick", desc := "(II)Z" } : Jvm.MethodName) ({ cls := "NailRulesModel", name := "thick", desc := "(II)Z" } : Jvm.MethodName)) ∈ lw_gd := xb_mem 843 rfl rfl
set_option maxRecDepth 100000 in
theorem xk_844 : (Jvm.Cond.code ({ cls := "NailRulesModel", name := "thick", desc := "(II)Z" } : Jvm.MethodName) prog_5_method_35_code (3 : Nat) (Option.some Jvm.ClassFile.FieldType.boolean)) ∈ lw_gd := xb_mem 844 rfl rfl
set_option maxRecDepth 100000 in
theorem xk_845 : (Jvm.Cond.methodLink "NailRulesLaw" (141 : Nat) ({ cls := "NailRulesModel", name := "hole", desc := "(I)I" } : Jvm.MethodName)) ∈ lw_gd := xb_mem 845 rfl rfl
set_option maxRecDepth 100000 in
theorem xk_846 : (Jvm.Cond.instanceMethod ({ cls := "NailRulesModel", name := "hole", desc := "(I)I" } : Jvm.MethodName)) ∈ lw_gd := xb_mem 846 rfl rfl
set_option maxRecDepth 100000 in
theorem xk_847 : (Jvm.Cond.selects "NailRulesModel" ({ cls := "NailRulesModel", name := "hole", desc := "(I)I" } : Jvm.MethodName) ({ cls := "NailRulesModel", name := "hole", desc := "(I)I" } : Jvm.MethodName)) ∈ lw_gd := xb_mem 847 rfl rfl
set_option maxRecDepth 100000 in
theorem xk_848 : (Jvm.Cond.code ({ cls := "NailRulesModel", name := "hole", desc := "(I)I" } : Jvm.MethodName) prog_5_method_36_code (3 : Nat) (Option.some Jvm.ClassFile.FieldType.int)) ∈ lw_gd := xb_mem 848 rfl rfl
set_option maxRecDepth 100000 in
theorem xk_849 : (Jvm.Cond.constantLong "NailRulesLaw" (97 : Nat) (4294967295 : Int64)) ∈ lw_gd := xb_mem 849 rfl rfl
set_option maxRecDepth 100000 in
theorem xk_850 : (Jvm.Cond.arrayClass Jvm.ClassFile.FieldType.long) ∈ lw_gd := xb_mem 850 rfl rfl
set_option maxRecDepth 100000 in
theorem xk_851 : (Jvm.Cond.sameMethod "java/lang/Throwable" "java/lang/Throwable" "fillInStackTrace" "(I)Ljava/lang/Throwable;") ∈ lw_gd := xb_mem 851 rfl rfl
set_option maxRecDepth 100000 in
theorem xk_852 : (Jvm.Cond.castable "NailRules$Member" "NailRules$Member") ∈ lw_tbl := List.mem_of_getElem? (i := 852) rfl
set_option maxRecDepth 100000 in
theorem xk_853 : (Jvm.Cond.sameMethod "[Ljava/lang/Object;" "java/lang/Object" "getClass" "()Ljava/lang/Class;") ∈ lw_gd := xb_mem 853 rfl rfl
set_option maxRecDepth 100000 in
theorem xk_854 : (Jvm.Cond.selects "[Ljava/lang/Object;" ({ cls := "java/lang/Object", name := "getClass", desc := "()Ljava/lang/Class;" } : Jvm.MethodName) ({ cls := "java/lang/Object", name := "getClass", desc := "()Ljava/lang/Class;" } : Jvm.MethodName)) ∈ lw_gd := xb_mem 854 rfl rfl
set_option maxRecDepth 100000 in
theorem xk_855 : (Jvm.Cond.declares ({ cls := "java/lang/Object", name := "getClass", desc := "()Ljava/lang/Class;" } : Jvm.MethodName)) ∈ lw_tbl := List.mem_of_getElem? (i := 855) rfl
set_option maxRecDepth 100000 in
theorem xk_856 : (Jvm.Cond.castable "NailRules" "java/lang/Object") ∈ lw_tbl := List.mem_of_getElem? (i := 856) rfl
set_option maxRecDepth 100000 in
theorem xk_857 : (Jvm.Cond.castable "NailRules$Text" "java/lang/Object") ∈ lw_tbl := List.mem_of_getElem? (i := 857) rfl
set_option maxRecDepth 100000 in
theorem xk_858 : (Jvm.Cond.castable "NailRulesModel" "java/lang/Object") ∈ lw_tbl := List.mem_of_getElem? (i := 858) rfl
set_option maxRecDepth 100000 in
theorem xk_859 : (Jvm.Cond.castable "NailRules$Member" "java/lang/Object") ∈ lw_tbl := List.mem_of_getElem? (i := 859) rfl
set_option maxRecDepth 100000 in
theorem xk_860 : (Jvm.Cond.castable "java/lang/String" "java/lang/Object") ∈ lw_tbl := List.mem_of_getElem? (i := 860) rfl
set_option maxRecDepth 100000 in
theorem xk_861 : (Jvm.Cond.fieldLink "java/lang/String" (9 : Nat) "java/lang/String" "value" "[B") ∈ lw_gd := xb_mem 861 rfl rfl
set_option maxRecDepth 100000 in
theorem xk_862 : (Jvm.Cond.fieldLink "java/lang/String" (15 : Nat) "java/lang/String" "coder" "B") ∈ lw_gd := xb_mem 862 rfl rfl
theorem xi_N : ∀ w ∈ u_ws xR_N xF_N 11, w ∈ lw_gd := List.forall_mem_cons.mpr ⟨xk_125, List.forall_mem_cons.mpr ⟨xk_127, List.forall_mem_cons.mpr ⟨xk_129, List.forall_mem_cons.mpr ⟨xk_131, List.forall_mem_cons.mpr ⟨xk_133, List.forall_mem_cons.mpr ⟨xk_135, List.forall_mem_cons.mpr ⟨xk_137, List.forall_mem_cons.mpr ⟨xk_139, List.forall_mem_cons.mpr ⟨xk_141, List.forall_mem_cons.mpr ⟨xk_143, List.forall_mem_cons.mpr ⟨xk_145, fun _ h => absurd h List.not_mem_nil⟩⟩⟩⟩⟩⟩⟩⟩⟩⟩⟩
theorem xi_T : ∀ w ∈ u_ws xR_T xF_T 3, w ∈ lw_gd := List.forall_mem_cons.mpr ⟨xk_79, List.forall_mem_cons.mpr ⟨xk_81, List.forall_mem_cons.mpr ⟨xk_83, fun _ h => absurd h List.not_mem_nil⟩⟩⟩
theorem xi_M : ∀ w ∈ u_ws xR_M xF_M 5, w ∈ lw_gd := List.forall_mem_cons.mpr ⟨xk_529, List.forall_mem_cons.mpr ⟨xk_531, List.forall_mem_cons.mpr ⟨xk_533, List.forall_mem_cons.mpr ⟨xk_535, List.forall_mem_cons.mpr ⟨xk_537, fun _ h => absurd h List.not_mem_nil⟩⟩⟩⟩⟩
theorem xi_R : ∀ w ∈ u_ws xR_R xF_R 20, w ∈ lw_gd := List.forall_mem_cons.mpr ⟨xk_666, List.forall_mem_cons.mpr ⟨xk_668, List.forall_mem_cons.mpr ⟨xk_670, List.forall_mem_cons.mpr ⟨xk_672, List.forall_mem_cons.mpr ⟨xk_674, List.forall_mem_cons.mpr ⟨xk_676, List.forall_mem_cons.mpr ⟨xk_678, List.forall_mem_cons.mpr ⟨xk_680, List.forall_mem_cons.mpr ⟨xk_682, List.forall_mem_cons.mpr ⟨xk_684, List.forall_mem_cons.mpr ⟨xk_686, List.forall_mem_cons.mpr ⟨xk_688, List.forall_mem_cons.mpr ⟨xk_690, List.forall_mem_cons.mpr ⟨xk_692, List.forall_mem_cons.mpr ⟨xk_694, List.forall_mem_cons.mpr ⟨xk_696, List.forall_mem_cons.mpr ⟨xk_698, List.forall_mem_cons.mpr ⟨xk_700, List.forall_mem_cons.mpr ⟨xk_702, List.forall_mem_cons.mpr ⟨xk_704, fun _ h => absurd h List.not_mem_nil⟩⟩⟩⟩⟩⟩⟩⟩⟩⟩⟩⟩⟩⟩⟩⟩⟩⟩⟩⟩
theorem xi_A : ∀ w ∈ u_ws xR_A xF_A 3, w ∈ lw_gd := List.forall_mem_cons.mpr ⟨xk_106, List.forall_mem_cons.mpr ⟨xk_108, List.forall_mem_cons.mpr ⟨xk_110, fun _ h => absurd h List.not_mem_nil⟩⟩⟩
end
section
theorem dT_init_0 : decode bT_init 0 = .ok (.aload_n 0, 1) := by decide +kernel
theorem dT_init_1 : decode bT_init 1 = .ok (.invokespecial 3, 3) := by decide +kernel
theorem dT_init_4 : decode bT_init 4 = .ok (.aload_n 0, 1) := by decide +kernel
theorem dT_init_5 : decode bT_init 5 = .ok (.sipush 200, 3) := by decide +kernel
theorem dT_init_8 : decode bT_init 8 = .ok (.newarray .char, 2) := by decide +kernel
theorem dT_init_10 : decode bT_init 10 = .ok (.putfield 11, 3) := by decide +kernel
theorem dT_init_13 : decode bT_init 13 = .ok (.aload_n 0, 1) := by decide +kernel
theorem dT_init_14 : decode bT_init 14 = .ok (.iconst 0, 1) := by decide +kernel
theorem dT_init_15 : decode bT_init 15 = .ok (.putfield 15, 3) := by decide +kernel
theorem dT_init_18 : decode bT_init 18 = .ok (.aload_n 0, 1) := by decide +kernel
theorem dT_init_19 : decode bT_init 19 = .ok (.iconst 0, 1) := by decide +kernel
theorem dT_init_20 : decode bT_init 20 = .ok (.putfield 19, 3) := by decide +kernel
theorem dT_init_23 : decode bT_init 23 = .ok (.return_, 1) := by decide +kernel
theorem dT_append_0 : decode bT_append 0 = .ok (.aload_n 0, 1) := by decide +kernel
theorem dT_append_1 : decode bT_append 1 = .ok (.getfield 15, 3) := by decide +kernel
theorem dT_append_4 : decode bT_append 4 = .ok (.sipush 200, 3) := by decide +kernel
theorem dT_append_7 : decode bT_append 7 = .ok (.if_icmp .ge 15, 3) := by decide +kernel
theorem dT_append_10 : decode bT_append 10 = .ok (.iload_n 1, 1) := by decide +kernel
theorem dT_append_11 : decode bT_append 11 = .ok (.bipush 32, 2) := by decide +kernel
theorem dT_append_13 : decode bT_append 13 = .ok (.if_icmp .lt 9, 3) := by decide +kernel
theorem dT_append_16 : decode bT_append 16 = .ok (.iload_n 1, 1) := by decide +kernel
theorem dT_append_17 : decode bT_append 17 = .ok (.bipush 126, 2) := by decide +kernel
theorem dT_append_19 : decode bT_append 19 = .ok (.if_icmp .le 5, 3) := by decide +kernel
theorem dT_append_22 : decode bT_append 22 = .ok (.iconst 0, 1) := by decide +kernel
theorem dT_append_23 : decode bT_append 23 = .ok (.ireturn, 1) := by decide +kernel
theorem dT_append_24 : decode bT_append 24 = .ok (.aload_n 0, 1) := by decide +kernel
theorem dT_append_25 : decode bT_append 25 = .ok (.getfield 11, 3) := by decide +kernel
theorem dT_append_28 : decode bT_append 28 = .ok (.aload_n 0, 1) := by decide +kernel
theorem dT_append_29 : decode bT_append 29 = .ok (.getfield 15, 3) := by decide +kernel
theorem dT_append_32 : decode bT_append 32 = .ok (.iload_n 1, 1) := by decide +kernel
theorem dT_append_33 : decode bT_append 33 = .ok (.i2c, 1) := by decide +kernel
theorem dT_append_34 : decode bT_append 34 = .ok (.castore, 1) := by decide +kernel
theorem dT_append_35 : decode bT_append 35 = .ok (.aload_n 0, 1) := by decide +kernel
theorem dT_append_36 : decode bT_append 36 = .ok (.dup, 1) := by decide +kernel
theorem dT_append_37 : decode bT_append 37 = .ok (.getfield 15, 3) := by decide +kernel
theorem dT_append_40 : decode bT_append 40 = .ok (.iconst 1, 1) := by decide +kernel
theorem dT_append_41 : decode bT_append 41 = .ok (.iadd, 1) := by decide +kernel
theorem dT_append_42 : decode bT_append 42 = .ok (.putfield 15, 3) := by decide +kernel
theorem dT_append_45 : decode bT_append 45 = .ok (.iconst 1, 1) := by decide +kernel
theorem dT_append_46 : decode bT_append 46 = .ok (.ireturn, 1) := by decide +kernel
theorem dT_empty_0 : decode bT_empty 0 = .ok (.aload_n 0, 1) := by decide +kernel
theorem dT_empty_1 : decode bT_empty 1 = .ok (.iconst 0, 1) := by decide +kernel
theorem dT_empty_2 : decode bT_empty 2 = .ok (.putfield 15, 3) := by decide +kernel
theorem dT_empty_5 : decode bT_empty 5 = .ok (.return_, 1) := by decide +kernel
theorem dT_rewind_0 : decode bT_rewind 0 = .ok (.aload_n 0, 1) := by decide +kernel
theorem dT_rewind_1 : decode bT_rewind 1 = .ok (.iconst 0, 1) := by decide +kernel
theorem dT_rewind_2 : decode bT_rewind 2 = .ok (.putfield 19, 3) := by decide +kernel
theorem dT_rewind_5 : decode bT_rewind 5 = .ok (.return_, 1) := by decide +kernel
theorem dT_ended_0 : decode bT_ended 0 = .ok (.aload_n 0, 1) := by decide +kernel
theorem dT_ended_1 : decode bT_ended 1 = .ok (.getfield 19, 3) := by decide +kernel
theorem dT_ended_4 : decode bT_ended 4 = .ok (.aload_n 0, 1) := by decide +kernel
theorem dT_ended_5 : decode bT_ended 5 = .ok (.getfield 15, 3) := by decide +kernel
theorem dT_ended_8 : decode bT_ended 8 = .ok (.if_icmp .lt 7, 3) := by decide +kernel
theorem dT_ended_11 : decode bT_ended 11 = .ok (.iconst 1, 1) := by decide +kernel
theorem dT_ended_12 : decode bT_ended 12 = .ok (.goto 4, 3) := by decide +kernel
theorem dT_ended_15 : decode bT_ended 15 = .ok (.iconst 0, 1) := by decide +kernel
theorem dT_ended_16 : decode bT_ended 16 = .ok (.ireturn, 1) := by decide +kernel
theorem dT_fault_0 : decode bT_fault 0 = .ok (.iconst (-1), 1) := by decide +kernel
theorem dT_fault_1 : decode bT_fault 1 = .ok (.aload_n 0, 1) := by decide +kernel
theorem dT_fault_2 : decode bT_fault 2 = .ok (.getfield 19, 3) := by decide +kernel
theorem dT_fault_5 : decode bT_fault 5 = .ok (.isub, 1) := by decide +kernel
theorem dT_fault_6 : decode bT_fault 6 = .ok (.ireturn, 1) := by decide +kernel
theorem dT_look_0 : decode bT_look 0 = .ok (.iload_n 1, 1) := by decide +kernel
theorem dT_look_1 : decode bT_look 1 = .ok (.ifCond .lt 20, 3) := by decide +kernel
theorem dT_look_4 : decode bT_look 4 = .ok (.iload_n 1, 1) := by decide +kernel
theorem dT_look_5 : decode bT_look 5 = .ok (.aload_n 0, 1) := by decide +kernel
theorem dT_look_6 : decode bT_look 6 = .ok (.getfield 15, 3) := by decide +kernel
theorem dT_look_9 : decode bT_look 9 = .ok (.if_icmp .ge 12, 3) := by decide +kernel
theorem dT_look_12 : decode bT_look 12 = .ok (.aload_n 0, 1) := by decide +kernel
theorem dT_look_13 : decode bT_look 13 = .ok (.getfield 11, 3) := by decide +kernel
theorem dT_look_16 : decode bT_look 16 = .ok (.iload_n 1, 1) := by decide +kernel
theorem dT_look_17 : decode bT_look 17 = .ok (.caload, 1) := by decide +kernel
theorem dT_look_18 : decode bT_look 18 = .ok (.goto 4, 3) := by decide +kernel
theorem dT_look_21 : decode bT_look 21 = .ok (.iconst (-1), 1) := by decide +kernel
theorem dT_look_22 : decode bT_look 22 = .ok (.ireturn, 1) := by decide +kernel
theorem dT_take_0 : decode bT_take 0 = .ok (.aload_n 0, 1) := by decide +kernel
theorem dT_take_1 : decode bT_take 1 = .ok (.aload_n 0, 1) := by decide +kernel
theorem dT_take_2 : decode bT_take 2 = .ok (.getfield 19, 3) := by decide +kernel
theorem dT_take_5 : decode bT_take 5 = .ok (.invokevirtual 22, 3) := by decide +kernel
theorem dT_take_8 : decode bT_take 8 = .ok (.iload_n 1, 1) := by decide +kernel
theorem dT_take_9 : decode bT_take 9 = .ok (.if_icmp .eq 5, 3) := by decide +kernel
theorem dT_take_12 : decode bT_take 12 = .ok (.iconst 0, 1) := by decide +kernel
theorem dT_take_13 : decode bT_take 13 = .ok (.ireturn, 1) := by decide +kernel
theorem dT_take_14 : decode bT_take 14 = .ok (.aload_n 0, 1) := by decide +kernel
theorem dT_take_15 : decode bT_take 15 = .ok (.dup, 1) := by decide +kernel
theorem dT_take_16 : decode bT_take 16 = .ok (.getfield 19, 3) := by decide +kernel
theorem dT_take_19 : decode bT_take 19 = .ok (.iconst 1, 1) := by decide +kernel
theorem dT_take_20 : decode bT_take 20 = .ok (.iadd, 1) := by decide +kernel
theorem dT_take_21 : decode bT_take 21 = .ok (.putfield 19, 3) := by decide +kernel
theorem dT_take_24 : decode bT_take 24 = .ok (.iconst 1, 1) := by decide +kernel
theorem dT_take_25 : decode bT_take 25 = .ok (.ireturn, 1) := by decide +kernel
theorem dT_takeKind_0 : decode bT_takeKind 0 = .ok (.aload_n 0, 1) := by decide +kernel
theorem dT_takeKind_1 : decode bT_takeKind 1 = .ok (.aload_n 0, 1) := by decide +kernel
theorem dT_takeKind_2 : decode bT_takeKind 2 = .ok (.getfield 19, 3) := by decide +kernel
theorem dT_takeKind_5 : decode bT_takeKind 5 = .ok (.invokevirtual 22, 3) := by decide +kernel
theorem dT_takeKind_8 : decode bT_takeKind 8 = .ok (.invokestatic 26, 3) := by decide +kernel
theorem dT_takeKind_11 : decode bT_takeKind 11 = .ok (.istore_n 1, 1) := by decide +kernel
theorem dT_takeKind_12 : decode bT_takeKind 12 = .ok (.iload_n 1, 1) := by decide +kernel
theorem dT_takeKind_13 : decode bT_takeKind 13 = .ok (.iconst (-1), 1) := by decide +kernel
theorem dT_takeKind_14 : decode bT_takeKind 14 = .ok (.if_icmp .eq 13, 3) := by decide +kernel
theorem dT_takeKind_17 : decode bT_takeKind 17 = .ok (.aload_n 0, 1) := by decide +kernel
theorem dT_takeKind_18 : decode bT_takeKind 18 = .ok (.dup, 1) := by decide +kernel
theorem dT_takeKind_19 : decode bT_takeKind 19 = .ok (.getfield 19, 3) := by decide +kernel
theorem dT_takeKind_22 : decode bT_takeKind 22 = .ok (.iconst 1, 1) := by decide +kernel
theorem dT_takeKind_23 : decode bT_takeKind 23 = .ok (.iadd, 1) := by decide +kernel
theorem dT_takeKind_24 : decode bT_takeKind 24 = .ok (.putfield 19, 3) := by decide +kernel
theorem dT_takeKind_27 : decode bT_takeKind 27 = .ok (.iload_n 1, 1) := by decide +kernel
theorem dT_takeKind_28 : decode bT_takeKind 28 = .ok (.ireturn, 1) := by decide +kernel
theorem dT_kindOf_0 : decode bT_kindOf 0 = .ok (.iload_n 0, 1) := by decide +kernel
theorem dT_kindOf_1 : decode bT_kindOf 1 = .ok (.lookupswitch 51 #[(98, 47), (100, 49), (110, 43), (115, 45)], 43) := by decide +kernel
theorem dT_kindOf_44 : decode bT_kindOf 44 = .ok (.iconst 0, 1) := by decide +kernel
theorem dT_kindOf_45 : decode bT_kindOf 45 = .ok (.ireturn, 1) := by decide +kernel
theorem dT_kindOf_46 : decode bT_kindOf 46 = .ok (.iconst 1, 1) := by decide +kernel
theorem dT_kindOf_47 : decode bT_kindOf 47 = .ok (.ireturn, 1) := by decide +kernel
theorem dT_kindOf_48 : decode bT_kindOf 48 = .ok (.iconst 2, 1) := by decide +kernel
theorem dT_kindOf_49 : decode bT_kindOf 49 = .ok (.ireturn, 1) := by decide +kernel
theorem dT_kindOf_50 : decode bT_kindOf 50 = .ok (.iconst 3, 1) := by decide +kernel
theorem dT_kindOf_51 : decode bT_kindOf 51 = .ok (.ireturn, 1) := by decide +kernel
theorem dT_kindOf_52 : decode bT_kindOf 52 = .ok (.iconst (-1), 1) := by decide +kernel
theorem dT_kindOf_53 : decode bT_kindOf 53 = .ok (.ireturn, 1) := by decide +kernel
theorem dT_takeWord_0 : decode bT_takeWord 0 = .ok (.iconst 0, 1) := by decide +kernel
theorem dT_takeWord_1 : decode bT_takeWord 1 = .ok (.istore_n 1, 1) := by decide +kernel
theorem dT_takeWord_2 : decode bT_takeWord 2 = .ok (.iconst 0, 1) := by decide +kernel
theorem dT_takeWord_3 : decode bT_takeWord 3 = .ok (.istore_n 2, 1) := by decide +kernel
theorem dT_takeWord_4 : decode bT_takeWord 4 = .ok (.iload_n 2, 1) := by decide +kernel
theorem dT_takeWord_5 : decode bT_takeWord 5 = .ok (.bipush 7, 2) := by decide +kernel
theorem dT_takeWord_7 : decode bT_takeWord 7 = .ok (.if_icmp .ge 50, 3) := by decide +kernel
theorem dT_takeWord_10 : decode bT_takeWord 10 = .ok (.iload_n 2, 1) := by decide +kernel
theorem dT_takeWord_11 : decode bT_takeWord 11 = .ok (.invokestatic 29, 3) := by decide +kernel
theorem dT_takeWord_14 : decode bT_takeWord 14 = .ok (.astore_n 3, 1) := by decide +kernel
theorem dT_takeWord_15 : decode bT_takeWord 15 = .ok (.aload_n 0, 1) := by decide +kernel
theorem dT_takeWord_16 : decode bT_takeWord 16 = .ok (.aload_n 3, 1) := by decide +kernel
theorem dT_takeWord_17 : decode bT_takeWord 17 = .ok (.invokevirtual 33, 3) := by decide +kernel
theorem dT_takeWord_20 : decode bT_takeWord 20 = .ok (.istore 4, 2) := by decide +kernel
theorem dT_takeWord_22 : decode bT_takeWord 22 = .ok (.iload 4, 2) := by decide +kernel
theorem dT_takeWord_24 : decode bT_takeWord 24 = .ok (.aload_n 3, 1) := by decide +kernel
theorem dT_takeWord_25 : decode bT_takeWord 25 = .ok (.invokevirtual 37, 3) := by decide +kernel
theorem dT_takeWord_28 : decode bT_takeWord 28 = .ok (.if_icmp .ne 16, 3) := by decide +kernel
theorem dT_takeWord_31 : decode bT_takeWord 31 = .ok (.aload_n 0, 1) := by decide +kernel
theorem dT_takeWord_32 : decode bT_takeWord 32 = .ok (.dup, 1) := by decide +kernel
theorem dT_takeWord_33 : decode bT_takeWord 33 = .ok (.getfield 19, 3) := by decide +kernel
theorem dT_takeWord_36 : decode bT_takeWord 36 = .ok (.iload 4, 2) := by decide +kernel
theorem dT_takeWord_38 : decode bT_takeWord 38 = .ok (.iadd, 1) := by decide +kernel
theorem dT_takeWord_39 : decode bT_takeWord 39 = .ok (.putfield 19, 3) := by decide +kernel
theorem dT_takeWord_42 : decode bT_takeWord 42 = .ok (.iload_n 2, 1) := by decide +kernel
theorem dT_takeWord_43 : decode bT_takeWord 43 = .ok (.ireturn, 1) := by decide +kernel
theorem dT_takeWord_44 : decode bT_takeWord 44 = .ok (.iload_n 1, 1) := by decide +kernel
theorem dT_takeWord_45 : decode bT_takeWord 45 = .ok (.iload 4, 2) := by decide +kernel
theorem dT_takeWord_47 : decode bT_takeWord 47 = .ok (.invokestatic 42, 3) := by decide +kernel
theorem dT_takeWord_50 : decode bT_takeWord 50 = .ok (.istore_n 1, 1) := by decide +kernel
theorem dT_takeWord_51 : decode bT_takeWord 51 = .ok (.iinc 2 1, 3) := by decide +kernel
theorem dT_takeWord_54 : decode bT_takeWord 54 = .ok (.goto (-50), 3) := by decide +kernel
theorem dT_takeWord_57 : decode bT_takeWord 57 = .ok (.aload_n 0, 1) := by decide +kernel
theorem dT_takeWord_58 : decode bT_takeWord 58 = .ok (.dup, 1) := by decide +kernel
theorem dT_takeWord_59 : decode bT_takeWord 59 = .ok (.getfield 19, 3) := by decide +kernel
theorem dT_takeWord_62 : decode bT_takeWord 62 = .ok (.iload_n 1, 1) := by decide +kernel
theorem dT_takeWord_63 : decode bT_takeWord 63 = .ok (.iadd, 1) := by decide +kernel
theorem dT_takeWord_64 : decode bT_takeWord 64 = .ok (.putfield 19, 3) := by decide +kernel
theorem dT_takeWord_67 : decode bT_takeWord 67 = .ok (.iconst (-1), 1) := by decide +kernel
theorem dT_takeWord_68 : decode bT_takeWord 68 = .ok (.ireturn, 1) := by decide +kernel
theorem dT_unitsAlike_0 : decode bT_unitsAlike 0 = .ok (.iconst 0, 1) := by decide +kernel
theorem dT_unitsAlike_1 : decode bT_unitsAlike 1 = .ok (.istore_n 2, 1) := by decide +kernel
theorem dT_unitsAlike_2 : decode bT_unitsAlike 2 = .ok (.iload_n 2, 1) := by decide +kernel
theorem dT_unitsAlike_3 : decode bT_unitsAlike 3 = .ok (.aload_n 1, 1) := by decide +kernel
theorem dT_unitsAlike_4 : decode bT_unitsAlike 4 = .ok (.invokevirtual 37, 3) := by decide +kernel
theorem dT_unitsAlike_7 : decode bT_unitsAlike 7 = .ok (.if_icmp .ge 27, 3) := by decide +kernel
theorem dT_unitsAlike_10 : decode bT_unitsAlike 10 = .ok (.aload_n 0, 1) := by decide +kernel
theorem dT_unitsAlike_11 : decode bT_unitsAlike 11 = .ok (.aload_n 0, 1) := by decide +kernel
theorem dT_unitsAlike_12 : decode bT_unitsAlike 12 = .ok (.getfield 19, 3) := by decide +kernel
theorem dT_unitsAlike_15 : decode bT_unitsAlike 15 = .ok (.iload_n 2, 1) := by decide +kernel
theorem dT_unitsAlike_16 : decode bT_unitsAlike 16 = .ok (.iadd, 1) := by decide +kernel
theorem dT_unitsAlike_17 : decode bT_unitsAlike 17 = .ok (.invokevirtual 22, 3) := by decide +kernel
theorem dT_unitsAlike_20 : decode bT_unitsAlike 20 = .ok (.aload_n 1, 1) := by decide +kernel
theorem dT_unitsAlike_21 : decode bT_unitsAlike 21 = .ok (.iload_n 2, 1) := by decide +kernel
theorem dT_unitsAlike_22 : decode bT_unitsAlike 22 = .ok (.invokevirtual 48, 3) := by decide +kernel
theorem dT_unitsAlike_25 : decode bT_unitsAlike 25 = .ok (.if_icmp .ne 9, 3) := by decide +kernel
theorem dT_unitsAlike_28 : decode bT_unitsAlike 28 = .ok (.iinc 2 1, 3) := by decide +kernel
theorem dT_unitsAlike_31 : decode bT_unitsAlike 31 = .ok (.goto (-29), 3) := by decide +kernel
theorem dT_unitsAlike_34 : decode bT_unitsAlike 34 = .ok (.iload_n 2, 1) := by decide +kernel
theorem dT_unitsAlike_35 : decode bT_unitsAlike 35 = .ok (.ireturn, 1) := by decide +kernel
theorem dT_takeNumber_0 : decode bT_takeNumber 0 = .ok (.iconst 0, 1) := by decide +kernel
theorem dT_takeNumber_1 : decode bT_takeNumber 1 = .ok (.istore_n 1, 1) := by decide +kernel
theorem dT_takeNumber_2 : decode bT_takeNumber 2 = .ok (.iconst 0, 1) := by decide +kernel
theorem dT_takeNumber_3 : decode bT_takeNumber 3 = .ok (.istore_n 2, 1) := by decide +kernel
theorem dT_takeNumber_4 : decode bT_takeNumber 4 = .ok (.iload_n 1, 1) := by decide +kernel
theorem dT_takeNumber_5 : decode bT_takeNumber 5 = .ok (.iconst 4, 1) := by decide +kernel
theorem dT_takeNumber_6 : decode bT_takeNumber 6 = .ok (.if_icmp .ge 44, 3) := by decide +kernel
theorem dT_takeNumber_9 : decode bT_takeNumber 9 = .ok (.aload_n 0, 1) := by decide +kernel
theorem dT_takeNumber_10 : decode bT_takeNumber 10 = .ok (.aload_n 0, 1) := by decide +kernel
theorem dT_takeNumber_11 : decode bT_takeNumber 11 = .ok (.getfield 19, 3) := by decide +kernel
theorem dT_takeNumber_14 : decode bT_takeNumber 14 = .ok (.iload_n 1, 1) := by decide +kernel
theorem dT_takeNumber_15 : decode bT_takeNumber 15 = .ok (.iadd, 1) := by decide +kernel
theorem dT_takeNumber_16 : decode bT_takeNumber 16 = .ok (.invokevirtual 22, 3) := by decide +kernel
theorem dT_takeNumber_19 : decode bT_takeNumber 19 = .ok (.invokestatic 52, 3) := by decide +kernel
theorem dT_takeNumber_22 : decode bT_takeNumber 22 = .ok (.ifCond .eq 28, 3) := by decide +kernel
theorem dT_takeNumber_25 : decode bT_takeNumber 25 = .ok (.iload_n 2, 1) := by decide +kernel
theorem dT_takeNumber_26 : decode bT_takeNumber 26 = .ok (.bipush 10, 2) := by decide +kernel
theorem dT_takeNumber_28 : decode bT_takeNumber 28 = .ok (.imul, 1) := by decide +kernel
theorem dT_takeNumber_29 : decode bT_takeNumber 29 = .ok (.aload_n 0, 1) := by decide +kernel
theorem dT_takeNumber_30 : decode bT_takeNumber 30 = .ok (.aload_n 0, 1) := by decide +kernel
theorem dT_takeNumber_31 : decode bT_takeNumber 31 = .ok (.getfield 19, 3) := by decide +kernel
theorem dT_takeNumber_34 : decode bT_takeNumber 34 = .ok (.iload_n 1, 1) := by decide +kernel
theorem dT_takeNumber_35 : decode bT_takeNumber 35 = .ok (.iadd, 1) := by decide +kernel
theorem dT_takeNumber_36 : decode bT_takeNumber 36 = .ok (.invokevirtual 22, 3) := by decide +kernel
theorem dT_takeNumber_39 : decode bT_takeNumber 39 = .ok (.bipush 48, 2) := by decide +kernel
theorem dT_takeNumber_41 : decode bT_takeNumber 41 = .ok (.isub, 1) := by decide +kernel
theorem dT_takeNumber_42 : decode bT_takeNumber 42 = .ok (.iadd, 1) := by decide +kernel
theorem dT_takeNumber_43 : decode bT_takeNumber 43 = .ok (.istore_n 2, 1) := by decide +kernel
theorem dT_takeNumber_44 : decode bT_takeNumber 44 = .ok (.iinc 1 1, 3) := by decide +kernel
theorem dT_takeNumber_47 : decode bT_takeNumber 47 = .ok (.goto (-43), 3) := by decide +kernel
theorem dT_takeNumber_50 : decode bT_takeNumber 50 = .ok (.iload_n 2, 1) := by decide +kernel
theorem dT_takeNumber_51 : decode bT_takeNumber 51 = .ok (.ifCond .ne 5, 3) := by decide +kernel
theorem dT_takeNumber_54 : decode bT_takeNumber 54 = .ok (.iconst (-1), 1) := by decide +kernel
theorem dT_takeNumber_55 : decode bT_takeNumber 55 = .ok (.ireturn, 1) := by decide +kernel
theorem dT_takeNumber_56 : decode bT_takeNumber 56 = .ok (.aload_n 0, 1) := by decide +kernel
theorem dT_takeNumber_57 : decode bT_takeNumber 57 = .ok (.dup, 1) := by decide +kernel
theorem dT_takeNumber_58 : decode bT_takeNumber 58 = .ok (.getfield 19, 3) := by decide +kernel
theorem dT_takeNumber_61 : decode bT_takeNumber 61 = .ok (.iload_n 1, 1) := by decide +kernel
theorem dT_takeNumber_62 : decode bT_takeNumber 62 = .ok (.iadd, 1) := by decide +kernel
theorem dT_takeNumber_63 : decode bT_takeNumber 63 = .ok (.putfield 19, 3) := by decide +kernel
theorem dT_takeNumber_66 : decode bT_takeNumber 66 = .ok (.iload_n 2, 1) := by decide +kernel
theorem dT_takeNumber_67 : decode bT_takeNumber 67 = .ok (.ireturn, 1) := by decide +kernel
theorem dT_isDigit_0 : decode bT_isDigit 0 = .ok (.iload_n 0, 1) := by decide +kernel
theorem dT_isDigit_1 : decode bT_isDigit 1 = .ok (.bipush 48, 2) := by decide +kernel
theorem dT_isDigit_3 : decode bT_isDigit 3 = .ok (.if_icmp .lt 13, 3) := by decide +kernel
theorem dT_isDigit_6 : decode bT_isDigit 6 = .ok (.iload_n 0, 1) := by decide +kernel
theorem dT_isDigit_7 : decode bT_isDigit 7 = .ok (.bipush 57, 2) := by decide +kernel
theorem dT_isDigit_9 : decode bT_isDigit 9 = .ok (.if_icmp .gt 7, 3) := by decide +kernel
theorem dT_isDigit_12 : decode bT_isDigit 12 = .ok (.iconst 1, 1) := by decide +kernel
theorem dT_isDigit_13 : decode bT_isDigit 13 = .ok (.goto 4, 3) := by decide +kernel
theorem dT_isDigit_16 : decode bT_isDigit 16 = .ok (.iconst 0, 1) := by decide +kernel
theorem dT_isDigit_17 : decode bT_isDigit 17 = .ok (.ireturn, 1) := by decide +kernel
theorem dM_init_0 : decode bM_init 0 = .ok (.aload_n 0, 1) := by decide +kernel
theorem dM_init_1 : decode bM_init 1 = .ok (.invokespecial 1, 3) := by decide +kernel
theorem dM_init_4 : decode bM_init 4 = .ok (.aload_n 0, 1) := by decide +kernel
theorem dM_init_5 : decode bM_init 5 = .ok (.iload_n 1, 1) := by decide +kernel
theorem dM_init_6 : decode bM_init 6 = .ok (.i2l, 1) := by decide +kernel
theorem dM_init_7 : decode bM_init 7 = .ok (.putfield 7, 3) := by decide +kernel
theorem dM_init_10 : decode bM_init 10 = .ok (.aload_n 0, 1) := by decide +kernel
theorem dM_init_11 : decode bM_init 11 = .ok (.iload_n 2, 1) := by decide +kernel
theorem dM_init_12 : decode bM_init 12 = .ok (.i2l, 1) := by decide +kernel
theorem dM_init_13 : decode bM_init 13 = .ok (.putfield 13, 3) := by decide +kernel
theorem dM_init_16 : decode bM_init 16 = .ok (.aload_n 0, 1) := by decide +kernel
theorem dM_init_17 : decode bM_init 17 = .ok (.iload_n 3, 1) := by decide +kernel
theorem dM_init_18 : decode bM_init 18 = .ok (.iload_n 1, 1) := by decide +kernel
theorem dM_init_19 : decode bM_init 19 = .ok (.isub, 1) := by decide +kernel
theorem dM_init_20 : decode bM_init 20 = .ok (.i2l, 1) := by decide +kernel
theorem dM_init_21 : decode bM_init 21 = .ok (.putfield 16, 3) := by decide +kernel
theorem dM_init_24 : decode bM_init 24 = .ok (.aload_n 0, 1) := by decide +kernel
theorem dM_init_25 : decode bM_init 25 = .ok (.iload 4, 2) := by decide +kernel
theorem dM_init_27 : decode bM_init 27 = .ok (.iload_n 2, 1) := by decide +kernel
theorem dM_init_28 : decode bM_init 28 = .ok (.isub, 1) := by decide +kernel
theorem dM_init_29 : decode bM_init 29 = .ok (.i2l, 1) := by decide +kernel
theorem dM_init_30 : decode bM_init 30 = .ok (.putfield 19, 3) := by decide +kernel
theorem dM_init_33 : decode bM_init 33 = .ok (.aload_n 0, 1) := by decide +kernel
theorem dM_init_34 : decode bM_init 34 = .ok (.iload 5, 2) := by decide +kernel
theorem dM_init_36 : decode bM_init 36 = .ok (.i2l, 1) := by decide +kernel
theorem dM_init_37 : decode bM_init 37 = .ok (.putfield 22, 3) := by decide +kernel
theorem dM_init_40 : decode bM_init 40 = .ok (.return_, 1) := by decide +kernel
theorem dM_grips_0 : decode bM_grips 0 = .ok (.iload_n 1, 1) := by decide +kernel
theorem dM_grips_1 : decode bM_grips 1 = .ok (.i2l, 1) := by decide +kernel
theorem dM_grips_2 : decode bM_grips 2 = .ok (.aload_n 0, 1) := by decide +kernel
theorem dM_grips_3 : decode bM_grips 3 = .ok (.getfield 7, 3) := by decide +kernel
theorem dM_grips_6 : decode bM_grips 6 = .ok (.lsub, 1) := by decide +kernel
theorem dM_grips_7 : decode bM_grips 7 = .ok (.lstore_n 3, 1) := by decide +kernel
theorem dM_grips_8 : decode bM_grips 8 = .ok (.iload_n 2, 1) := by decide +kernel
theorem dM_grips_9 : decode bM_grips 9 = .ok (.i2l, 1) := by decide +kernel
theorem dM_grips_10 : decode bM_grips 10 = .ok (.aload_n 0, 1) := by decide +kernel
theorem dM_grips_11 : decode bM_grips 11 = .ok (.getfield 13, 3) := by decide +kernel
theorem dM_grips_14 : decode bM_grips 14 = .ok (.lsub, 1) := by decide +kernel
theorem dM_grips_15 : decode bM_grips 15 = .ok (.lstore 5, 2) := by decide +kernel
theorem dM_grips_17 : decode bM_grips 17 = .ok (.aload_n 0, 1) := by decide +kernel
theorem dM_grips_18 : decode bM_grips 18 = .ok (.getfield 16, 3) := by decide +kernel
theorem dM_grips_21 : decode bM_grips 21 = .ok (.aload_n 0, 1) := by decide +kernel
theorem dM_grips_22 : decode bM_grips 22 = .ok (.getfield 16, 3) := by decide +kernel
theorem dM_grips_25 : decode bM_grips 25 = .ok (.lmul, 1) := by decide +kernel
theorem dM_grips_26 : decode bM_grips 26 = .ok (.aload_n 0, 1) := by decide +kernel
theorem dM_grips_27 : decode bM_grips 27 = .ok (.getfield 19, 3) := by decide +kernel
theorem dM_grips_30 : decode bM_grips 30 = .ok (.aload_n 0, 1) := by decide +kernel
theorem dM_grips_31 : decode bM_grips 31 = .ok (.getfield 19, 3) := by decide +kernel
theorem dM_grips_34 : decode bM_grips 34 = .ok (.lmul, 1) := by decide +kernel
theorem dM_grips_35 : decode bM_grips 35 = .ok (.ladd, 1) := by decide +kernel
theorem dM_grips_36 : decode bM_grips 36 = .ok (.lstore 7, 2) := by decide +kernel
theorem dM_grips_38 : decode bM_grips 38 = .ok (.aload_n 0, 1) := by decide +kernel
theorem dM_grips_39 : decode bM_grips 39 = .ok (.getfield 16, 3) := by decide +kernel
theorem dM_grips_42 : decode bM_grips 42 = .ok (.lload_n 3, 1) := by decide +kernel
theorem dM_grips_43 : decode bM_grips 43 = .ok (.lmul, 1) := by decide +kernel
theorem dM_grips_44 : decode bM_grips 44 = .ok (.aload_n 0, 1) := by decide +kernel
theorem dM_grips_45 : decode bM_grips 45 = .ok (.getfield 19, 3) := by decide +kernel
theorem dM_grips_48 : decode bM_grips 48 = .ok (.lload 5, 2) := by decide +kernel
theorem dM_grips_50 : decode bM_grips 50 = .ok (.lmul, 1) := by decide +kernel
theorem dM_grips_51 : decode bM_grips 51 = .ok (.ladd, 1) := by decide +kernel
theorem dM_grips_52 : decode bM_grips 52 = .ok (.lstore 9, 2) := by decide +kernel
theorem dM_grips_54 : decode bM_grips 54 = .ok (.lload 9, 2) := by decide +kernel
theorem dM_grips_56 : decode bM_grips 56 = .ok (.lconst 0, 1) := by decide +kernel
theorem dM_grips_57 : decode bM_grips 57 = .ok (.lcmp, 1) := by decide +kernel
theorem dM_grips_58 : decode bM_grips 58 = .ok (.ifCond .lt 11, 3) := by decide +kernel
theorem dM_grips_61 : decode bM_grips 61 = .ok (.lload 9, 2) := by decide +kernel
theorem dM_grips_63 : decode bM_grips 63 = .ok (.lload 7, 2) := by decide +kernel
theorem dM_grips_65 : decode bM_grips 65 = .ok (.lcmp, 1) := by decide +kernel
theorem dM_grips_66 : decode bM_grips 66 = .ok (.ifCond .le 5, 3) := by decide +kernel
theorem dM_grips_69 : decode bM_grips 69 = .ok (.iconst 0, 1) := by decide +kernel
theorem dM_grips_70 : decode bM_grips 70 = .ok (.ireturn, 1) := by decide +kernel
theorem dM_grips_71 : decode bM_grips 71 = .ok (.aload_n 0, 1) := by decide +kernel
theorem dM_grips_72 : decode bM_grips 72 = .ok (.getfield 16, 3) := by decide +kernel
theorem dM_grips_75 : decode bM_grips 75 = .ok (.lload 5, 2) := by decide +kernel
theorem dM_grips_77 : decode bM_grips 77 = .ok (.lmul, 1) := by decide +kernel
theorem dM_grips_78 : decode bM_grips 78 = .ok (.aload_n 0, 1) := by decide +kernel
theorem dM_grips_79 : decode bM_grips 79 = .ok (.getfield 19, 3) := by decide +kernel
theorem dM_grips_82 : decode bM_grips 82 = .ok (.lload_n 3, 1) := by decide +kernel
theorem dM_grips_83 : decode bM_grips 83 = .ok (.lmul, 1) := by decide +kernel
theorem dM_grips_84 : decode bM_grips 84 = .ok (.lsub, 1) := by decide +kernel
theorem dM_grips_85 : decode bM_grips 85 = .ok (.lstore 11, 2) := by decide +kernel
theorem dM_grips_87 : decode bM_grips 87 = .ok (.ldc2_w 25, 3) := by decide +kernel
theorem dM_grips_90 : decode bM_grips 90 = .ok (.lload 11, 2) := by decide +kernel
theorem dM_grips_92 : decode bM_grips 92 = .ok (.lmul, 1) := by decide +kernel
theorem dM_grips_93 : decode bM_grips 93 = .ok (.lload 11, 2) := by decide +kernel
theorem dM_grips_95 : decode bM_grips 95 = .ok (.lmul, 1) := by decide +kernel
theorem dM_grips_96 : decode bM_grips 96 = .ok (.aload_n 0, 1) := by decide +kernel
theorem dM_grips_97 : decode bM_grips 97 = .ok (.getfield 22, 3) := by decide +kernel
theorem dM_grips_100 : decode bM_grips 100 = .ok (.aload_n 0, 1) := by decide +kernel
theorem dM_grips_101 : decode bM_grips 101 = .ok (.getfield 22, 3) := by decide +kernel
theorem dM_grips_104 : decode bM_grips 104 = .ok (.lmul, 1) := by decide +kernel
theorem dM_grips_105 : decode bM_grips 105 = .ok (.lload 7, 2) := by decide +kernel
theorem dM_grips_107 : decode bM_grips 107 = .ok (.lmul, 1) := by decide +kernel
theorem dM_grips_108 : decode bM_grips 108 = .ok (.lcmp, 1) := by decide +kernel
theorem dM_grips_109 : decode bM_grips 109 = .ok (.ifCond .gt 7, 3) := by decide +kernel
theorem dM_grips_112 : decode bM_grips 112 = .ok (.iconst 1, 1) := by decide +kernel
theorem dM_grips_113 : decode bM_grips 113 = .ok (.goto 4, 3) := by decide +kernel
theorem dM_grips_116 : decode bM_grips 116 = .ok (.iconst 0, 1) := by decide +kernel
theorem dM_grips_117 : decode bM_grips 117 = .ok (.ireturn, 1) := by decide +kernel
theorem dN_init_0 : decode bN_init 0 = .ok (.aload_n 0, 1) := by decide +kernel
theorem dN_init_1 : decode bN_init 1 = .ok (.invokespecial 1, 3) := by decide +kernel
theorem dN_init_4 : decode bN_init 4 = .ok (.aload_n 0, 1) := by decide +kernel
theorem dN_init_5 : decode bN_init 5 = .ok (.new 7, 3) := by decide +kernel
theorem dN_init_8 : decode bN_init 8 = .ok (.dup, 1) := by decide +kernel
theorem dN_init_9 : decode bN_init 9 = .ok (.invokespecial 9, 3) := by decide +kernel
theorem dN_init_12 : decode bN_init 12 = .ok (.putfield 10, 3) := by decide +kernel
theorem dN_init_15 : decode bN_init 15 = .ok (.aload_n 0, 1) := by decide +kernel
theorem dN_init_16 : decode bN_init 16 = .ok (.bipush 28, 2) := by decide +kernel
theorem dN_init_18 : decode bN_init 18 = .ok (.newarray .int, 2) := by decide +kernel
theorem dN_init_20 : decode bN_init 20 = .ok (.putfield 16, 3) := by decide +kernel
theorem dN_init_23 : decode bN_init 23 = .ok (.iconst 0, 1) := by decide +kernel
theorem dN_init_24 : decode bN_init 24 = .ok (.istore_n 1, 1) := by decide +kernel
theorem dN_init_25 : decode bN_init 25 = .ok (.iload_n 1, 1) := by decide +kernel
theorem dN_init_26 : decode bN_init 26 = .ok (.aload_n 0, 1) := by decide +kernel
theorem dN_init_27 : decode bN_init 27 = .ok (.getfield 16, 3) := by decide +kernel
theorem dN_init_30 : decode bN_init 30 = .ok (.arraylength, 1) := by decide +kernel
theorem dN_init_31 : decode bN_init 31 = .ok (.if_icmp .ge 16, 3) := by decide +kernel
theorem dN_init_34 : decode bN_init 34 = .ok (.aload_n 0, 1) := by decide +kernel
theorem dN_init_35 : decode bN_init 35 = .ok (.getfield 16, 3) := by decide +kernel
theorem dN_init_38 : decode bN_init 38 = .ok (.iload_n 1, 1) := by decide +kernel
theorem dN_init_39 : decode bN_init 39 = .ok (.iconst 1, 1) := by decide +kernel
theorem dN_init_40 : decode bN_init 40 = .ok (.iastore, 1) := by decide +kernel
theorem dN_init_41 : decode bN_init 41 = .ok (.iinc 1 1, 3) := by decide +kernel
theorem dN_init_44 : decode bN_init 44 = .ok (.goto (-19), 3) := by decide +kernel
theorem dN_init_47 : decode bN_init 47 = .ok (.aload_n 0, 1) := by decide +kernel
theorem dN_init_48 : decode bN_init 48 = .ok (.bipush 100, 2) := by decide +kernel
theorem dN_init_50 : decode bN_init 50 = .ok (.putfield 20, 3) := by decide +kernel
theorem dN_init_53 : decode bN_init 53 = .ok (.aload_n 0, 1) := by decide +kernel
theorem dN_init_54 : decode bN_init 54 = .ok (.iconst 2, 1) := by decide +kernel
theorem dN_init_55 : decode bN_init 55 = .ok (.putfield 24, 3) := by decide +kernel
theorem dN_init_58 : decode bN_init 58 = .ok (.aload_n 0, 1) := by decide +kernel
theorem dN_init_59 : decode bN_init 59 = .ok (.bipush 100, 2) := by decide +kernel
theorem dN_init_61 : decode bN_init 61 = .ok (.newarray .int, 2) := by decide +kernel
theorem dN_init_63 : decode bN_init 63 = .ok (.putfield 27, 3) := by decide +kernel
theorem dN_init_66 : decode bN_init 66 = .ok (.aload_n 0, 1) := by decide +kernel
theorem dN_init_67 : decode bN_init 67 = .ok (.bipush 100, 2) := by decide +kernel
theorem dN_init_69 : decode bN_init 69 = .ok (.newarray .int, 2) := by decide +kernel
theorem dN_init_71 : decode bN_init 71 = .ok (.putfield 30, 3) := by decide +kernel
theorem dN_init_74 : decode bN_init 74 = .ok (.aload_n 0, 1) := by decide +kernel
theorem dN_init_75 : decode bN_init 75 = .ok (.iconst 0, 1) := by decide +kernel
theorem dN_init_76 : decode bN_init 76 = .ok (.putfield 33, 3) := by decide +kernel
theorem dN_init_79 : decode bN_init 79 = .ok (.aload_n 0, 1) := by decide +kernel
theorem dN_init_80 : decode bN_init 80 = .ok (.bipush 32, 2) := by decide +kernel
theorem dN_init_82 : decode bN_init 82 = .ok (.newarray .int, 2) := by decide +kernel
theorem dN_init_84 : decode bN_init 84 = .ok (.putfield 36, 3) := by decide +kernel
theorem dN_init_87 : decode bN_init 87 = .ok (.aload_n 0, 1) := by decide +kernel
theorem dN_init_88 : decode bN_init 88 = .ok (.bipush 32, 2) := by decide +kernel
theorem dN_init_90 : decode bN_init 90 = .ok (.newarray .int, 2) := by decide +kernel
theorem dN_init_92 : decode bN_init 92 = .ok (.putfield 39, 3) := by decide +kernel
theorem dN_init_95 : decode bN_init 95 = .ok (.aload_n 0, 1) := by decide +kernel
theorem dN_init_96 : decode bN_init 96 = .ok (.iconst 0, 1) := by decide +kernel
theorem dN_init_97 : decode bN_init 97 = .ok (.putfield 42, 3) := by decide +kernel
theorem dN_init_100 : decode bN_init 100 = .ok (.aload_n 0, 1) := by decide +kernel
theorem dN_init_101 : decode bN_init 101 = .ok (.new 45, 3) := by decide +kernel
theorem dN_init_104 : decode bN_init 104 = .ok (.dup, 1) := by decide +kernel
theorem dN_init_105 : decode bN_init 105 = .ok (.invokespecial 47, 3) := by decide +kernel
theorem dN_init_108 : decode bN_init 108 = .ok (.putfield 48, 3) := by decide +kernel
theorem dN_init_111 : decode bN_init 111 = .ok (.return_, 1) := by decide +kernel
theorem dN_unit_0 : decode bN_unit 0 = .ok (.aload_n 0, 1) := by decide +kernel
theorem dN_unit_1 : decode bN_unit 1 = .ok (.getfield 10, 3) := by decide +kernel
theorem dN_unit_4 : decode bN_unit 4 = .ok (.iload_n 1, 1) := by decide +kernel
theorem dN_unit_5 : decode bN_unit 5 = .ok (.invokevirtual 52, 3) := by decide +kernel
theorem dN_unit_8 : decode bN_unit 8 = .ok (.ireturn, 1) := by decide +kernel
theorem dN_read_0 : decode bN_read 0 = .ok (.aload_n 0, 1) := by decide +kernel
theorem dN_read_1 : decode bN_read 1 = .ok (.invokevirtual 56, 3) := by decide +kernel
theorem dN_read_4 : decode bN_read 4 = .ok (.istore_n 1, 1) := by decide +kernel
theorem dN_read_5 : decode bN_read 5 = .ok (.aload_n 0, 1) := by decide +kernel
theorem dN_read_6 : decode bN_read 6 = .ok (.getfield 10, 3) := by decide +kernel
theorem dN_read_9 : decode bN_read 9 = .ok (.invokevirtual 60, 3) := by decide +kernel
theorem dN_read_12 : decode bN_read 12 = .ok (.iload_n 1, 1) := by decide +kernel
theorem dN_read_13 : decode bN_read 13 = .ok (.ireturn, 1) := by decide +kernel
theorem dN_rule_0 : decode bN_rule 0 = .ok (.iload_n 1, 1) := by decide +kernel
theorem dN_rule_1 : decode bN_rule 1 = .ok (.iconst 4, 1) := by decide +kernel
theorem dN_rule_2 : decode bN_rule 2 = .ok (.invokestatic 63, 3) := by decide +kernel
theorem dN_rule_5 : decode bN_rule 5 = .ok (.iload_n 2, 1) := by decide +kernel
theorem dN_rule_6 : decode bN_rule 6 = .ok (.bipush 7, 2) := by decide +kernel
theorem dN_rule_8 : decode bN_rule 8 = .ok (.invokestatic 63, 3) := by decide +kernel
theorem dN_rule_11 : decode bN_rule 11 = .ok (.aload_n 0, 1) := by decide +kernel
theorem dN_rule_12 : decode bN_rule 12 = .ok (.iload_n 1, 1) := by decide +kernel
theorem dN_rule_13 : decode bN_rule 13 = .ok (.iload_n 2, 1) := by decide +kernel
theorem dN_rule_14 : decode bN_rule 14 = .ok (.invokevirtual 67, 3) := by decide +kernel
theorem dN_rule_17 : decode bN_rule 17 = .ok (.ireturn, 1) := by decide +kernel
theorem dN_set_0 : decode bN_set 0 = .ok (.iload_n 1, 1) := by decide +kernel
theorem dN_set_1 : decode bN_set 1 = .ok (.iconst 2, 1) := by decide +kernel
theorem dN_set_2 : decode bN_set 2 = .ok (.invokestatic 63, 3) := by decide +kernel
theorem dN_set_5 : decode bN_set 5 = .ok (.iload_n 1, 1) := by decide +kernel
theorem dN_set_6 : decode bN_set 6 = .ok (.ifCond .ne 20, 3) := by decide +kernel
theorem dN_set_9 : decode bN_set 9 = .ok (.iload_n 2, 1) := by decide +kernel
theorem dN_set_10 : decode bN_set 10 = .ok (.i2l, 1) := by decide +kernel
theorem dN_set_11 : decode bN_set 11 = .ok (.lconst 1, 1) := by decide +kernel
theorem dN_set_12 : decode bN_set 12 = .ok (.ldc2_w 71, 3) := by decide +kernel
theorem dN_set_15 : decode bN_set 15 = .ok (.invokestatic 73, 3) := by decide +kernel
theorem dN_set_18 : decode bN_set 18 = .ok (.aload_n 0, 1) := by decide +kernel
theorem dN_set_19 : decode bN_set 19 = .ok (.iload_n 2, 1) := by decide +kernel
theorem dN_set_20 : decode bN_set 20 = .ok (.putfield 20, 3) := by decide +kernel
theorem dN_set_23 : decode bN_set 23 = .ok (.goto 17, 3) := by decide +kernel
theorem dN_set_26 : decode bN_set 26 = .ok (.iload_n 2, 1) := by decide +kernel
theorem dN_set_27 : decode bN_set 27 = .ok (.i2l, 1) := by decide +kernel
theorem dN_set_28 : decode bN_set 28 = .ok (.lconst 0, 1) := by decide +kernel
theorem dN_set_29 : decode bN_set 29 = .ok (.ldc2_w 71, 3) := by decide +kernel
theorem dN_set_32 : decode bN_set 32 = .ok (.invokestatic 73, 3) := by decide +kernel
theorem dN_set_35 : decode bN_set 35 = .ok (.aload_n 0, 1) := by decide +kernel
theorem dN_set_36 : decode bN_set 36 = .ok (.iload_n 2, 1) := by decide +kernel
theorem dN_set_37 : decode bN_set 37 = .ok (.putfield 24, 3) := by decide +kernel
theorem dN_set_40 : decode bN_set 40 = .ok (.return_, 1) := by decide +kernel
theorem dN_holds_0 : decode bN_holds 0 = .ok (.iload_n 1, 1) := by decide +kernel
theorem dN_holds_1 : decode bN_holds 1 = .ok (.iconst 4, 1) := by decide +kernel
theorem dN_holds_2 : decode bN_holds 2 = .ok (.invokestatic 63, 3) := by decide +kernel
theorem dN_holds_5 : decode bN_holds 5 = .ok (.iload 5, 2) := by decide +kernel
theorem dN_holds_7 : decode bN_holds 7 = .ok (.iconst 2, 1) := by decide +kernel
theorem dN_holds_8 : decode bN_holds 8 = .ok (.invokestatic 63, 3) := by decide +kernel
theorem dN_holds_11 : decode bN_holds 11 = .ok (.iload_n 2, 1) := by decide +kernel
theorem dN_holds_12 : decode bN_holds 12 = .ok (.i2l, 1) := by decide +kernel
theorem dN_holds_13 : decode bN_holds 13 = .ok (.lconst 1, 1) := by decide +kernel
theorem dN_holds_14 : decode bN_holds 14 = .ok (.ldc2_w 77, 3) := by decide +kernel
theorem dN_holds_17 : decode bN_holds 17 = .ok (.invokestatic 73, 3) := by decide +kernel
theorem dN_holds_20 : decode bN_holds 20 = .ok (.iload_n 3, 1) := by decide +kernel
theorem dN_holds_21 : decode bN_holds 21 = .ok (.i2l, 1) := by decide +kernel
theorem dN_holds_22 : decode bN_holds 22 = .ok (.lconst 1, 1) := by decide +kernel
theorem dN_holds_23 : decode bN_holds 23 = .ok (.ldc2_w 77, 3) := by decide +kernel
theorem dN_holds_26 : decode bN_holds 26 = .ok (.invokestatic 73, 3) := by decide +kernel
theorem dN_holds_29 : decode bN_holds 29 = .ok (.iload 4, 2) := by decide +kernel
theorem dN_holds_31 : decode bN_holds 31 = .ok (.i2l, 1) := by decide +kernel
theorem dN_holds_32 : decode bN_holds 32 = .ok (.lconst 0, 1) := by decide +kernel
theorem dN_holds_33 : decode bN_holds 33 = .ok (.ldc2_w 79, 3) := by decide +kernel
theorem dN_holds_36 : decode bN_holds 36 = .ok (.invokestatic 73, 3) := by decide +kernel
theorem dN_holds_39 : decode bN_holds 39 = .ok (.aload_n 0, 1) := by decide +kernel
theorem dN_holds_40 : decode bN_holds 40 = .ok (.iload_n 1, 1) := by decide +kernel
theorem dN_holds_41 : decode bN_holds 41 = .ok (.iload_n 2, 1) := by decide +kernel
theorem dN_holds_42 : decode bN_holds 42 = .ok (.iload_n 3, 1) := by decide +kernel
theorem dN_holds_43 : decode bN_holds 43 = .ok (.invokevirtual 81, 3) := by decide +kernel
theorem dN_holds_46 : decode bN_holds 46 = .ok (.istore 6, 2) := by decide +kernel
theorem dN_holds_48 : decode bN_holds 48 = .ok (.iload 5, 2) := by decide +kernel
theorem dN_holds_50 : decode bN_holds 50 = .ok (.iconst 1, 1) := by decide +kernel
theorem dN_holds_51 : decode bN_holds 51 = .ok (.if_icmp .ne 7, 3) := by decide +kernel
theorem dN_holds_54 : decode bN_holds 54 = .ok (.iload 6, 2) := by decide +kernel
theorem dN_holds_56 : decode bN_holds 56 = .ok (.i2l, 1) := by decide +kernel
theorem dN_holds_57 : decode bN_holds 57 = .ok (.lreturn, 1) := by decide +kernel
theorem dN_holds_58 : decode bN_holds 58 = .ok (.aload_n 0, 1) := by decide +kernel
theorem dN_holds_59 : decode bN_holds 59 = .ok (.iload 6, 2) := by decide +kernel
theorem dN_holds_61 : decode bN_holds 61 = .ok (.iload_n 1, 1) := by decide +kernel
theorem dN_holds_62 : decode bN_holds 62 = .ok (.iload_n 2, 1) := by decide +kernel
theorem dN_holds_63 : decode bN_holds 63 = .ok (.iload_n 3, 1) := by decide +kernel
theorem dN_holds_64 : decode bN_holds 64 = .ok (.invokevirtual 85, 3) := by decide +kernel
theorem dN_holds_67 : decode bN_holds 67 = .ok (.sipush 200, 3) := by decide +kernel
theorem dN_holds_70 : decode bN_holds 70 = .ok (.iload 4, 2) := by decide +kernel
theorem dN_holds_72 : decode bN_holds 72 = .ok (.isub, 1) := by decide +kernel
theorem dN_holds_73 : decode bN_holds 73 = .ok (.i2l, 1) := by decide +kernel
theorem dN_holds_74 : decode bN_holds 74 = .ok (.lmul, 1) := by decide +kernel
theorem dN_holds_75 : decode bN_holds 75 = .ok (.ldc2_w 89, 3) := by decide +kernel
theorem dN_holds_78 : decode bN_holds 78 = .ok (.ldiv, 1) := by decide +kernel
theorem dN_holds_79 : decode bN_holds 79 = .ok (.lstore 7, 2) := by decide +kernel
theorem dN_holds_81 : decode bN_holds 81 = .ok (.lload 7, 2) := by decide +kernel
theorem dN_holds_83 : decode bN_holds 83 = .ok (.aload_n 0, 1) := by decide +kernel
theorem dN_holds_84 : decode bN_holds 84 = .ok (.getfield 20, 3) := by decide +kernel
theorem dN_holds_87 : decode bN_holds 87 = .ok (.i2l, 1) := by decide +kernel
theorem dN_holds_88 : decode bN_holds 88 = .ok (.lmul, 1) := by decide +kernel
theorem dN_holds_89 : decode bN_holds 89 = .ok (.ldc2_w 71, 3) := by decide +kernel
theorem dN_holds_92 : decode bN_holds 92 = .ok (.ldiv, 1) := by decide +kernel
theorem dN_holds_93 : decode bN_holds 93 = .ok (.lreturn, 1) := by decide +kernel
theorem dN_together_0 : decode bN_together 0 = .ok (.iload_n 1, 1) := by decide +kernel
theorem dN_together_1 : decode bN_together 1 = .ok (.i2l, 1) := by decide +kernel
theorem dN_together_2 : decode bN_together 2 = .ok (.lconst 0, 1) := by decide +kernel
theorem dN_together_3 : decode bN_together 3 = .ok (.ldc2_w 77, 3) := by decide +kernel
theorem dN_together_6 : decode bN_together 6 = .ok (.invokestatic 73, 3) := by decide +kernel
theorem dN_together_9 : decode bN_together 9 = .ok (.lload_n 2, 1) := by decide +kernel
theorem dN_together_10 : decode bN_together 10 = .ok (.lconst 0, 1) := by decide +kernel
theorem dN_together_11 : decode bN_together 11 = .ok (.ldc2_w 91, 3) := by decide +kernel
theorem dN_together_14 : decode bN_together 14 = .ok (.invokestatic 73, 3) := by decide +kernel
theorem dN_together_17 : decode bN_together 17 = .ok (.aload_n 0, 1) := by decide +kernel
theorem dN_together_18 : decode bN_together 18 = .ok (.iload_n 1, 1) := by decide +kernel
theorem dN_together_19 : decode bN_together 19 = .ok (.lload_n 2, 1) := by decide +kernel
theorem dN_together_20 : decode bN_together 20 = .ok (.invokevirtual 93, 3) := by decide +kernel
theorem dN_together_23 : decode bN_together 23 = .ok (.lreturn, 1) := by decide +kernel
theorem dN_count_0 : decode bN_count 0 = .ok (.lload_n 1, 1) := by decide +kernel
theorem dN_count_1 : decode bN_count 1 = .ok (.lconst 0, 1) := by decide +kernel
theorem dN_count_2 : decode bN_count 2 = .ok (.ldc2_w 91, 3) := by decide +kernel
theorem dN_count_5 : decode bN_count 5 = .ok (.invokestatic 73, 3) := by decide +kernel
theorem dN_count_8 : decode bN_count 8 = .ok (.lload_n 3, 1) := by decide +kernel
theorem dN_count_9 : decode bN_count 9 = .ok (.lconst 0, 1) := by decide +kernel
theorem dN_count_10 : decode bN_count 10 = .ok (.ldc2_w 91, 3) := by decide +kernel
theorem dN_count_13 : decode bN_count 13 = .ok (.invokestatic 73, 3) := by decide +kernel
theorem dN_count_16 : decode bN_count 16 = .ok (.iconst 1, 1) := by decide +kernel
theorem dN_count_17 : decode bN_count 17 = .ok (.istore 5, 2) := by decide +kernel
theorem dN_count_19 : decode bN_count 19 = .ok (.iload 5, 2) := by decide +kernel
theorem dN_count_21 : decode bN_count 21 = .ok (.bipush 100, 2) := by decide +kernel
theorem dN_count_23 : decode bN_count 23 = .ok (.if_icmp .gt 24, 3) := by decide +kernel
theorem dN_count_26 : decode bN_count 26 = .ok (.aload_n 0, 1) := by decide +kernel
theorem dN_count_27 : decode bN_count 27 = .ok (.iload 5, 2) := by decide +kernel
theorem dN_count_29 : decode bN_count 29 = .ok (.lload_n 3, 1) := by decide +kernel
theorem dN_count_30 : decode bN_count 30 = .ok (.invokevirtual 93, 3) := by decide +kernel
theorem dN_count_33 : decode bN_count 33 = .ok (.lload_n 1, 1) := by decide +kernel
theorem dN_count_34 : decode bN_count 34 = .ok (.lcmp, 1) := by decide +kernel
theorem dN_count_35 : decode bN_count 35 = .ok (.ifCond .lt 6, 3) := by decide +kernel
theorem dN_count_38 : decode bN_count 38 = .ok (.iload 5, 2) := by decide +kernel
theorem dN_count_40 : decode bN_count 40 = .ok (.ireturn, 1) := by decide +kernel
theorem dN_count_41 : decode bN_count 41 = .ok (.iinc 5 1, 3) := by decide +kernel
theorem dN_count_44 : decode bN_count 44 = .ok (.goto (-25), 3) := by decide +kernel
theorem dN_count_47 : decode bN_count 47 = .ok (.iconst (-1), 1) := by decide +kernel
theorem dN_count_48 : decode bN_count 48 = .ok (.ireturn, 1) := by decide +kernel
theorem dN_pattern_0 : decode bN_pattern 0 = .ok (.iload_n 1, 1) := by decide +kernel
theorem dN_pattern_1 : decode bN_pattern 1 = .ok (.iconst 4, 1) := by decide +kernel
theorem dN_pattern_2 : decode bN_pattern 2 = .ok (.invokestatic 63, 3) := by decide +kernel
theorem dN_pattern_5 : decode bN_pattern 5 = .ok (.iload_n 2, 1) := by decide +kernel
theorem dN_pattern_6 : decode bN_pattern 6 = .ok (.i2l, 1) := by decide +kernel
theorem dN_pattern_7 : decode bN_pattern 7 = .ok (.lconst 1, 1) := by decide +kernel
theorem dN_pattern_8 : decode bN_pattern 8 = .ok (.ldc2_w 97, 3) := by decide +kernel
theorem dN_pattern_11 : decode bN_pattern 11 = .ok (.invokestatic 73, 3) := by decide +kernel
theorem dN_pattern_14 : decode bN_pattern 14 = .ok (.iload_n 3, 1) := by decide +kernel
theorem dN_pattern_15 : decode bN_pattern 15 = .ok (.i2l, 1) := by decide +kernel
theorem dN_pattern_16 : decode bN_pattern 16 = .ok (.lconst 1, 1) := by decide +kernel
theorem dN_pattern_17 : decode bN_pattern 17 = .ok (.ldc2_w 97, 3) := by decide +kernel
theorem dN_pattern_20 : decode bN_pattern 20 = .ok (.invokestatic 73, 3) := by decide +kernel
theorem dN_pattern_23 : decode bN_pattern 23 = .ok (.iload 4, 2) := by decide +kernel
theorem dN_pattern_25 : decode bN_pattern 25 = .ok (.i2l, 1) := by decide +kernel
theorem dN_pattern_26 : decode bN_pattern 26 = .ok (.lconst 1, 1) := by decide +kernel
theorem dN_pattern_27 : decode bN_pattern 27 = .ok (.ldc2_w 71, 3) := by decide +kernel
theorem dN_pattern_30 : decode bN_pattern 30 = .ok (.invokestatic 73, 3) := by decide +kernel
theorem dN_pattern_33 : decode bN_pattern 33 = .ok (.iload_n 2, 1) := by decide +kernel
theorem dN_pattern_34 : decode bN_pattern 34 = .ok (.aload_n 0, 1) := by decide +kernel
theorem dN_pattern_35 : decode bN_pattern 35 = .ok (.iload_n 1, 1) := by decide +kernel
theorem dN_pattern_36 : decode bN_pattern 36 = .ok (.iconst 3, 1) := by decide +kernel
theorem dN_pattern_37 : decode bN_pattern 37 = .ok (.invokevirtual 99, 3) := by decide +kernel
theorem dN_pattern_40 : decode bN_pattern 40 = .ok (.aload_n 0, 1) := by decide +kernel
theorem dN_pattern_41 : decode bN_pattern 41 = .ok (.iload_n 1, 1) := by decide +kernel
theorem dN_pattern_42 : decode bN_pattern 42 = .ok (.iconst 4, 1) := by decide +kernel
theorem dN_pattern_43 : decode bN_pattern 43 = .ok (.invokevirtual 99, 3) := by decide +kernel
theorem dN_pattern_46 : decode bN_pattern 46 = .ok (.invokestatic 102, 3) := by decide +kernel
theorem dN_pattern_49 : decode bN_pattern 49 = .ok (.istore 5, 2) := by decide +kernel
theorem dN_pattern_51 : decode bN_pattern 51 = .ok (.iload_n 3, 1) := by decide +kernel
theorem dN_pattern_52 : decode bN_pattern 52 = .ok (.aload_n 0, 1) := by decide +kernel
theorem dN_pattern_53 : decode bN_pattern 53 = .ok (.iload_n 1, 1) := by decide +kernel
theorem dN_pattern_54 : decode bN_pattern 54 = .ok (.iconst 2, 1) := by decide +kernel
theorem dN_pattern_55 : decode bN_pattern 55 = .ok (.invokevirtual 99, 3) := by decide +kernel
theorem dN_pattern_58 : decode bN_pattern 58 = .ok (.aload_n 0, 1) := by decide +kernel
theorem dN_pattern_59 : decode bN_pattern 59 = .ok (.iload_n 1, 1) := by decide +kernel
theorem dN_pattern_60 : decode bN_pattern 60 = .ok (.iconst 5, 1) := by decide +kernel
theorem dN_pattern_61 : decode bN_pattern 61 = .ok (.invokevirtual 99, 3) := by decide +kernel
theorem dN_pattern_64 : decode bN_pattern 64 = .ok (.invokestatic 102, 3) := by decide +kernel
theorem dN_pattern_67 : decode bN_pattern 67 = .ok (.istore 6, 2) := by decide +kernel
theorem dN_pattern_69 : decode bN_pattern 69 = .ok (.iload 5, 2) := by decide +kernel
theorem dN_pattern_71 : decode bN_pattern 71 = .ok (.i2l, 1) := by decide +kernel
theorem dN_pattern_72 : decode bN_pattern 72 = .ok (.iload 6, 2) := by decide +kernel
theorem dN_pattern_74 : decode bN_pattern 74 = .ok (.i2l, 1) := by decide +kernel
theorem dN_pattern_75 : decode bN_pattern 75 = .ok (.lmul, 1) := by decide +kernel
theorem dN_pattern_76 : decode bN_pattern 76 = .ok (.iload 4, 2) := by decide +kernel
theorem dN_pattern_78 : decode bN_pattern 78 = .ok (.i2l, 1) := by decide +kernel
theorem dN_pattern_79 : decode bN_pattern 79 = .ok (.lcmp, 1) := by decide +kernel
theorem dN_pattern_80 : decode bN_pattern 80 = .ok (.ifCond .ge 5, 3) := by decide +kernel
theorem dN_pattern_83 : decode bN_pattern 83 = .ok (.iconst 0, 1) := by decide +kernel
theorem dN_pattern_84 : decode bN_pattern 84 = .ok (.ireturn, 1) := by decide +kernel
theorem dN_pattern_85 : decode bN_pattern 85 = .ok (.aload_n 0, 1) := by decide +kernel
theorem dN_pattern_86 : decode bN_pattern 86 = .ok (.iload_n 1, 1) := by decide +kernel
theorem dN_pattern_87 : decode bN_pattern 87 = .ok (.iload 5, 2) := by decide +kernel
theorem dN_pattern_89 : decode bN_pattern 89 = .ok (.iload 4, 2) := by decide +kernel
theorem dN_pattern_91 : decode bN_pattern 91 = .ok (.invokevirtual 105, 3) := by decide +kernel
theorem dN_pattern_94 : decode bN_pattern 94 = .ok (.iconst 1, 1) := by decide +kernel
theorem dN_pattern_95 : decode bN_pattern 95 = .ok (.ireturn, 1) := by decide +kernel
theorem dN_at_0 : decode bN_at 0 = .ok (.aload_n 0, 1) := by decide +kernel
theorem dN_at_1 : decode bN_at 1 = .ok (.getfield 33, 3) := by decide +kernel
theorem dN_at_4 : decode bN_at 4 = .ok (.ifCond .ne 13, 3) := by decide +kernel
theorem dN_at_7 : decode bN_at 7 = .ok (.new 109, 3) := by decide +kernel
theorem dN_at_10 : decode bN_at 10 = .ok (.dup, 1) := by decide +kernel
theorem dN_at_11 : decode bN_at 11 = .ok (.ldc 111, 2) := by decide +kernel
theorem dN_at_13 : decode bN_at 13 = .ok (.invokespecial 113, 3) := by decide +kernel
theorem dN_at_16 : decode bN_at 16 = .ok (.athrow, 1) := by decide +kernel
theorem dN_at_17 : decode bN_at 17 = .ok (.iload_n 1, 1) := by decide +kernel
theorem dN_at_18 : decode bN_at 18 = .ok (.aload_n 0, 1) := by decide +kernel
theorem dN_at_19 : decode bN_at 19 = .ok (.getfield 33, 3) := by decide +kernel
theorem dN_at_22 : decode bN_at 22 = .ok (.invokestatic 63, 3) := by decide +kernel
theorem dN_at_25 : decode bN_at 25 = .ok (.iload_n 2, 1) := by decide +kernel
theorem dN_at_26 : decode bN_at 26 = .ok (.iconst 2, 1) := by decide +kernel
theorem dN_at_27 : decode bN_at 27 = .ok (.invokestatic 63, 3) := by decide +kernel
theorem dN_at_30 : decode bN_at 30 = .ok (.iload_n 2, 1) := by decide +kernel
theorem dN_at_31 : decode bN_at 31 = .ok (.ifCond .ne 12, 3) := by decide +kernel
theorem dN_at_34 : decode bN_at 34 = .ok (.aload_n 0, 1) := by decide +kernel
theorem dN_at_35 : decode bN_at 35 = .ok (.getfield 27, 3) := by decide +kernel
theorem dN_at_38 : decode bN_at 38 = .ok (.iload_n 1, 1) := by decide +kernel
theorem dN_at_39 : decode bN_at 39 = .ok (.iaload, 1) := by decide +kernel
theorem dN_at_40 : decode bN_at 40 = .ok (.goto 9, 3) := by decide +kernel
theorem dN_at_43 : decode bN_at 43 = .ok (.aload_n 0, 1) := by decide +kernel
theorem dN_at_44 : decode bN_at 44 = .ok (.getfield 30, 3) := by decide +kernel
theorem dN_at_47 : decode bN_at 47 = .ok (.iload_n 1, 1) := by decide +kernel
theorem dN_at_48 : decode bN_at 48 = .ok (.iaload, 1) := by decide +kernel
theorem dN_at_49 : decode bN_at 49 = .ok (.ireturn, 1) := by decide +kernel
theorem dN_place_0 : decode bN_place 0 = .ok (.iload_n 1, 1) := by decide +kernel
theorem dN_place_1 : decode bN_place 1 = .ok (.i2l, 1) := by decide +kernel
theorem dN_place_2 : decode bN_place 2 = .ok (.lconst 0, 1) := by decide +kernel
theorem dN_place_3 : decode bN_place 3 = .ok (.ldc2_w 97, 3) := by decide +kernel
theorem dN_place_6 : decode bN_place 6 = .ok (.invokestatic 73, 3) := by decide +kernel
theorem dN_place_9 : decode bN_place 9 = .ok (.iload_n 2, 1) := by decide +kernel
theorem dN_place_10 : decode bN_place 10 = .ok (.i2l, 1) := by decide +kernel
theorem dN_place_11 : decode bN_place 11 = .ok (.lconst 0, 1) := by decide +kernel
theorem dN_place_12 : decode bN_place 12 = .ok (.ldc2_w 97, 3) := by decide +kernel
theorem dN_place_15 : decode bN_place 15 = .ok (.invokestatic 73, 3) := by decide +kernel
theorem dN_place_18 : decode bN_place 18 = .ok (.aload_n 0, 1) := by decide +kernel
theorem dN_place_19 : decode bN_place 19 = .ok (.getfield 42, 3) := by decide +kernel
theorem dN_place_22 : decode bN_place 22 = .ok (.bipush 32, 2) := by decide +kernel
theorem dN_place_24 : decode bN_place 24 = .ok (.if_icmp .lt 13, 3) := by decide +kernel
theorem dN_place_27 : decode bN_place 27 = .ok (.new 109, 3) := by decide +kernel
theorem dN_place_30 : decode bN_place 30 = .ok (.dup, 1) := by decide +kernel
theorem dN_place_31 : decode bN_place 31 = .ok (.ldc 116, 2) := by decide +kernel
theorem dN_place_33 : decode bN_place 33 = .ok (.invokespecial 113, 3) := by decide +kernel
theorem dN_place_36 : decode bN_place 36 = .ok (.athrow, 1) := by decide +kernel
theorem dN_place_37 : decode bN_place 37 = .ok (.aload_n 0, 1) := by decide +kernel
theorem dN_place_38 : decode bN_place 38 = .ok (.getfield 36, 3) := by decide +kernel
theorem dN_place_41 : decode bN_place 41 = .ok (.aload_n 0, 1) := by decide +kernel
theorem dN_place_42 : decode bN_place 42 = .ok (.getfield 42, 3) := by decide +kernel
theorem dN_place_45 : decode bN_place 45 = .ok (.iload_n 1, 1) := by decide +kernel
theorem dN_place_46 : decode bN_place 46 = .ok (.iastore, 1) := by decide +kernel
theorem dN_place_47 : decode bN_place 47 = .ok (.aload_n 0, 1) := by decide +kernel
theorem dN_place_48 : decode bN_place 48 = .ok (.getfield 39, 3) := by decide +kernel
theorem dN_place_51 : decode bN_place 51 = .ok (.aload_n 0, 1) := by decide +kernel
theorem dN_place_52 : decode bN_place 52 = .ok (.getfield 42, 3) := by decide +kernel
theorem dN_place_55 : decode bN_place 55 = .ok (.iload_n 2, 1) := by decide +kernel
theorem dN_place_56 : decode bN_place 56 = .ok (.iastore, 1) := by decide +kernel
theorem dN_place_57 : decode bN_place 57 = .ok (.aload_n 0, 1) := by decide +kernel
theorem dN_place_58 : decode bN_place 58 = .ok (.dup, 1) := by decide +kernel
theorem dN_place_59 : decode bN_place 59 = .ok (.getfield 42, 3) := by decide +kernel
theorem dN_place_62 : decode bN_place 62 = .ok (.iconst 1, 1) := by decide +kernel
theorem dN_place_63 : decode bN_place 63 = .ok (.iadd, 1) := by decide +kernel
theorem dN_place_64 : decode bN_place 64 = .ok (.putfield 42, 3) := by decide +kernel
theorem dN_place_67 : decode bN_place 67 = .ok (.aload_n 0, 1) := by decide +kernel
theorem dN_place_68 : decode bN_place 68 = .ok (.getfield 42, 3) := by decide +kernel
theorem dN_place_71 : decode bN_place 71 = .ok (.ireturn, 1) := by decide +kernel
theorem dN_clear_0 : decode bN_clear 0 = .ok (.aload_n 0, 1) := by decide +kernel
theorem dN_clear_1 : decode bN_clear 1 = .ok (.iconst 0, 1) := by decide +kernel
theorem dN_clear_2 : decode bN_clear 2 = .ok (.putfield 42, 3) := by decide +kernel
theorem dN_clear_5 : decode bN_clear 5 = .ok (.return_, 1) := by decide +kernel
theorem dN_keeps_0 : decode bN_keeps 0 = .ok (.iload_n 1, 1) := by decide +kernel
theorem dN_keeps_1 : decode bN_keeps 1 = .ok (.iconst 4, 1) := by decide +kernel
theorem dN_keeps_2 : decode bN_keeps 2 = .ok (.invokestatic 63, 3) := by decide +kernel
theorem dN_keeps_5 : decode bN_keeps 5 = .ok (.iload_n 2, 1) := by decide +kernel
theorem dN_keeps_6 : decode bN_keeps 6 = .ok (.i2l, 1) := by decide +kernel
theorem dN_keeps_7 : decode bN_keeps 7 = .ok (.lconst 1, 1) := by decide +kernel
theorem dN_keeps_8 : decode bN_keeps 8 = .ok (.ldc2_w 97, 3) := by decide +kernel
theorem dN_keeps_11 : decode bN_keeps 11 = .ok (.invokestatic 73, 3) := by decide +kernel
theorem dN_keeps_14 : decode bN_keeps 14 = .ok (.iload_n 3, 1) := by decide +kernel
theorem dN_keeps_15 : decode bN_keeps 15 = .ok (.i2l, 1) := by decide +kernel
theorem dN_keeps_16 : decode bN_keeps 16 = .ok (.lconst 1, 1) := by decide +kernel
theorem dN_keeps_17 : decode bN_keeps 17 = .ok (.ldc2_w 97, 3) := by decide +kernel
theorem dN_keeps_20 : decode bN_keeps 20 = .ok (.invokestatic 73, 3) := by decide +kernel
theorem dN_keeps_23 : decode bN_keeps 23 = .ok (.aload_n 0, 1) := by decide +kernel
theorem dN_keeps_24 : decode bN_keeps 24 = .ok (.iload_n 1, 1) := by decide +kernel
theorem dN_keeps_25 : decode bN_keeps 25 = .ok (.iload_n 2, 1) := by decide +kernel
theorem dN_keeps_26 : decode bN_keeps 26 = .ok (.iload_n 3, 1) := by decide +kernel
theorem dN_keeps_27 : decode bN_keeps 27 = .ok (.invokevirtual 118, 3) := by decide +kernel
theorem dN_keeps_30 : decode bN_keeps 30 = .ok (.istore 4, 2) := by decide +kernel
theorem dN_keeps_32 : decode bN_keeps 32 = .ok (.iload 4, 2) := by decide +kernel
theorem dN_keeps_34 : decode bN_keeps 34 = .ok (.iconst (-1), 1) := by decide +kernel
theorem dN_keeps_35 : decode bN_keeps 35 = .ok (.if_icmp .eq 8, 3) := by decide +kernel
theorem dN_keeps_38 : decode bN_keeps 38 = .ok (.iconst 1, 1) := by decide +kernel
theorem dN_keeps_39 : decode bN_keeps 39 = .ok (.iload 4, 2) := by decide +kernel
theorem dN_keeps_41 : decode bN_keeps 41 = .ok (.iadd, 1) := by decide +kernel
theorem dN_keeps_42 : decode bN_keeps 42 = .ok (.ireturn, 1) := by decide +kernel
theorem dN_keeps_43 : decode bN_keeps 43 = .ok (.aload_n 0, 1) := by decide +kernel
theorem dN_keeps_44 : decode bN_keeps 44 = .ok (.aload_n 0, 1) := by decide +kernel
theorem dN_keeps_45 : decode bN_keeps 45 = .ok (.iload_n 1, 1) := by decide +kernel
theorem dN_keeps_46 : decode bN_keeps 46 = .ok (.iconst 4, 1) := by decide +kernel
theorem dN_keeps_47 : decode bN_keeps 47 = .ok (.invokevirtual 99, 3) := by decide +kernel
theorem dN_keeps_50 : decode bN_keeps 50 = .ok (.i2l, 1) := by decide +kernel
theorem dN_keeps_51 : decode bN_keeps 51 = .ok (.invokevirtual 121, 3) := by decide +kernel
theorem dN_keeps_54 : decode bN_keeps 54 = .ok (.istore 5, 2) := by decide +kernel
theorem dN_keeps_56 : decode bN_keeps 56 = .ok (.iload 5, 2) := by decide +kernel
theorem dN_keeps_58 : decode bN_keeps 58 = .ok (.iconst (-1), 1) := by decide +kernel
theorem dN_keeps_59 : decode bN_keeps 59 = .ok (.if_icmp .ne 7, 3) := by decide +kernel
theorem dN_keeps_62 : decode bN_keeps 62 = .ok (.iconst 0, 1) := by decide +kernel
theorem dN_keeps_63 : decode bN_keeps 63 = .ok (.goto 8, 3) := by decide +kernel
theorem dN_keeps_66 : decode bN_keeps 66 = .ok (.bipush 100, 2) := by decide +kernel
theorem dN_keeps_68 : decode bN_keeps 68 = .ok (.iload 5, 2) := by decide +kernel
theorem dN_keeps_70 : decode bN_keeps 70 = .ok (.iadd, 1) := by decide +kernel
theorem dN_keeps_71 : decode bN_keeps 71 = .ok (.ireturn, 1) := by decide +kernel
theorem dN_member_0 : decode bN_member 0 = .ok (.iload_n 1, 1) := by decide +kernel
theorem dN_member_1 : decode bN_member 1 = .ok (.i2l, 1) := by decide +kernel
theorem dN_member_2 : decode bN_member 2 = .ok (.ldc2_w 125, 3) := by decide +kernel
theorem dN_member_5 : decode bN_member 5 = .ok (.ldc2_w 127, 3) := by decide +kernel
theorem dN_member_8 : decode bN_member 8 = .ok (.invokestatic 73, 3) := by decide +kernel
theorem dN_member_11 : decode bN_member 11 = .ok (.iload_n 2, 1) := by decide +kernel
theorem dN_member_12 : decode bN_member 12 = .ok (.i2l, 1) := by decide +kernel
theorem dN_member_13 : decode bN_member 13 = .ok (.ldc2_w 125, 3) := by decide +kernel
theorem dN_member_16 : decode bN_member 16 = .ok (.ldc2_w 127, 3) := by decide +kernel
theorem dN_member_19 : decode bN_member 19 = .ok (.invokestatic 73, 3) := by decide +kernel
theorem dN_member_22 : decode bN_member 22 = .ok (.iload_n 3, 1) := by decide +kernel
theorem dN_member_23 : decode bN_member 23 = .ok (.i2l, 1) := by decide +kernel
theorem dN_member_24 : decode bN_member 24 = .ok (.ldc2_w 125, 3) := by decide +kernel
theorem dN_member_27 : decode bN_member 27 = .ok (.ldc2_w 127, 3) := by decide +kernel
theorem dN_member_30 : decode bN_member 30 = .ok (.invokestatic 73, 3) := by decide +kernel
theorem dN_member_33 : decode bN_member 33 = .ok (.iload 4, 2) := by decide +kernel
theorem dN_member_35 : decode bN_member 35 = .ok (.i2l, 1) := by decide +kernel
theorem dN_member_36 : decode bN_member 36 = .ok (.ldc2_w 125, 3) := by decide +kernel
theorem dN_member_39 : decode bN_member 39 = .ok (.ldc2_w 127, 3) := by decide +kernel
theorem dN_member_42 : decode bN_member 42 = .ok (.invokestatic 73, 3) := by decide +kernel
theorem dN_member_45 : decode bN_member 45 = .ok (.iload_n 1, 1) := by decide +kernel
theorem dN_member_46 : decode bN_member 46 = .ok (.iload_n 3, 1) := by decide +kernel
theorem dN_member_47 : decode bN_member 47 = .ok (.if_icmp .ne 19, 3) := by decide +kernel
theorem dN_member_50 : decode bN_member 50 = .ok (.iload_n 2, 1) := by decide +kernel
theorem dN_member_51 : decode bN_member 51 = .ok (.iload 4, 2) := by decide +kernel
theorem dN_member_53 : decode bN_member 53 = .ok (.if_icmp .ne 13, 3) := by decide +kernel
theorem dN_member_56 : decode bN_member 56 = .ok (.new 129, 3) := by decide +kernel
theorem dN_member_59 : decode bN_member 59 = .ok (.dup, 1) := by decide +kernel
theorem dN_member_60 : decode bN_member 60 = .ok (.ldc 131, 2) := by decide +kernel
theorem dN_member_62 : decode bN_member 62 = .ok (.invokespecial 133, 3) := by decide +kernel
theorem dN_member_65 : decode bN_member 65 = .ok (.athrow, 1) := by decide +kernel
theorem dN_member_66 : decode bN_member 66 = .ok (.iload 5, 2) := by decide +kernel
theorem dN_member_68 : decode bN_member 68 = .ok (.i2l, 1) := by decide +kernel
theorem dN_member_69 : decode bN_member 69 = .ok (.lconst 1, 1) := by decide +kernel
theorem dN_member_70 : decode bN_member 70 = .ok (.ldc2_w 127, 3) := by decide +kernel
theorem dN_member_73 : decode bN_member 73 = .ok (.invokestatic 73, 3) := by decide +kernel
theorem dN_member_76 : decode bN_member 76 = .ok (.aload_n 0, 1) := by decide +kernel
theorem dN_member_77 : decode bN_member 77 = .ok (.getfield 48, 3) := by decide +kernel
theorem dN_member_80 : decode bN_member 80 = .ok (.invokevirtual 134, 3) := by decide +kernel
theorem dN_member_83 : decode bN_member 83 = .ok (.bipush 6, 2) := by decide +kernel
theorem dN_member_85 : decode bN_member 85 = .ok (.if_icmp .lt 13, 3) := by decide +kernel
theorem dN_member_88 : decode bN_member 88 = .ok (.new 109, 3) := by decide +kernel
theorem dN_member_91 : decode bN_member 91 = .ok (.dup, 1) := by decide +kernel
theorem dN_member_92 : decode bN_member 92 = .ok (.ldc 137, 2) := by decide +kernel
theorem dN_member_94 : decode bN_member 94 = .ok (.invokespecial 113, 3) := by decide +kernel
theorem dN_member_97 : decode bN_member 97 = .ok (.athrow, 1) := by decide +kernel
theorem dN_member_98 : decode bN_member 98 = .ok (.aload_n 0, 1) := by decide +kernel
theorem dN_member_99 : decode bN_member 99 = .ok (.getfield 48, 3) := by decide +kernel
theorem dN_member_102 : decode bN_member 102 = .ok (.new 139, 3) := by decide +kernel
theorem dN_member_105 : decode bN_member 105 = .ok (.dup, 1) := by decide +kernel
theorem dN_member_106 : decode bN_member 106 = .ok (.iload_n 1, 1) := by decide +kernel
theorem dN_member_107 : decode bN_member 107 = .ok (.iload_n 2, 1) := by decide +kernel
theorem dN_member_108 : decode bN_member 108 = .ok (.iload_n 3, 1) := by decide +kernel
theorem dN_member_109 : decode bN_member 109 = .ok (.iload 4, 2) := by decide +kernel
theorem dN_member_111 : decode bN_member 111 = .ok (.iload 5, 2) := by decide +kernel
theorem dN_member_113 : decode bN_member 113 = .ok (.invokespecial 141, 3) := by decide +kernel
theorem dN_member_116 : decode bN_member 116 = .ok (.invokevirtual 144, 3) := by decide +kernel
theorem dN_member_119 : decode bN_member 119 = .ok (.pop, 1) := by decide +kernel
theorem dN_member_120 : decode bN_member 120 = .ok (.aload_n 0, 1) := by decide +kernel
theorem dN_member_121 : decode bN_member 121 = .ok (.getfield 48, 3) := by decide +kernel
theorem dN_member_124 : decode bN_member 124 = .ok (.invokevirtual 134, 3) := by decide +kernel
theorem dN_member_127 : decode bN_member 127 = .ok (.iconst 1, 1) := by decide +kernel
theorem dN_member_128 : decode bN_member 128 = .ok (.isub, 1) := by decide +kernel
theorem dN_member_129 : decode bN_member 129 = .ok (.ireturn, 1) := by decide +kernel
theorem dN_in_0 : decode bN_in 0 = .ok (.iload_n 1, 1) := by decide +kernel
theorem dN_in_1 : decode bN_in 1 = .ok (.aload_n 0, 1) := by decide +kernel
theorem dN_in_2 : decode bN_in 2 = .ok (.getfield 48, 3) := by decide +kernel
theorem dN_in_5 : decode bN_in 5 = .ok (.invokevirtual 134, 3) := by decide +kernel
theorem dN_in_8 : decode bN_in 8 = .ok (.invokestatic 63, 3) := by decide +kernel
theorem dN_in_11 : decode bN_in 11 = .ok (.iload_n 2, 1) := by decide +kernel
theorem dN_in_12 : decode bN_in 12 = .ok (.i2l, 1) := by decide +kernel
theorem dN_in_13 : decode bN_in 13 = .ok (.ldc2_w 125, 3) := by decide +kernel
theorem dN_in_16 : decode bN_in 16 = .ok (.ldc2_w 127, 3) := by decide +kernel
theorem dN_in_19 : decode bN_in 19 = .ok (.invokestatic 73, 3) := by decide +kernel
theorem dN_in_22 : decode bN_in 22 = .ok (.iload_n 3, 1) := by decide +kernel
theorem dN_in_23 : decode bN_in 23 = .ok (.i2l, 1) := by decide +kernel
theorem dN_in_24 : decode bN_in 24 = .ok (.ldc2_w 125, 3) := by decide +kernel
theorem dN_in_27 : decode bN_in 27 = .ok (.ldc2_w 127, 3) := by decide +kernel
theorem dN_in_30 : decode bN_in 30 = .ok (.invokestatic 73, 3) := by decide +kernel
theorem dN_in_33 : decode bN_in 33 = .ok (.aload_n 0, 1) := by decide +kernel
theorem dN_in_34 : decode bN_in 34 = .ok (.getfield 48, 3) := by decide +kernel
theorem dN_in_37 : decode bN_in 37 = .ok (.iload_n 1, 1) := by decide +kernel
theorem dN_in_38 : decode bN_in 38 = .ok (.invokevirtual 148, 3) := by decide +kernel
theorem dN_in_41 : decode bN_in 41 = .ok (.checkcast 139, 3) := by decide +kernel
theorem dN_in_44 : decode bN_in 44 = .ok (.iload_n 2, 1) := by decide +kernel
theorem dN_in_45 : decode bN_in 45 = .ok (.iload_n 3, 1) := by decide +kernel
theorem dN_in_46 : decode bN_in 46 = .ok (.invokevirtual 152, 3) := by decide +kernel
theorem dN_in_49 : decode bN_in 49 = .ok (.ireturn, 1) := by decide +kernel
theorem dN_teeth_0 : decode bN_teeth 0 = .ok (.iload_n 1, 1) := by decide +kernel
theorem dN_teeth_1 : decode bN_teeth 1 = .ok (.aload_n 0, 1) := by decide +kernel
theorem dN_teeth_2 : decode bN_teeth 2 = .ok (.getfield 48, 3) := by decide +kernel
theorem dN_teeth_5 : decode bN_teeth 5 = .ok (.invokevirtual 134, 3) := by decide +kernel
theorem dN_teeth_8 : decode bN_teeth 8 = .ok (.invokestatic 63, 3) := by decide +kernel
theorem dN_teeth_11 : decode bN_teeth 11 = .ok (.iload_n 2, 1) := by decide +kernel
theorem dN_teeth_12 : decode bN_teeth 12 = .ok (.i2l, 1) := by decide +kernel
theorem dN_teeth_13 : decode bN_teeth 13 = .ok (.ldc2_w 125, 3) := by decide +kernel
theorem dN_teeth_16 : decode bN_teeth 16 = .ok (.ldc2_w 127, 3) := by decide +kernel
theorem dN_teeth_19 : decode bN_teeth 19 = .ok (.invokestatic 73, 3) := by decide +kernel
theorem dN_teeth_22 : decode bN_teeth 22 = .ok (.iload_n 3, 1) := by decide +kernel
theorem dN_teeth_23 : decode bN_teeth 23 = .ok (.i2l, 1) := by decide +kernel
theorem dN_teeth_24 : decode bN_teeth 24 = .ok (.ldc2_w 125, 3) := by decide +kernel
theorem dN_teeth_27 : decode bN_teeth 27 = .ok (.ldc2_w 127, 3) := by decide +kernel
theorem dN_teeth_30 : decode bN_teeth 30 = .ok (.invokestatic 73, 3) := by decide +kernel
theorem dN_teeth_33 : decode bN_teeth 33 = .ok (.iload 4, 2) := by decide +kernel
theorem dN_teeth_35 : decode bN_teeth 35 = .ok (.i2l, 1) := by decide +kernel
theorem dN_teeth_36 : decode bN_teeth 36 = .ok (.lconst 0, 1) := by decide +kernel
theorem dN_teeth_37 : decode bN_teeth 37 = .ok (.ldc2_w 77, 3) := by decide +kernel
theorem dN_teeth_40 : decode bN_teeth 40 = .ok (.invokestatic 73, 3) := by decide +kernel
theorem dN_teeth_43 : decode bN_teeth 43 = .ok (.iload 5, 2) := by decide +kernel
theorem dN_teeth_45 : decode bN_teeth 45 = .ok (.i2l, 1) := by decide +kernel
theorem dN_teeth_46 : decode bN_teeth 46 = .ok (.lconst 0, 1) := by decide +kernel
theorem dN_teeth_47 : decode bN_teeth 47 = .ok (.ldc2_w 77, 3) := by decide +kernel
theorem dN_teeth_50 : decode bN_teeth 50 = .ok (.invokestatic 73, 3) := by decide +kernel
theorem dN_teeth_53 : decode bN_teeth 53 = .ok (.iload 6, 2) := by decide +kernel
theorem dN_teeth_55 : decode bN_teeth 55 = .ok (.i2l, 1) := by decide +kernel
theorem dN_teeth_56 : decode bN_teeth 56 = .ok (.ldc2_w 156, 3) := by decide +kernel
theorem dN_teeth_59 : decode bN_teeth 59 = .ok (.ldc2_w 77, 3) := by decide +kernel
theorem dN_teeth_62 : decode bN_teeth 62 = .ok (.invokestatic 73, 3) := by decide +kernel
theorem dN_teeth_65 : decode bN_teeth 65 = .ok (.aload_n 0, 1) := by decide +kernel
theorem dN_teeth_66 : decode bN_teeth 66 = .ok (.getfield 48, 3) := by decide +kernel
theorem dN_teeth_69 : decode bN_teeth 69 = .ok (.iload_n 1, 1) := by decide +kernel
theorem dN_teeth_70 : decode bN_teeth 70 = .ok (.invokevirtual 148, 3) := by decide +kernel
theorem dN_teeth_73 : decode bN_teeth 73 = .ok (.checkcast 139, 3) := by decide +kernel
theorem dN_teeth_76 : decode bN_teeth 76 = .ok (.astore 7, 2) := by decide +kernel
theorem dN_teeth_78 : decode bN_teeth 78 = .ok (.iconst 0, 1) := by decide +kernel
theorem dN_teeth_79 : decode bN_teeth 79 = .ok (.istore 8, 2) := by decide +kernel
theorem dN_teeth_81 : decode bN_teeth 81 = .ok (.iconst 0, 1) := by decide +kernel
theorem dN_teeth_82 : decode bN_teeth 82 = .ok (.istore 9, 2) := by decide +kernel
theorem dN_teeth_84 : decode bN_teeth 84 = .ok (.iload 9, 2) := by decide +kernel
theorem dN_teeth_86 : decode bN_teeth 86 = .ok (.iload 4, 2) := by decide +kernel
theorem dN_teeth_88 : decode bN_teeth 88 = .ok (.if_icmp .gt 52, 3) := by decide +kernel
theorem dN_teeth_91 : decode bN_teeth 91 = .ok (.iconst 0, 1) := by decide +kernel
theorem dN_teeth_92 : decode bN_teeth 92 = .ok (.istore 10, 2) := by decide +kernel
theorem dN_teeth_94 : decode bN_teeth 94 = .ok (.iload 10, 2) := by decide +kernel
theorem dN_teeth_96 : decode bN_teeth 96 = .ok (.iload 5, 2) := by decide +kernel
theorem dN_teeth_98 : decode bN_teeth 98 = .ok (.if_icmp .gt 32, 3) := by decide +kernel
theorem dN_teeth_101 : decode bN_teeth 101 = .ok (.aload 7, 2) := by decide +kernel
theorem dN_teeth_103 : decode bN_teeth 103 = .ok (.iload_n 2, 1) := by decide +kernel
theorem dN_teeth_104 : decode bN_teeth 104 = .ok (.iload 9, 2) := by decide +kernel
theorem dN_teeth_106 : decode bN_teeth 106 = .ok (.iadd, 1) := by decide +kernel
theorem dN_teeth_107 : decode bN_teeth 107 = .ok (.iload_n 3, 1) := by decide +kernel
theorem dN_teeth_108 : decode bN_teeth 108 = .ok (.iload 10, 2) := by decide +kernel
theorem dN_teeth_110 : decode bN_teeth 110 = .ok (.iadd, 1) := by decide +kernel
theorem dN_teeth_111 : decode bN_teeth 111 = .ok (.invokevirtual 152, 3) := by decide +kernel
theorem dN_teeth_114 : decode bN_teeth 114 = .ok (.ifCond .eq 6, 3) := by decide +kernel
theorem dN_teeth_117 : decode bN_teeth 117 = .ok (.iinc 8 1, 3) := by decide +kernel
theorem dN_teeth_120 : decode bN_teeth 120 = .ok (.iload 10, 2) := by decide +kernel
theorem dN_teeth_122 : decode bN_teeth 122 = .ok (.iload 6, 2) := by decide +kernel
theorem dN_teeth_124 : decode bN_teeth 124 = .ok (.iadd, 1) := by decide +kernel
theorem dN_teeth_125 : decode bN_teeth 125 = .ok (.istore 10, 2) := by decide +kernel
theorem dN_teeth_127 : decode bN_teeth 127 = .ok (.goto (-33), 3) := by decide +kernel
theorem dN_teeth_130 : decode bN_teeth 130 = .ok (.iload 9, 2) := by decide +kernel
theorem dN_teeth_132 : decode bN_teeth 132 = .ok (.iload 6, 2) := by decide +kernel
theorem dN_teeth_134 : decode bN_teeth 134 = .ok (.iadd, 1) := by decide +kernel
theorem dN_teeth_135 : decode bN_teeth 135 = .ok (.istore 9, 2) := by decide +kernel
theorem dN_teeth_137 : decode bN_teeth 137 = .ok (.goto (-53), 3) := by decide +kernel
theorem dN_teeth_140 : decode bN_teeth 140 = .ok (.iload 8, 2) := by decide +kernel
theorem dN_teeth_142 : decode bN_teeth 142 = .ok (.ireturn, 1) := by decide +kernel
theorem dN_thick_0 : decode bN_thick 0 = .ok (.iload_n 1, 1) := by decide +kernel
theorem dN_thick_1 : decode bN_thick 1 = .ok (.iconst 4, 1) := by decide +kernel
theorem dN_thick_2 : decode bN_thick 2 = .ok (.invokestatic 63, 3) := by decide +kernel
theorem dN_thick_5 : decode bN_thick 5 = .ok (.iload_n 2, 1) := by decide +kernel
theorem dN_thick_6 : decode bN_thick 6 = .ok (.ifCond .ge 13, 3) := by decide +kernel
theorem dN_thick_9 : decode bN_thick 9 = .ok (.new 129, 3) := by decide +kernel
theorem dN_thick_12 : decode bN_thick 12 = .ok (.dup, 1) := by decide +kernel
theorem dN_thick_13 : decode bN_thick 13 = .ok (.ldc 158, 2) := by decide +kernel
theorem dN_thick_15 : decode bN_thick 15 = .ok (.invokespecial 133, 3) := by decide +kernel
theorem dN_thick_18 : decode bN_thick 18 = .ok (.athrow, 1) := by decide +kernel
theorem dN_thick_19 : decode bN_thick 19 = .ok (.iload_n 2, 1) := by decide +kernel
theorem dN_thick_20 : decode bN_thick 20 = .ok (.aload_n 0, 1) := by decide +kernel
theorem dN_thick_21 : decode bN_thick 21 = .ok (.iload_n 1, 1) := by decide +kernel
theorem dN_thick_22 : decode bN_thick 22 = .ok (.bipush 6, 2) := by decide +kernel
theorem dN_thick_24 : decode bN_thick 24 = .ok (.invokevirtual 99, 3) := by decide +kernel
theorem dN_thick_27 : decode bN_thick 27 = .ok (.if_icmp .lt 7, 3) := by decide +kernel
theorem dN_thick_30 : decode bN_thick 30 = .ok (.iconst 1, 1) := by decide +kernel
theorem dN_thick_31 : decode bN_thick 31 = .ok (.goto 4, 3) := by decide +kernel
theorem dN_thick_34 : decode bN_thick 34 = .ok (.iconst 0, 1) := by decide +kernel
theorem dN_thick_35 : decode bN_thick 35 = .ok (.ireturn, 1) := by decide +kernel
theorem dN_hole_0 : decode bN_hole 0 = .ok (.iload_n 1, 1) := by decide +kernel
theorem dN_hole_1 : decode bN_hole 1 = .ok (.iconst 4, 1) := by decide +kernel
theorem dN_hole_2 : decode bN_hole 2 = .ok (.invokestatic 63, 3) := by decide +kernel
theorem dN_hole_5 : decode bN_hole 5 = .ok (.aload_n 0, 1) := by decide +kernel
theorem dN_hole_6 : decode bN_hole 6 = .ok (.iload_n 1, 1) := by decide +kernel
theorem dN_hole_7 : decode bN_hole 7 = .ok (.iconst 0, 1) := by decide +kernel
theorem dN_hole_8 : decode bN_hole 8 = .ok (.invokevirtual 67, 3) := by decide +kernel
theorem dN_hole_11 : decode bN_hole 11 = .ok (.istore_n 2, 1) := by decide +kernel
theorem dN_hole_12 : decode bN_hole 12 = .ok (.iload_n 1, 1) := by decide +kernel
theorem dN_hole_13 : decode bN_hole 13 = .ok (.tableswitch 58 0 2 #[27, 45, 53], 27) := by decide +kernel
theorem dN_hole_40 : decode bN_hole 40 = .ok (.iload_n 2, 1) := by decide +kernel
theorem dN_hole_41 : decode bN_hole 41 = .ok (.bipush 50, 2) := by decide +kernel
theorem dN_hole_43 : decode bN_hole 43 = .ok (.if_icmp .le 13, 3) := by decide +kernel
theorem dN_hole_46 : decode bN_hole 46 = .ok (.iload_n 2, 1) := by decide +kernel
theorem dN_hole_47 : decode bN_hole 47 = .ok (.bipush 7, 2) := by decide +kernel
theorem dN_hole_49 : decode bN_hole 49 = .ok (.imul, 1) := by decide +kernel
theorem dN_hole_50 : decode bN_hole 50 = .ok (.bipush 10, 2) := by decide +kernel
theorem dN_hole_52 : decode bN_hole 52 = .ok (.idiv, 1) := by decide +kernel
theorem dN_hole_53 : decode bN_hole 53 = .ok (.goto 4, 3) := by decide +kernel
theorem dN_hole_56 : decode bN_hole 56 = .ok (.iconst 0, 1) := by decide +kernel
theorem dN_hole_57 : decode bN_hole 57 = .ok (.ireturn, 1) := by decide +kernel
theorem dN_hole_58 : decode bN_hole 58 = .ok (.iload_n 2, 1) := by decide +kernel
theorem dN_hole_59 : decode bN_hole 59 = .ok (.bipush 7, 2) := by decide +kernel
theorem dN_hole_61 : decode bN_hole 61 = .ok (.imul, 1) := by decide +kernel
theorem dN_hole_62 : decode bN_hole 62 = .ok (.bipush 10, 2) := by decide +kernel
theorem dN_hole_64 : decode bN_hole 64 = .ok (.idiv, 1) := by decide +kernel
theorem dN_hole_65 : decode bN_hole 65 = .ok (.ireturn, 1) := by decide +kernel
theorem dN_hole_66 : decode bN_hole 66 = .ok (.iload_n 2, 1) := by decide +kernel
theorem dN_hole_67 : decode bN_hole 67 = .ok (.bipush 10, 2) := by decide +kernel
theorem dN_hole_69 : decode bN_hole 69 = .ok (.iadd, 1) := by decide +kernel
theorem dN_hole_70 : decode bN_hole 70 = .ok (.ireturn, 1) := by decide +kernel
theorem dN_hole_71 : decode bN_hole 71 = .ok (.iload_n 2, 1) := by decide +kernel
theorem dN_hole_72 : decode bN_hole 72 = .ok (.ireturn, 1) := by decide +kernel
theorem dN_requireIndex_0 : decode bN_requireIndex 0 = .ok (.iload_n 0, 1) := by decide +kernel
theorem dN_requireIndex_1 : decode bN_requireIndex 1 = .ok (.ifCond .lt 8, 3) := by decide +kernel
theorem dN_requireIndex_4 : decode bN_requireIndex 4 = .ok (.iload_n 0, 1) := by decide +kernel
theorem dN_requireIndex_5 : decode bN_requireIndex 5 = .ok (.iload_n 1, 1) := by decide +kernel
theorem dN_requireIndex_6 : decode bN_requireIndex 6 = .ok (.if_icmp .lt 13, 3) := by decide +kernel
theorem dN_requireIndex_9 : decode bN_requireIndex 9 = .ok (.new 160, 3) := by decide +kernel
theorem dN_requireIndex_12 : decode bN_requireIndex 12 = .ok (.dup, 1) := by decide +kernel
theorem dN_requireIndex_13 : decode bN_requireIndex 13 = .ok (.ldc 162, 2) := by decide +kernel
theorem dN_requireIndex_15 : decode bN_requireIndex 15 = .ok (.invokespecial 164, 3) := by decide +kernel
theorem dN_requireIndex_18 : decode bN_requireIndex 18 = .ok (.athrow, 1) := by decide +kernel
theorem dN_requireIndex_19 : decode bN_requireIndex 19 = .ok (.return_, 1) := by decide +kernel
theorem dN_requireWithin_0 : decode bN_requireWithin 0 = .ok (.lload_n 0, 1) := by decide +kernel
theorem dN_requireWithin_1 : decode bN_requireWithin 1 = .ok (.lload_n 2, 1) := by decide +kernel
theorem dN_requireWithin_2 : decode bN_requireWithin 2 = .ok (.lcmp, 1) := by decide +kernel
theorem dN_requireWithin_3 : decode bN_requireWithin 3 = .ok (.ifCond .lt 10, 3) := by decide +kernel
theorem dN_requireWithin_6 : decode bN_requireWithin 6 = .ok (.lload_n 0, 1) := by decide +kernel
theorem dN_requireWithin_7 : decode bN_requireWithin 7 = .ok (.lload 4, 2) := by decide +kernel
theorem dN_requireWithin_9 : decode bN_requireWithin 9 = .ok (.lcmp, 1) := by decide +kernel
theorem dN_requireWithin_10 : decode bN_requireWithin 10 = .ok (.ifCond .le 13, 3) := by decide +kernel
theorem dN_requireWithin_13 : decode bN_requireWithin 13 = .ok (.new 129, 3) := by decide +kernel
theorem dN_requireWithin_16 : decode bN_requireWithin 16 = .ok (.dup, 1) := by decide +kernel
theorem dN_requireWithin_17 : decode bN_requireWithin 17 = .ok (.ldc 165, 2) := by decide +kernel
theorem dN_requireWithin_19 : decode bN_requireWithin 19 = .ok (.invokespecial 133, 3) := by decide +kernel
theorem dN_requireWithin_22 : decode bN_requireWithin 22 = .ok (.athrow, 1) := by decide +kernel
theorem dN_requireWithin_23 : decode bN_requireWithin 23 = .ok (.return_, 1) := by decide +kernel
theorem dN_told_0 : decode bN_told 0 = .ok (.aload_n 0, 1) := by decide +kernel
theorem dN_told_1 : decode bN_told 1 = .ok (.getfield 16, 3) := by decide +kernel
theorem dN_told_4 : decode bN_told 4 = .ok (.iload_n 1, 1) := by decide +kernel
theorem dN_told_5 : decode bN_told 5 = .ok (.bipush 7, 2) := by decide +kernel
theorem dN_told_7 : decode bN_told 7 = .ok (.imul, 1) := by decide +kernel
theorem dN_told_8 : decode bN_told 8 = .ok (.iload_n 2, 1) := by decide +kernel
theorem dN_told_9 : decode bN_told 9 = .ok (.iadd, 1) := by decide +kernel
theorem dN_told_10 : decode bN_told 10 = .ok (.iaload, 1) := by decide +kernel
theorem dN_told_11 : decode bN_told 11 = .ok (.ireturn, 1) := by decide +kernel
theorem dN_space_0 : decode bN_space 0 = .ok (.aload_n 0, 1) := by decide +kernel
theorem dN_space_1 : decode bN_space 1 = .ok (.iload_n 1, 1) := by decide +kernel
theorem dN_space_2 : decode bN_space 2 = .ok (.iload_n 2, 1) := by decide +kernel
theorem dN_space_3 : decode bN_space 3 = .ok (.invokevirtual 67, 3) := by decide +kernel
theorem dN_space_6 : decode bN_space 6 = .ok (.aload_n 0, 1) := by decide +kernel
theorem dN_space_7 : decode bN_space 7 = .ok (.iload_n 1, 1) := by decide +kernel
theorem dN_space_8 : decode bN_space 8 = .ok (.iconst 0, 1) := by decide +kernel
theorem dN_space_9 : decode bN_space 9 = .ok (.invokevirtual 67, 3) := by decide +kernel
theorem dN_space_12 : decode bN_space 12 = .ok (.imul, 1) := by decide +kernel
theorem dN_space_13 : decode bN_space 13 = .ok (.ireturn, 1) := by decide +kernel
theorem dN_readStatements_0 : decode bN_readStatements 0 = .ok (.aload_n 0, 1) := by decide +kernel
theorem dN_readStatements_1 : decode bN_readStatements 1 = .ok (.getfield 10, 3) := by decide +kernel
theorem dN_readStatements_4 : decode bN_readStatements 4 = .ok (.invokevirtual 167, 3) := by decide +kernel
theorem dN_readStatements_7 : decode bN_readStatements 7 = .ok (.iconst 1, 1) := by decide +kernel
theorem dN_readStatements_8 : decode bN_readStatements 8 = .ok (.istore_n 1, 1) := by decide +kernel
theorem dN_readStatements_9 : decode bN_readStatements 9 = .ok (.iload_n 1, 1) := by decide +kernel
theorem dN_readStatements_10 : decode bN_readStatements 10 = .ok (.bipush 16, 2) := by decide +kernel
theorem dN_readStatements_12 : decode bN_readStatements 12 = .ok (.if_icmp .gt 62, 3) := by decide +kernel
theorem dN_readStatements_15 : decode bN_readStatements 15 = .ok (.aload_n 0, 1) := by decide +kernel
theorem dN_readStatements_16 : decode bN_readStatements 16 = .ok (.invokevirtual 170, 3) := by decide +kernel
theorem dN_readStatements_19 : decode bN_readStatements 19 = .ok (.ifCond .ne 11, 3) := by decide +kernel
theorem dN_readStatements_22 : decode bN_readStatements 22 = .ok (.aload_n 0, 1) := by decide +kernel
theorem dN_readStatements_23 : decode bN_readStatements 23 = .ok (.getfield 10, 3) := by decide +kernel
theorem dN_readStatements_26 : decode bN_readStatements 26 = .ok (.invokevirtual 174, 3) := by decide +kernel
theorem dN_readStatements_29 : decode bN_readStatements 29 = .ok (.ireturn, 1) := by decide +kernel
theorem dN_readStatements_30 : decode bN_readStatements 30 = .ok (.aload_n 0, 1) := by decide +kernel
theorem dN_readStatements_31 : decode bN_readStatements 31 = .ok (.getfield 10, 3) := by decide +kernel
theorem dN_readStatements_34 : decode bN_readStatements 34 = .ok (.invokevirtual 177, 3) := by decide +kernel
theorem dN_readStatements_37 : decode bN_readStatements 37 = .ok (.ifCond .eq 5, 3) := by decide +kernel
theorem dN_readStatements_40 : decode bN_readStatements 40 = .ok (.iload_n 1, 1) := by decide +kernel
theorem dN_readStatements_41 : decode bN_readStatements 41 = .ok (.ireturn, 1) := by decide +kernel
theorem dN_readStatements_42 : decode bN_readStatements 42 = .ok (.iload_n 1, 1) := by decide +kernel
theorem dN_readStatements_43 : decode bN_readStatements 43 = .ok (.bipush 16, 2) := by decide +kernel
theorem dN_readStatements_45 : decode bN_readStatements 45 = .ok (.if_icmp .eq 15, 3) := by decide +kernel
theorem dN_readStatements_48 : decode bN_readStatements 48 = .ok (.aload_n 0, 1) := by decide +kernel
theorem dN_readStatements_49 : decode bN_readStatements 49 = .ok (.getfield 10, 3) := by decide +kernel
theorem dN_readStatements_52 : decode bN_readStatements 52 = .ok (.bipush 59, 2) := by decide +kernel
theorem dN_readStatements_54 : decode bN_readStatements 54 = .ok (.invokevirtual 180, 3) := by decide +kernel
theorem dN_readStatements_57 : decode bN_readStatements 57 = .ok (.ifCond .ne 11, 3) := by decide +kernel
theorem dN_readStatements_60 : decode bN_readStatements 60 = .ok (.aload_n 0, 1) := by decide +kernel
theorem dN_readStatements_61 : decode bN_readStatements 61 = .ok (.getfield 10, 3) := by decide +kernel
theorem dN_readStatements_64 : decode bN_readStatements 64 = .ok (.invokevirtual 174, 3) := by decide +kernel
theorem dN_readStatements_67 : decode bN_readStatements 67 = .ok (.ireturn, 1) := by decide +kernel
theorem dN_readStatements_68 : decode bN_readStatements 68 = .ok (.iinc 1 1, 3) := by decide +kernel
theorem dN_readStatements_71 : decode bN_readStatements 71 = .ok (.goto (-62), 3) := by decide +kernel
theorem dN_readStatements_74 : decode bN_readStatements 74 = .ok (.aload_n 0, 1) := by decide +kernel
theorem dN_readStatements_75 : decode bN_readStatements 75 = .ok (.getfield 10, 3) := by decide +kernel
theorem dN_readStatements_78 : decode bN_readStatements 78 = .ok (.invokevirtual 174, 3) := by decide +kernel
theorem dN_readStatements_81 : decode bN_readStatements 81 = .ok (.ireturn, 1) := by decide +kernel
theorem dN_readStatement_0 : decode bN_readStatement 0 = .ok (.aload_n 0, 1) := by decide +kernel
theorem dN_readStatement_1 : decode bN_readStatement 1 = .ok (.getfield 10, 3) := by decide +kernel
theorem dN_readStatement_4 : decode bN_readStatement 4 = .ok (.invokevirtual 184, 3) := by decide +kernel
theorem dN_readStatement_7 : decode bN_readStatement 7 = .ok (.istore_n 1, 1) := by decide +kernel
theorem dN_readStatement_8 : decode bN_readStatement 8 = .ok (.iload_n 1, 1) := by decide +kernel
theorem dN_readStatement_9 : decode bN_readStatement 9 = .ok (.iconst (-1), 1) := by decide +kernel
theorem dN_readStatement_10 : decode bN_readStatement 10 = .ok (.if_icmp .eq 15, 3) := by decide +kernel
theorem dN_readStatement_13 : decode bN_readStatement 13 = .ok (.aload_n 0, 1) := by decide +kernel
theorem dN_readStatement_14 : decode bN_readStatement 14 = .ok (.getfield 10, 3) := by decide +kernel
theorem dN_readStatement_17 : decode bN_readStatement 17 = .ok (.bipush 32, 2) := by decide +kernel
theorem dN_readStatement_19 : decode bN_readStatement 19 = .ok (.invokevirtual 180, 3) := by decide +kernel
theorem dN_readStatement_22 : decode bN_readStatement 22 = .ok (.ifCond .ne 5, 3) := by decide +kernel
theorem dN_readStatement_25 : decode bN_readStatement 25 = .ok (.iconst 0, 1) := by decide +kernel
theorem dN_readStatement_26 : decode bN_readStatement 26 = .ok (.ireturn, 1) := by decide +kernel
theorem dN_readStatement_27 : decode bN_readStatement 27 = .ok (.aload_n 0, 1) := by decide +kernel
theorem dN_readStatement_28 : decode bN_readStatement 28 = .ok (.getfield 10, 3) := by decide +kernel
theorem dN_readStatement_31 : decode bN_readStatement 31 = .ok (.invokevirtual 187, 3) := by decide +kernel
theorem dN_readStatement_34 : decode bN_readStatement 34 = .ok (.istore_n 2, 1) := by decide +kernel
theorem dN_readStatement_35 : decode bN_readStatement 35 = .ok (.iload_n 2, 1) := by decide +kernel
theorem dN_readStatement_36 : decode bN_readStatement 36 = .ok (.iconst (-1), 1) := by decide +kernel
theorem dN_readStatement_37 : decode bN_readStatement 37 = .ok (.if_icmp .eq 15, 3) := by decide +kernel
theorem dN_readStatement_40 : decode bN_readStatement 40 = .ok (.aload_n 0, 1) := by decide +kernel
theorem dN_readStatement_41 : decode bN_readStatement 41 = .ok (.getfield 10, 3) := by decide +kernel
theorem dN_readStatement_44 : decode bN_readStatement 44 = .ok (.bipush 32, 2) := by decide +kernel
theorem dN_readStatement_46 : decode bN_readStatement 46 = .ok (.invokevirtual 180, 3) := by decide +kernel
theorem dN_readStatement_49 : decode bN_readStatement 49 = .ok (.ifCond .ne 5, 3) := by decide +kernel
theorem dN_readStatement_52 : decode bN_readStatement 52 = .ok (.iconst 0, 1) := by decide +kernel
theorem dN_readStatement_53 : decode bN_readStatement 53 = .ok (.ireturn, 1) := by decide +kernel
theorem dN_readStatement_54 : decode bN_readStatement 54 = .ok (.aload_n 0, 1) := by decide +kernel
theorem dN_readStatement_55 : decode bN_readStatement 55 = .ok (.getfield 10, 3) := by decide +kernel
theorem dN_readStatement_58 : decode bN_readStatement 58 = .ok (.invokevirtual 190, 3) := by decide +kernel
theorem dN_readStatement_61 : decode bN_readStatement 61 = .ok (.istore_n 3, 1) := by decide +kernel
theorem dN_readStatement_62 : decode bN_readStatement 62 = .ok (.iload_n 3, 1) := by decide +kernel
theorem dN_readStatement_63 : decode bN_readStatement 63 = .ok (.iconst (-1), 1) := by decide +kernel
theorem dN_readStatement_64 : decode bN_readStatement 64 = .ok (.if_icmp .ne 5, 3) := by decide +kernel
theorem dN_readStatement_67 : decode bN_readStatement 67 = .ok (.iconst 0, 1) := by decide +kernel
theorem dN_readStatement_68 : decode bN_readStatement 68 = .ok (.ireturn, 1) := by decide +kernel
theorem dN_readStatement_69 : decode bN_readStatement 69 = .ok (.aload_n 0, 1) := by decide +kernel
theorem dN_readStatement_70 : decode bN_readStatement 70 = .ok (.getfield 16, 3) := by decide +kernel
theorem dN_readStatement_73 : decode bN_readStatement 73 = .ok (.iload_n 1, 1) := by decide +kernel
theorem dN_readStatement_74 : decode bN_readStatement 74 = .ok (.bipush 7, 2) := by decide +kernel
theorem dN_readStatement_76 : decode bN_readStatement 76 = .ok (.imul, 1) := by decide +kernel
theorem dN_readStatement_77 : decode bN_readStatement 77 = .ok (.iload_n 2, 1) := by decide +kernel
theorem dN_readStatement_78 : decode bN_readStatement 78 = .ok (.iadd, 1) := by decide +kernel
theorem dN_readStatement_79 : decode bN_readStatement 79 = .ok (.iload_n 3, 1) := by decide +kernel
theorem dN_readStatement_80 : decode bN_readStatement 80 = .ok (.iastore, 1) := by decide +kernel
theorem dN_readStatement_81 : decode bN_readStatement 81 = .ok (.iconst 1, 1) := by decide +kernel
theorem dN_readStatement_82 : decode bN_readStatement 82 = .ok (.ireturn, 1) := by decide +kernel
theorem dN_leastFormula_0 : decode bN_leastFormula 0 = .ok (.iconst 0, 1) := by decide +kernel
theorem dN_leastFormula_1 : decode bN_leastFormula 1 = .ok (.istore 4, 2) := by decide +kernel
theorem dN_leastFormula_3 : decode bN_leastFormula 3 = .ok (.iconst 1, 1) := by decide +kernel
theorem dN_leastFormula_4 : decode bN_leastFormula 4 = .ok (.istore 5, 2) := by decide +kernel
theorem dN_leastFormula_6 : decode bN_leastFormula 6 = .ok (.iload 5, 2) := by decide +kernel
theorem dN_leastFormula_8 : decode bN_leastFormula 8 = .ok (.iconst 4, 1) := by decide +kernel
theorem dN_leastFormula_9 : decode bN_leastFormula 9 = .ok (.if_icmp .ge 35, 3) := by decide +kernel
theorem dN_leastFormula_12 : decode bN_leastFormula 12 = .ok (.aload_n 0, 1) := by decide +kernel
theorem dN_leastFormula_13 : decode bN_leastFormula 13 = .ok (.iload 5, 2) := by decide +kernel
theorem dN_leastFormula_15 : decode bN_leastFormula 15 = .ok (.iload_n 1, 1) := by decide +kernel
theorem dN_leastFormula_16 : decode bN_leastFormula 16 = .ok (.iload_n 2, 1) := by decide +kernel
theorem dN_leastFormula_17 : decode bN_leastFormula 17 = .ok (.iload_n 3, 1) := by decide +kernel
theorem dN_leastFormula_18 : decode bN_leastFormula 18 = .ok (.invokevirtual 85, 3) := by decide +kernel
theorem dN_leastFormula_21 : decode bN_leastFormula 21 = .ok (.aload_n 0, 1) := by decide +kernel
theorem dN_leastFormula_22 : decode bN_leastFormula 22 = .ok (.iload 4, 2) := by decide +kernel
theorem dN_leastFormula_24 : decode bN_leastFormula 24 = .ok (.iload_n 1, 1) := by decide +kernel
theorem dN_leastFormula_25 : decode bN_leastFormula 25 = .ok (.iload_n 2, 1) := by decide +kernel
theorem dN_leastFormula_26 : decode bN_leastFormula 26 = .ok (.iload_n 3, 1) := by decide +kernel
theorem dN_leastFormula_27 : decode bN_leastFormula 27 = .ok (.invokevirtual 85, 3) := by decide +kernel
theorem dN_leastFormula_30 : decode bN_leastFormula 30 = .ok (.lcmp, 1) := by decide +kernel
theorem dN_leastFormula_31 : decode bN_leastFormula 31 = .ok (.ifCond .ge 7, 3) := by decide +kernel
theorem dN_leastFormula_34 : decode bN_leastFormula 34 = .ok (.iload 5, 2) := by decide +kernel
theorem dN_leastFormula_36 : decode bN_leastFormula 36 = .ok (.istore 4, 2) := by decide +kernel
theorem dN_leastFormula_38 : decode bN_leastFormula 38 = .ok (.iinc 5 1, 3) := by decide +kernel
theorem dN_leastFormula_41 : decode bN_leastFormula 41 = .ok (.goto (-35), 3) := by decide +kernel
theorem dN_leastFormula_44 : decode bN_leastFormula 44 = .ok (.iload 4, 2) := by decide +kernel
theorem dN_leastFormula_46 : decode bN_leastFormula 46 = .ok (.ireturn, 1) := by decide +kernel
theorem dN_formula_0 : decode bN_formula 0 = .ok (.aload_n 0, 1) := by decide +kernel
theorem dN_formula_1 : decode bN_formula 1 = .ok (.iload_n 2, 1) := by decide +kernel
theorem dN_formula_2 : decode bN_formula 2 = .ok (.iconst 0, 1) := by decide +kernel
theorem dN_formula_3 : decode bN_formula 3 = .ok (.invokevirtual 67, 3) := by decide +kernel
theorem dN_formula_6 : decode bN_formula 6 = .ok (.i2l, 1) := by decide +kernel
theorem dN_formula_7 : decode bN_formula 7 = .ok (.lstore 5, 2) := by decide +kernel
theorem dN_formula_9 : decode bN_formula 9 = .ok (.aload_n 0, 1) := by decide +kernel
theorem dN_formula_10 : decode bN_formula 10 = .ok (.iload_n 2, 1) := by decide +kernel
theorem dN_formula_11 : decode bN_formula 11 = .ok (.iconst 1, 1) := by decide +kernel
theorem dN_formula_12 : decode bN_formula 12 = .ok (.invokevirtual 67, 3) := by decide +kernel
theorem dN_formula_15 : decode bN_formula 15 = .ok (.i2l, 1) := by decide +kernel
theorem dN_formula_16 : decode bN_formula 16 = .ok (.lstore 7, 2) := by decide +kernel
theorem dN_formula_18 : decode bN_formula 18 = .ok (.iload_n 1, 1) := by decide +kernel
theorem dN_formula_19 : decode bN_formula 19 = .ok (.tableswitch 60 0 2 #[25, 34, 44], 25) := by decide +kernel
theorem dN_formula_44 : decode bN_formula 44 = .ok (.lload 7, 2) := by decide +kernel
theorem dN_formula_46 : decode bN_formula 46 = .ok (.iload_n 3, 1) := by decide +kernel
theorem dN_formula_47 : decode bN_formula 47 = .ok (.i2l, 1) := by decide +kernel
theorem dN_formula_48 : decode bN_formula 48 = .ok (.lmul, 1) := by decide +kernel
theorem dN_formula_49 : decode bN_formula 49 = .ok (.lload 5, 2) := by decide +kernel
theorem dN_formula_51 : decode bN_formula 51 = .ok (.lmul, 1) := by decide +kernel
theorem dN_formula_52 : decode bN_formula 52 = .ok (.lreturn, 1) := by decide +kernel
theorem dN_formula_53 : decode bN_formula 53 = .ok (.lload 7, 2) := by decide +kernel
theorem dN_formula_55 : decode bN_formula 55 = .ok (.iload 4, 2) := by decide +kernel
theorem dN_formula_57 : decode bN_formula 57 = .ok (.i2l, 1) := by decide +kernel
theorem dN_formula_58 : decode bN_formula 58 = .ok (.lmul, 1) := by decide +kernel
theorem dN_formula_59 : decode bN_formula 59 = .ok (.lload 5, 2) := by decide +kernel
theorem dN_formula_61 : decode bN_formula 61 = .ok (.lmul, 1) := by decide +kernel
theorem dN_formula_62 : decode bN_formula 62 = .ok (.lreturn, 1) := by decide +kernel
theorem dN_formula_63 : decode bN_formula 63 = .ok (.lload 7, 2) := by decide +kernel
theorem dN_formula_65 : decode bN_formula 65 = .ok (.iload_n 3, 1) := by decide +kernel
theorem dN_formula_66 : decode bN_formula 66 = .ok (.iload 4, 2) := by decide +kernel
theorem dN_formula_68 : decode bN_formula 68 = .ok (.iadd, 1) := by decide +kernel
theorem dN_formula_69 : decode bN_formula 69 = .ok (.i2l, 1) := by decide +kernel
theorem dN_formula_70 : decode bN_formula 70 = .ok (.lmul, 1) := by decide +kernel
theorem dN_formula_71 : decode bN_formula 71 = .ok (.lload 5, 2) := by decide +kernel
theorem dN_formula_73 : decode bN_formula 73 = .ok (.lmul, 1) := by decide +kernel
theorem dN_formula_74 : decode bN_formula 74 = .ok (.ldc2_w 193, 3) := by decide +kernel
theorem dN_formula_77 : decode bN_formula 77 = .ok (.ldiv, 1) := by decide +kernel
theorem dN_formula_78 : decode bN_formula 78 = .ok (.lreturn, 1) := by decide +kernel
theorem dN_formula_79 : decode bN_formula 79 = .ok (.lload 7, 2) := by decide +kernel
theorem dN_formula_81 : decode bN_formula 81 = .ok (.lload 5, 2) := by decide +kernel
theorem dN_formula_83 : decode bN_formula 83 = .ok (.lmul, 1) := by decide +kernel
theorem dN_formula_84 : decode bN_formula 84 = .ok (.lload 5, 2) := by decide +kernel
theorem dN_formula_86 : decode bN_formula 86 = .ok (.lmul, 1) := by decide +kernel
theorem dN_formula_87 : decode bN_formula 87 = .ok (.ldc2_w 195, 3) := by decide +kernel
theorem dN_formula_90 : decode bN_formula 90 = .ok (.lmul, 1) := by decide +kernel
theorem dN_formula_91 : decode bN_formula 91 = .ok (.lreturn, 1) := by decide +kernel
theorem dN_heldByRow_0 : decode bN_heldByRow 0 = .ok (.bipush 50, 2) := by decide +kernel
theorem dN_heldByRow_2 : decode bN_heldByRow 2 = .ok (.bipush 100, 2) := by decide +kernel
theorem dN_heldByRow_4 : decode bN_heldByRow 4 = .ok (.aload_n 0, 1) := by decide +kernel
theorem dN_heldByRow_5 : decode bN_heldByRow 5 = .ok (.getfield 24, 3) := by decide +kernel
theorem dN_heldByRow_8 : decode bN_heldByRow 8 = .ok (.iload_n 1, 1) := by decide +kernel
theorem dN_heldByRow_9 : decode bN_heldByRow 9 = .ok (.iconst 1, 1) := by decide +kernel
theorem dN_heldByRow_10 : decode bN_heldByRow 10 = .ok (.isub, 1) := by decide +kernel
theorem dN_heldByRow_11 : decode bN_heldByRow 11 = .ok (.imul, 1) := by decide +kernel
theorem dN_heldByRow_12 : decode bN_heldByRow 12 = .ok (.isub, 1) := by decide +kernel
theorem dN_heldByRow_13 : decode bN_heldByRow 13 = .ok (.invokestatic 197, 3) := by decide +kernel
theorem dN_heldByRow_16 : decode bN_heldByRow 16 = .ok (.istore 4, 2) := by decide +kernel
theorem dN_heldByRow_18 : decode bN_heldByRow 18 = .ok (.iload_n 1, 1) := by decide +kernel
theorem dN_heldByRow_19 : decode bN_heldByRow 19 = .ok (.i2l, 1) := by decide +kernel
theorem dN_heldByRow_20 : decode bN_heldByRow 20 = .ok (.lload_n 2, 1) := by decide +kernel
theorem dN_heldByRow_21 : decode bN_heldByRow 21 = .ok (.lmul, 1) := by decide +kernel
theorem dN_heldByRow_22 : decode bN_heldByRow 22 = .ok (.iload 4, 2) := by decide +kernel
theorem dN_heldByRow_24 : decode bN_heldByRow 24 = .ok (.i2l, 1) := by decide +kernel
theorem dN_heldByRow_25 : decode bN_heldByRow 25 = .ok (.lmul, 1) := by decide +kernel
theorem dN_heldByRow_26 : decode bN_heldByRow 26 = .ok (.ldc2_w 71, 3) := by decide +kernel
theorem dN_heldByRow_29 : decode bN_heldByRow 29 = .ok (.ldiv, 1) := by decide +kernel
theorem dN_heldByRow_30 : decode bN_heldByRow 30 = .ok (.lreturn, 1) := by decide +kernel
theorem dN_fitting_0 : decode bN_fitting 0 = .ok (.iload_n 0, 1) := by decide +kernel
theorem dN_fitting_1 : decode bN_fitting 1 = .ok (.iconst 2, 1) := by decide +kernel
theorem dN_fitting_2 : decode bN_fitting 2 = .ok (.iload_n 1, 1) := by decide +kernel
theorem dN_fitting_3 : decode bN_fitting 3 = .ok (.imul, 1) := by decide +kernel
theorem dN_fitting_4 : decode bN_fitting 4 = .ok (.isub, 1) := by decide +kernel
theorem dN_fitting_5 : decode bN_fitting 5 = .ok (.istore_n 3, 1) := by decide +kernel
theorem dN_fitting_6 : decode bN_fitting 6 = .ok (.iload_n 3, 1) := by decide +kernel
theorem dN_fitting_7 : decode bN_fitting 7 = .ok (.ifCond .lt 8, 3) := by decide +kernel
theorem dN_fitting_10 : decode bN_fitting 10 = .ok (.iload_n 2, 1) := by decide +kernel
theorem dN_fitting_11 : decode bN_fitting 11 = .ok (.iconst 1, 1) := by decide +kernel
theorem dN_fitting_12 : decode bN_fitting 12 = .ok (.if_icmp .ge 5, 3) := by decide +kernel
theorem dN_fitting_15 : decode bN_fitting 15 = .ok (.iconst 0, 1) := by decide +kernel
theorem dN_fitting_16 : decode bN_fitting 16 = .ok (.ireturn, 1) := by decide +kernel
theorem dN_fitting_17 : decode bN_fitting 17 = .ok (.iload_n 3, 1) := by decide +kernel
theorem dN_fitting_18 : decode bN_fitting 18 = .ok (.iload_n 2, 1) := by decide +kernel
theorem dN_fitting_19 : decode bN_fitting 19 = .ok (.idiv, 1) := by decide +kernel
theorem dN_fitting_20 : decode bN_fitting 20 = .ok (.iconst 1, 1) := by decide +kernel
theorem dN_fitting_21 : decode bN_fitting 21 = .ok (.iadd, 1) := by decide +kernel
theorem dN_fitting_22 : decode bN_fitting 22 = .ok (.ireturn, 1) := by decide +kernel
theorem dN_layOut_0 : decode bN_layOut 0 = .ok (.iconst 0, 1) := by decide +kernel
theorem dN_layOut_1 : decode bN_layOut 1 = .ok (.istore 4, 2) := by decide +kernel
theorem dN_layOut_3 : decode bN_layOut 3 = .ok (.iconst 0, 1) := by decide +kernel
theorem dN_layOut_4 : decode bN_layOut 4 = .ok (.istore 5, 2) := by decide +kernel
theorem dN_layOut_6 : decode bN_layOut 6 = .ok (.iconst 0, 1) := by decide +kernel
theorem dN_layOut_7 : decode bN_layOut 7 = .ok (.istore 6, 2) := by decide +kernel
theorem dN_layOut_9 : decode bN_layOut 9 = .ok (.iload 6, 2) := by decide +kernel
theorem dN_layOut_11 : decode bN_layOut 11 = .ok (.iload_n 3, 1) := by decide +kernel
theorem dN_layOut_12 : decode bN_layOut 12 = .ok (.if_icmp .ge 70, 3) := by decide +kernel
theorem dN_layOut_15 : decode bN_layOut 15 = .ok (.aload_n 0, 1) := by decide +kernel
theorem dN_layOut_16 : decode bN_layOut 16 = .ok (.getfield 27, 3) := by decide +kernel
theorem dN_layOut_19 : decode bN_layOut 19 = .ok (.iload 6, 2) := by decide +kernel
theorem dN_layOut_21 : decode bN_layOut 21 = .ok (.aload_n 0, 1) := by decide +kernel
theorem dN_layOut_22 : decode bN_layOut 22 = .ok (.iload_n 1, 1) := by decide +kernel
theorem dN_layOut_23 : decode bN_layOut 23 = .ok (.iconst 3, 1) := by decide +kernel
theorem dN_layOut_24 : decode bN_layOut 24 = .ok (.invokevirtual 99, 3) := by decide +kernel
theorem dN_layOut_27 : decode bN_layOut 27 = .ok (.iload 4, 2) := by decide +kernel
theorem dN_layOut_29 : decode bN_layOut 29 = .ok (.aload_n 0, 1) := by decide +kernel
theorem dN_layOut_30 : decode bN_layOut 30 = .ok (.iload_n 1, 1) := by decide +kernel
theorem dN_layOut_31 : decode bN_layOut 31 = .ok (.iconst 4, 1) := by decide +kernel
theorem dN_layOut_32 : decode bN_layOut 32 = .ok (.invokevirtual 99, 3) := by decide +kernel
theorem dN_layOut_35 : decode bN_layOut 35 = .ok (.imul, 1) := by decide +kernel
theorem dN_layOut_36 : decode bN_layOut 36 = .ok (.iadd, 1) := by decide +kernel
theorem dN_layOut_37 : decode bN_layOut 37 = .ok (.iastore, 1) := by decide +kernel
theorem dN_layOut_38 : decode bN_layOut 38 = .ok (.aload_n 0, 1) := by decide +kernel
theorem dN_layOut_39 : decode bN_layOut 39 = .ok (.getfield 30, 3) := by decide +kernel
theorem dN_layOut_42 : decode bN_layOut 42 = .ok (.iload 6, 2) := by decide +kernel
theorem dN_layOut_44 : decode bN_layOut 44 = .ok (.aload_n 0, 1) := by decide +kernel
theorem dN_layOut_45 : decode bN_layOut 45 = .ok (.iload_n 1, 1) := by decide +kernel
theorem dN_layOut_46 : decode bN_layOut 46 = .ok (.iconst 2, 1) := by decide +kernel
theorem dN_layOut_47 : decode bN_layOut 47 = .ok (.invokevirtual 99, 3) := by decide +kernel
theorem dN_layOut_50 : decode bN_layOut 50 = .ok (.iload 5, 2) := by decide +kernel
theorem dN_layOut_52 : decode bN_layOut 52 = .ok (.aload_n 0, 1) := by decide +kernel
theorem dN_layOut_53 : decode bN_layOut 53 = .ok (.iload_n 1, 1) := by decide +kernel
theorem dN_layOut_54 : decode bN_layOut 54 = .ok (.iconst 5, 1) := by decide +kernel
theorem dN_layOut_55 : decode bN_layOut 55 = .ok (.invokevirtual 99, 3) := by decide +kernel
theorem dN_layOut_58 : decode bN_layOut 58 = .ok (.imul, 1) := by decide +kernel
theorem dN_layOut_59 : decode bN_layOut 59 = .ok (.iadd, 1) := by decide +kernel
theorem dN_layOut_60 : decode bN_layOut 60 = .ok (.iastore, 1) := by decide +kernel
theorem dN_layOut_61 : decode bN_layOut 61 = .ok (.iinc 4 1, 3) := by decide +kernel
theorem dN_layOut_64 : decode bN_layOut 64 = .ok (.iload 4, 2) := by decide +kernel
theorem dN_layOut_66 : decode bN_layOut 66 = .ok (.iload_n 2, 1) := by decide +kernel
theorem dN_layOut_67 : decode bN_layOut 67 = .ok (.if_icmp .ne 9, 3) := by decide +kernel
theorem dN_layOut_70 : decode bN_layOut 70 = .ok (.iconst 0, 1) := by decide +kernel
theorem dN_layOut_71 : decode bN_layOut 71 = .ok (.istore 4, 2) := by decide +kernel
theorem dN_layOut_73 : decode bN_layOut 73 = .ok (.iinc 5 1, 3) := by decide +kernel
theorem dN_layOut_76 : decode bN_layOut 76 = .ok (.iinc 6 1, 3) := by decide +kernel
theorem dN_layOut_79 : decode bN_layOut 79 = .ok (.goto (-70), 3) := by decide +kernel
theorem dN_layOut_82 : decode bN_layOut 82 = .ok (.aload_n 0, 1) := by decide +kernel
theorem dN_layOut_83 : decode bN_layOut 83 = .ok (.iload_n 3, 1) := by decide +kernel
theorem dN_layOut_84 : decode bN_layOut 84 = .ok (.putfield 33, 3) := by decide +kernel
theorem dN_layOut_87 : decode bN_layOut 87 = .ok (.return_, 1) := by decide +kernel
theorem dN_firstNearSide_0 : decode bN_firstNearSide 0 = .ok (.aload_n 0, 1) := by decide +kernel
theorem dN_firstNearSide_1 : decode bN_firstNearSide 1 = .ok (.iload_n 1, 1) := by decide +kernel
theorem dN_firstNearSide_2 : decode bN_firstNearSide 2 = .ok (.iconst 3, 1) := by decide +kernel
theorem dN_firstNearSide_3 : decode bN_firstNearSide 3 = .ok (.invokevirtual 99, 3) := by decide +kernel
theorem dN_firstNearSide_6 : decode bN_firstNearSide 6 = .ok (.istore 4, 2) := by decide +kernel
theorem dN_firstNearSide_8 : decode bN_firstNearSide 8 = .ok (.aload_n 0, 1) := by decide +kernel
theorem dN_firstNearSide_9 : decode bN_firstNearSide 9 = .ok (.iload_n 1, 1) := by decide +kernel
theorem dN_firstNearSide_10 : decode bN_firstNearSide 10 = .ok (.iconst 2, 1) := by decide +kernel
theorem dN_firstNearSide_11 : decode bN_firstNearSide 11 = .ok (.invokevirtual 99, 3) := by decide +kernel
theorem dN_firstNearSide_14 : decode bN_firstNearSide 14 = .ok (.istore 5, 2) := by decide +kernel
theorem dN_firstNearSide_16 : decode bN_firstNearSide 16 = .ok (.iconst 0, 1) := by decide +kernel
theorem dN_firstNearSide_17 : decode bN_firstNearSide 17 = .ok (.istore 6, 2) := by decide +kernel
theorem dN_firstNearSide_19 : decode bN_firstNearSide 19 = .ok (.iload 6, 2) := by decide +kernel
theorem dN_firstNearSide_21 : decode bN_firstNearSide 21 = .ok (.aload_n 0, 1) := by decide +kernel
theorem dN_firstNearSide_22 : decode bN_firstNearSide 22 = .ok (.getfield 42, 3) := by decide +kernel
theorem dN_firstNearSide_25 : decode bN_firstNearSide 25 = .ok (.if_icmp .ge 68, 3) := by decide +kernel
theorem dN_firstNearSide_28 : decode bN_firstNearSide 28 = .ok (.aload_n 0, 1) := by decide +kernel
theorem dN_firstNearSide_29 : decode bN_firstNearSide 29 = .ok (.getfield 36, 3) := by decide +kernel
theorem dN_firstNearSide_32 : decode bN_firstNearSide 32 = .ok (.iload 6, 2) := by decide +kernel
theorem dN_firstNearSide_34 : decode bN_firstNearSide 34 = .ok (.iaload, 1) := by decide +kernel
theorem dN_firstNearSide_35 : decode bN_firstNearSide 35 = .ok (.iload_n 2, 1) := by decide +kernel
theorem dN_firstNearSide_36 : decode bN_firstNearSide 36 = .ok (.aload_n 0, 1) := by decide +kernel
theorem dN_firstNearSide_37 : decode bN_firstNearSide 37 = .ok (.getfield 36, 3) := by decide +kernel
theorem dN_firstNearSide_40 : decode bN_firstNearSide 40 = .ok (.iload 6, 2) := by decide +kernel
theorem dN_firstNearSide_42 : decode bN_firstNearSide 42 = .ok (.iaload, 1) := by decide +kernel
theorem dN_firstNearSide_43 : decode bN_firstNearSide 43 = .ok (.isub, 1) := by decide +kernel
theorem dN_firstNearSide_44 : decode bN_firstNearSide 44 = .ok (.invokestatic 202, 3) := by decide +kernel
theorem dN_firstNearSide_47 : decode bN_firstNearSide 47 = .ok (.istore 7, 2) := by decide +kernel
theorem dN_firstNearSide_49 : decode bN_firstNearSide 49 = .ok (.aload_n 0, 1) := by decide +kernel
theorem dN_firstNearSide_50 : decode bN_firstNearSide 50 = .ok (.getfield 39, 3) := by decide +kernel
theorem dN_firstNearSide_53 : decode bN_firstNearSide 53 = .ok (.iload 6, 2) := by decide +kernel
theorem dN_firstNearSide_55 : decode bN_firstNearSide 55 = .ok (.iaload, 1) := by decide +kernel
theorem dN_firstNearSide_56 : decode bN_firstNearSide 56 = .ok (.iload_n 3, 1) := by decide +kernel
theorem dN_firstNearSide_57 : decode bN_firstNearSide 57 = .ok (.aload_n 0, 1) := by decide +kernel
theorem dN_firstNearSide_58 : decode bN_firstNearSide 58 = .ok (.getfield 39, 3) := by decide +kernel
theorem dN_firstNearSide_61 : decode bN_firstNearSide 61 = .ok (.iload 6, 2) := by decide +kernel
theorem dN_firstNearSide_63 : decode bN_firstNearSide 63 = .ok (.iaload, 1) := by decide +kernel
theorem dN_firstNearSide_64 : decode bN_firstNearSide 64 = .ok (.isub, 1) := by decide +kernel
theorem dN_firstNearSide_65 : decode bN_firstNearSide 65 = .ok (.invokestatic 202, 3) := by decide +kernel
theorem dN_firstNearSide_68 : decode bN_firstNearSide 68 = .ok (.istore 8, 2) := by decide +kernel
theorem dN_firstNearSide_70 : decode bN_firstNearSide 70 = .ok (.iload 7, 2) := by decide +kernel
theorem dN_firstNearSide_72 : decode bN_firstNearSide 72 = .ok (.iload 4, 2) := by decide +kernel
theorem dN_firstNearSide_74 : decode bN_firstNearSide 74 = .ok (.if_icmp .lt 10, 3) := by decide +kernel
theorem dN_firstNearSide_77 : decode bN_firstNearSide 77 = .ok (.iload 8, 2) := by decide +kernel
theorem dN_firstNearSide_79 : decode bN_firstNearSide 79 = .ok (.iload 5, 2) := by decide +kernel
theorem dN_firstNearSide_81 : decode bN_firstNearSide 81 = .ok (.if_icmp .ge 6, 3) := by decide +kernel
theorem dN_firstNearSide_84 : decode bN_firstNearSide 84 = .ok (.iload 6, 2) := by decide +kernel
theorem dN_firstNearSide_86 : decode bN_firstNearSide 86 = .ok (.ireturn, 1) := by decide +kernel
theorem dN_firstNearSide_87 : decode bN_firstNearSide 87 = .ok (.iinc 6 1, 3) := by decide +kernel
theorem dN_firstNearSide_90 : decode bN_firstNearSide 90 = .ok (.goto (-71), 3) := by decide +kernel
theorem dN_firstNearSide_93 : decode bN_firstNearSide 93 = .ok (.iconst (-1), 1) := by decide +kernel
theorem dN_firstNearSide_94 : decode bN_firstNearSide 94 = .ok (.ireturn, 1) := by decide +kernel
theorem dN_firstNearPair_0 : decode bN_firstNearPair 0 = .ok (.iconst 0, 1) := by decide +kernel
theorem dN_firstNearPair_1 : decode bN_firstNearPair 1 = .ok (.istore_n 3, 1) := by decide +kernel
theorem dN_firstNearPair_2 : decode bN_firstNearPair 2 = .ok (.iload_n 3, 1) := by decide +kernel
theorem dN_firstNearPair_3 : decode bN_firstNearPair 3 = .ok (.aload_n 0, 1) := by decide +kernel
theorem dN_firstNearPair_4 : decode bN_firstNearPair 4 = .ok (.getfield 42, 3) := by decide +kernel
theorem dN_firstNearPair_7 : decode bN_firstNearPair 7 = .ok (.if_icmp .ge 51, 3) := by decide +kernel
theorem dN_firstNearPair_10 : decode bN_firstNearPair 10 = .ok (.iload_n 3, 1) := by decide +kernel
theorem dN_firstNearPair_11 : decode bN_firstNearPair 11 = .ok (.iconst 1, 1) := by decide +kernel
theorem dN_firstNearPair_12 : decode bN_firstNearPair 12 = .ok (.iadd, 1) := by decide +kernel
theorem dN_firstNearPair_13 : decode bN_firstNearPair 13 = .ok (.istore 4, 2) := by decide +kernel
theorem dN_firstNearPair_15 : decode bN_firstNearPair 15 = .ok (.iload 4, 2) := by decide +kernel
theorem dN_firstNearPair_17 : decode bN_firstNearPair 17 = .ok (.aload_n 0, 1) := by decide +kernel
theorem dN_firstNearPair_18 : decode bN_firstNearPair 18 = .ok (.getfield 42, 3) := by decide +kernel
theorem dN_firstNearPair_21 : decode bN_firstNearPair 21 = .ok (.if_icmp .ge 31, 3) := by decide +kernel
theorem dN_firstNearPair_24 : decode bN_firstNearPair 24 = .ok (.aload_n 0, 1) := by decide +kernel
theorem dN_firstNearPair_25 : decode bN_firstNearPair 25 = .ok (.iload_n 3, 1) := by decide +kernel
theorem dN_firstNearPair_26 : decode bN_firstNearPair 26 = .ok (.iload 4, 2) := by decide +kernel
theorem dN_firstNearPair_28 : decode bN_firstNearPair 28 = .ok (.invokevirtual 205, 3) := by decide +kernel
theorem dN_firstNearPair_31 : decode bN_firstNearPair 31 = .ok (.lload_n 1, 1) := by decide +kernel
theorem dN_firstNearPair_32 : decode bN_firstNearPair 32 = .ok (.lload_n 1, 1) := by decide +kernel
theorem dN_firstNearPair_33 : decode bN_firstNearPair 33 = .ok (.lmul, 1) := by decide +kernel
theorem dN_firstNearPair_34 : decode bN_firstNearPair 34 = .ok (.lcmp, 1) := by decide +kernel
theorem dN_firstNearPair_35 : decode bN_firstNearPair 35 = .ok (.ifCond .ge 11, 3) := by decide +kernel
theorem dN_firstNearPair_38 : decode bN_firstNearPair 38 = .ok (.iload_n 3, 1) := by decide +kernel
theorem dN_firstNearPair_39 : decode bN_firstNearPair 39 = .ok (.bipush 32, 2) := by decide +kernel
theorem dN_firstNearPair_41 : decode bN_firstNearPair 41 = .ok (.imul, 1) := by decide +kernel
theorem dN_firstNearPair_42 : decode bN_firstNearPair 42 = .ok (.iload 4, 2) := by decide +kernel
theorem dN_firstNearPair_44 : decode bN_firstNearPair 44 = .ok (.iadd, 1) := by decide +kernel
theorem dN_firstNearPair_45 : decode bN_firstNearPair 45 = .ok (.ireturn, 1) := by decide +kernel
theorem dN_firstNearPair_46 : decode bN_firstNearPair 46 = .ok (.iinc 4 1, 3) := by decide +kernel
theorem dN_firstNearPair_49 : decode bN_firstNearPair 49 = .ok (.goto (-34), 3) := by decide +kernel
theorem dN_firstNearPair_52 : decode bN_firstNearPair 52 = .ok (.iinc 3 1, 3) := by decide +kernel
theorem dN_firstNearPair_55 : decode bN_firstNearPair 55 = .ok (.goto (-53), 3) := by decide +kernel
theorem dN_firstNearPair_58 : decode bN_firstNearPair 58 = .ok (.iconst (-1), 1) := by decide +kernel
theorem dN_firstNearPair_59 : decode bN_firstNearPair 59 = .ok (.ireturn, 1) := by decide +kernel
theorem dN_squareBetween_0 : decode bN_squareBetween 0 = .ok (.aload_n 0, 1) := by decide +kernel
theorem dN_squareBetween_1 : decode bN_squareBetween 1 = .ok (.getfield 36, 3) := by decide +kernel
theorem dN_squareBetween_4 : decode bN_squareBetween 4 = .ok (.iload_n 1, 1) := by decide +kernel
theorem dN_squareBetween_5 : decode bN_squareBetween 5 = .ok (.iaload, 1) := by decide +kernel
theorem dN_squareBetween_6 : decode bN_squareBetween 6 = .ok (.aload_n 0, 1) := by decide +kernel
theorem dN_squareBetween_7 : decode bN_squareBetween 7 = .ok (.getfield 36, 3) := by decide +kernel
theorem dN_squareBetween_10 : decode bN_squareBetween 10 = .ok (.iload_n 2, 1) := by decide +kernel
theorem dN_squareBetween_11 : decode bN_squareBetween 11 = .ok (.iaload, 1) := by decide +kernel
theorem dN_squareBetween_12 : decode bN_squareBetween 12 = .ok (.isub, 1) := by decide +kernel
theorem dN_squareBetween_13 : decode bN_squareBetween 13 = .ok (.i2l, 1) := by decide +kernel
theorem dN_squareBetween_14 : decode bN_squareBetween 14 = .ok (.lstore_n 3, 1) := by decide +kernel
theorem dN_squareBetween_15 : decode bN_squareBetween 15 = .ok (.aload_n 0, 1) := by decide +kernel
theorem dN_squareBetween_16 : decode bN_squareBetween 16 = .ok (.getfield 39, 3) := by decide +kernel
theorem dN_squareBetween_19 : decode bN_squareBetween 19 = .ok (.iload_n 1, 1) := by decide +kernel
theorem dN_squareBetween_20 : decode bN_squareBetween 20 = .ok (.iaload, 1) := by decide +kernel
theorem dN_squareBetween_21 : decode bN_squareBetween 21 = .ok (.aload_n 0, 1) := by decide +kernel
theorem dN_squareBetween_22 : decode bN_squareBetween 22 = .ok (.getfield 39, 3) := by decide +kernel
theorem dN_squareBetween_25 : decode bN_squareBetween 25 = .ok (.iload_n 2, 1) := by decide +kernel
theorem dN_squareBetween_26 : decode bN_squareBetween 26 = .ok (.iaload, 1) := by decide +kernel
theorem dN_squareBetween_27 : decode bN_squareBetween 27 = .ok (.isub, 1) := by decide +kernel
theorem dN_squareBetween_28 : decode bN_squareBetween 28 = .ok (.i2l, 1) := by decide +kernel
theorem dN_squareBetween_29 : decode bN_squareBetween 29 = .ok (.lstore 5, 2) := by decide +kernel
theorem dN_squareBetween_31 : decode bN_squareBetween 31 = .ok (.lload_n 3, 1) := by decide +kernel
theorem dN_squareBetween_32 : decode bN_squareBetween 32 = .ok (.lload_n 3, 1) := by decide +kernel
theorem dN_squareBetween_33 : decode bN_squareBetween 33 = .ok (.lmul, 1) := by decide +kernel
theorem dN_squareBetween_34 : decode bN_squareBetween 34 = .ok (.lload 5, 2) := by decide +kernel
theorem dN_squareBetween_36 : decode bN_squareBetween 36 = .ok (.lload 5, 2) := by decide +kernel
theorem dN_squareBetween_38 : decode bN_squareBetween 38 = .ok (.lmul, 1) := by decide +kernel
theorem dN_squareBetween_39 : decode bN_squareBetween 39 = .ok (.ladd, 1) := by decide +kernel
theorem dN_squareBetween_40 : decode bN_squareBetween 40 = .ok (.lreturn, 1) := by decide +kernel
theorem dN_wordOf_0 : decode bN_wordOf 0 = .ok (.iload_n 0, 1) := by decide +kernel
theorem dN_wordOf_1 : decode bN_wordOf 1 = .ok (.tableswitch 57 0 5 #[39, 42, 45, 48, 51, 54], 39) := by decide +kernel
theorem dN_wordOf_40 : decode bN_wordOf 40 = .ok (.ldc 209, 2) := by decide +kernel
theorem dN_wordOf_42 : decode bN_wordOf 42 = .ok (.areturn, 1) := by decide +kernel
theorem dN_wordOf_43 : decode bN_wordOf 43 = .ok (.ldc 210, 2) := by decide +kernel
theorem dN_wordOf_45 : decode bN_wordOf 45 = .ok (.areturn, 1) := by decide +kernel
theorem dN_wordOf_46 : decode bN_wordOf 46 = .ok (.ldc 212, 2) := by decide +kernel
theorem dN_wordOf_48 : decode bN_wordOf 48 = .ok (.areturn, 1) := by decide +kernel
theorem dN_wordOf_49 : decode bN_wordOf 49 = .ok (.ldc 214, 2) := by decide +kernel
theorem dN_wordOf_51 : decode bN_wordOf 51 = .ok (.areturn, 1) := by decide +kernel
theorem dN_wordOf_52 : decode bN_wordOf 52 = .ok (.ldc 216, 2) := by decide +kernel
theorem dN_wordOf_54 : decode bN_wordOf 54 = .ok (.areturn, 1) := by decide +kernel
theorem dN_wordOf_55 : decode bN_wordOf 55 = .ok (.ldc 218, 2) := by decide +kernel
theorem dN_wordOf_57 : decode bN_wordOf 57 = .ok (.areturn, 1) := by decide +kernel
theorem dN_wordOf_58 : decode bN_wordOf 58 = .ok (.ldc 220, 2) := by decide +kernel
theorem dN_wordOf_60 : decode bN_wordOf 60 = .ok (.areturn, 1) := by decide +kernel
end
section
theorem dR_init_0 : decode bR_init 0 = .ok (.aload_n 0, 1) := by decide +kernel
theorem dR_init_1 : decode bR_init 1 = .ok (.invokespecial 1, 3) := by decide +kernel
theorem dR_init_4 : decode bR_init 4 = .ok (.aload_n 0, 1) := by decide +kernel
theorem dR_init_5 : decode bR_init 5 = .ok (.sipush 200, 3) := by decide +kernel
theorem dR_init_8 : decode bR_init 8 = .ok (.newarray .int, 2) := by decide +kernel
theorem dR_init_10 : decode bR_init 10 = .ok (.putfield 7, 3) := by decide +kernel
theorem dR_init_13 : decode bR_init 13 = .ok (.aload_n 0, 1) := by decide +kernel
theorem dR_init_14 : decode bR_init 14 = .ok (.bipush 48, 2) := by decide +kernel
theorem dR_init_16 : decode bR_init 16 = .ok (.newarray .int, 2) := by decide +kernel
theorem dR_init_18 : decode bR_init 18 = .ok (.putfield 13, 3) := by decide +kernel
theorem dR_init_21 : decode bR_init 21 = .ok (.aload_n 0, 1) := by decide +kernel
theorem dR_init_22 : decode bR_init 22 = .ok (.bipush 28, 2) := by decide +kernel
theorem dR_init_24 : decode bR_init 24 = .ok (.newarray .int, 2) := by decide +kernel
theorem dR_init_26 : decode bR_init 26 = .ok (.dup, 1) := by decide +kernel
theorem dR_init_27 : decode bR_init 27 = .ok (.iconst 0, 1) := by decide +kernel
theorem dR_init_28 : decode bR_init 28 = .ok (.iconst 1, 1) := by decide +kernel
theorem dR_init_29 : decode bR_init 29 = .ok (.iastore, 1) := by decide +kernel
theorem dR_init_30 : decode bR_init 30 = .ok (.dup, 1) := by decide +kernel
theorem dR_init_31 : decode bR_init 31 = .ok (.iconst 1, 1) := by decide +kernel
theorem dR_init_32 : decode bR_init 32 = .ok (.iconst 1, 1) := by decide +kernel
theorem dR_init_33 : decode bR_init 33 = .ok (.iastore, 1) := by decide +kernel
theorem dR_init_34 : decode bR_init 34 = .ok (.dup, 1) := by decide +kernel
theorem dR_init_35 : decode bR_init 35 = .ok (.iconst 2, 1) := by decide +kernel
theorem dR_init_36 : decode bR_init 36 = .ok (.iconst 1, 1) := by decide +kernel
theorem dR_init_37 : decode bR_init 37 = .ok (.iastore, 1) := by decide +kernel
theorem dR_init_38 : decode bR_init 38 = .ok (.dup, 1) := by decide +kernel
theorem dR_init_39 : decode bR_init 39 = .ok (.iconst 3, 1) := by decide +kernel
theorem dR_init_40 : decode bR_init 40 = .ok (.iconst 1, 1) := by decide +kernel
theorem dR_init_41 : decode bR_init 41 = .ok (.iastore, 1) := by decide +kernel
theorem dR_init_42 : decode bR_init 42 = .ok (.dup, 1) := by decide +kernel
theorem dR_init_43 : decode bR_init 43 = .ok (.iconst 4, 1) := by decide +kernel
theorem dR_init_44 : decode bR_init 44 = .ok (.iconst 1, 1) := by decide +kernel
theorem dR_init_45 : decode bR_init 45 = .ok (.iastore, 1) := by decide +kernel
theorem dR_init_46 : decode bR_init 46 = .ok (.dup, 1) := by decide +kernel
theorem dR_init_47 : decode bR_init 47 = .ok (.iconst 5, 1) := by decide +kernel
theorem dR_init_48 : decode bR_init 48 = .ok (.iconst 1, 1) := by decide +kernel
theorem dR_init_49 : decode bR_init 49 = .ok (.iastore, 1) := by decide +kernel
theorem dR_init_50 : decode bR_init 50 = .ok (.dup, 1) := by decide +kernel
theorem dR_init_51 : decode bR_init 51 = .ok (.bipush 6, 2) := by decide +kernel
theorem dR_init_53 : decode bR_init 53 = .ok (.iconst 1, 1) := by decide +kernel
theorem dR_init_54 : decode bR_init 54 = .ok (.iastore, 1) := by decide +kernel
theorem dR_init_55 : decode bR_init 55 = .ok (.dup, 1) := by decide +kernel
theorem dR_init_56 : decode bR_init 56 = .ok (.bipush 7, 2) := by decide +kernel
theorem dR_init_58 : decode bR_init 58 = .ok (.iconst 1, 1) := by decide +kernel
theorem dR_init_59 : decode bR_init 59 = .ok (.iastore, 1) := by decide +kernel
theorem dR_init_60 : decode bR_init 60 = .ok (.dup, 1) := by decide +kernel
theorem dR_init_61 : decode bR_init 61 = .ok (.bipush 8, 2) := by decide +kernel
theorem dR_init_63 : decode bR_init 63 = .ok (.iconst 1, 1) := by decide +kernel
theorem dR_init_64 : decode bR_init 64 = .ok (.iastore, 1) := by decide +kernel
theorem dR_init_65 : decode bR_init 65 = .ok (.dup, 1) := by decide +kernel
theorem dR_init_66 : decode bR_init 66 = .ok (.bipush 9, 2) := by decide +kernel
theorem dR_init_68 : decode bR_init 68 = .ok (.iconst 1, 1) := by decide +kernel
theorem dR_init_69 : decode bR_init 69 = .ok (.iastore, 1) := by decide +kernel
theorem dR_init_70 : decode bR_init 70 = .ok (.dup, 1) := by decide +kernel
theorem dR_init_71 : decode bR_init 71 = .ok (.bipush 10, 2) := by decide +kernel
theorem dR_init_73 : decode bR_init 73 = .ok (.iconst 1, 1) := by decide +kernel
theorem dR_init_74 : decode bR_init 74 = .ok (.iastore, 1) := by decide +kernel
theorem dR_init_75 : decode bR_init 75 = .ok (.dup, 1) := by decide +kernel
theorem dR_init_76 : decode bR_init 76 = .ok (.bipush 11, 2) := by decide +kernel
theorem dR_init_78 : decode bR_init 78 = .ok (.iconst 1, 1) := by decide +kernel
theorem dR_init_79 : decode bR_init 79 = .ok (.iastore, 1) := by decide +kernel
theorem dR_init_80 : decode bR_init 80 = .ok (.dup, 1) := by decide +kernel
theorem dR_init_81 : decode bR_init 81 = .ok (.bipush 12, 2) := by decide +kernel
theorem dR_init_83 : decode bR_init 83 = .ok (.iconst 1, 1) := by decide +kernel
theorem dR_init_84 : decode bR_init 84 = .ok (.iastore, 1) := by decide +kernel
theorem dR_init_85 : decode bR_init 85 = .ok (.dup, 1) := by decide +kernel
theorem dR_init_86 : decode bR_init 86 = .ok (.bipush 13, 2) := by decide +kernel
theorem dR_init_88 : decode bR_init 88 = .ok (.iconst 1, 1) := by decide +kernel
theorem dR_init_89 : decode bR_init 89 = .ok (.iastore, 1) := by decide +kernel
theorem dR_init_90 : decode bR_init 90 = .ok (.dup, 1) := by decide +kernel
theorem dR_init_91 : decode bR_init 91 = .ok (.bipush 14, 2) := by decide +kernel
theorem dR_init_93 : decode bR_init 93 = .ok (.iconst 1, 1) := by decide +kernel
theorem dR_init_94 : decode bR_init 94 = .ok (.iastore, 1) := by decide +kernel
theorem dR_init_95 : decode bR_init 95 = .ok (.dup, 1) := by decide +kernel
theorem dR_init_96 : decode bR_init 96 = .ok (.bipush 15, 2) := by decide +kernel
theorem dR_init_98 : decode bR_init 98 = .ok (.iconst 1, 1) := by decide +kernel
theorem dR_init_99 : decode bR_init 99 = .ok (.iastore, 1) := by decide +kernel
theorem dR_init_100 : decode bR_init 100 = .ok (.dup, 1) := by decide +kernel
theorem dR_init_101 : decode bR_init 101 = .ok (.bipush 16, 2) := by decide +kernel
theorem dR_init_103 : decode bR_init 103 = .ok (.iconst 1, 1) := by decide +kernel
theorem dR_init_104 : decode bR_init 104 = .ok (.iastore, 1) := by decide +kernel
theorem dR_init_105 : decode bR_init 105 = .ok (.dup, 1) := by decide +kernel
theorem dR_init_106 : decode bR_init 106 = .ok (.bipush 17, 2) := by decide +kernel
theorem dR_init_108 : decode bR_init 108 = .ok (.iconst 1, 1) := by decide +kernel
theorem dR_init_109 : decode bR_init 109 = .ok (.iastore, 1) := by decide +kernel
theorem dR_init_110 : decode bR_init 110 = .ok (.dup, 1) := by decide +kernel
theorem dR_init_111 : decode bR_init 111 = .ok (.bipush 18, 2) := by decide +kernel
theorem dR_init_113 : decode bR_init 113 = .ok (.iconst 1, 1) := by decide +kernel
theorem dR_init_114 : decode bR_init 114 = .ok (.iastore, 1) := by decide +kernel
theorem dR_init_115 : decode bR_init 115 = .ok (.dup, 1) := by decide +kernel
theorem dR_init_116 : decode bR_init 116 = .ok (.bipush 19, 2) := by decide +kernel
theorem dR_init_118 : decode bR_init 118 = .ok (.iconst 1, 1) := by decide +kernel
theorem dR_init_119 : decode bR_init 119 = .ok (.iastore, 1) := by decide +kernel
theorem dR_init_120 : decode bR_init 120 = .ok (.dup, 1) := by decide +kernel
theorem dR_init_121 : decode bR_init 121 = .ok (.bipush 20, 2) := by decide +kernel
theorem dR_init_123 : decode bR_init 123 = .ok (.iconst 1, 1) := by decide +kernel
theorem dR_init_124 : decode bR_init 124 = .ok (.iastore, 1) := by decide +kernel
theorem dR_init_125 : decode bR_init 125 = .ok (.dup, 1) := by decide +kernel
theorem dR_init_126 : decode bR_init 126 = .ok (.bipush 21, 2) := by decide +kernel
theorem dR_init_128 : decode bR_init 128 = .ok (.iconst 1, 1) := by decide +kernel
theorem dR_init_129 : decode bR_init 129 = .ok (.iastore, 1) := by decide +kernel
theorem dR_init_130 : decode bR_init 130 = .ok (.dup, 1) := by decide +kernel
theorem dR_init_131 : decode bR_init 131 = .ok (.bipush 22, 2) := by decide +kernel
theorem dR_init_133 : decode bR_init 133 = .ok (.iconst 1, 1) := by decide +kernel
theorem dR_init_134 : decode bR_init 134 = .ok (.iastore, 1) := by decide +kernel
theorem dR_init_135 : decode bR_init 135 = .ok (.dup, 1) := by decide +kernel
theorem dR_init_136 : decode bR_init 136 = .ok (.bipush 23, 2) := by decide +kernel
theorem dR_init_138 : decode bR_init 138 = .ok (.iconst 1, 1) := by decide +kernel
theorem dR_init_139 : decode bR_init 139 = .ok (.iastore, 1) := by decide +kernel
theorem dR_init_140 : decode bR_init 140 = .ok (.dup, 1) := by decide +kernel
theorem dR_init_141 : decode bR_init 141 = .ok (.bipush 24, 2) := by decide +kernel
theorem dR_init_143 : decode bR_init 143 = .ok (.iconst 1, 1) := by decide +kernel
theorem dR_init_144 : decode bR_init 144 = .ok (.iastore, 1) := by decide +kernel
theorem dR_init_145 : decode bR_init 145 = .ok (.dup, 1) := by decide +kernel
theorem dR_init_146 : decode bR_init 146 = .ok (.bipush 25, 2) := by decide +kernel
theorem dR_init_148 : decode bR_init 148 = .ok (.iconst 1, 1) := by decide +kernel
theorem dR_init_149 : decode bR_init 149 = .ok (.iastore, 1) := by decide +kernel
theorem dR_init_150 : decode bR_init 150 = .ok (.dup, 1) := by decide +kernel
theorem dR_init_151 : decode bR_init 151 = .ok (.bipush 26, 2) := by decide +kernel
theorem dR_init_153 : decode bR_init 153 = .ok (.iconst 1, 1) := by decide +kernel
theorem dR_init_154 : decode bR_init 154 = .ok (.iastore, 1) := by decide +kernel
theorem dR_init_155 : decode bR_init 155 = .ok (.dup, 1) := by decide +kernel
theorem dR_init_156 : decode bR_init 156 = .ok (.bipush 27, 2) := by decide +kernel
theorem dR_init_158 : decode bR_init 158 = .ok (.iconst 1, 1) := by decide +kernel
theorem dR_init_159 : decode bR_init 159 = .ok (.iastore, 1) := by decide +kernel
theorem dR_init_160 : decode bR_init 160 = .ok (.putfield 16, 3) := by decide +kernel
theorem dR_init_163 : decode bR_init 163 = .ok (.aload_n 0, 1) := by decide +kernel
theorem dR_init_164 : decode bR_init 164 = .ok (.bipush 35, 2) := by decide +kernel
theorem dR_init_166 : decode bR_init 166 = .ok (.newarray .int, 2) := by decide +kernel
theorem dR_init_168 : decode bR_init 168 = .ok (.dup, 1) := by decide +kernel
theorem dR_init_169 : decode bR_init 169 = .ok (.iconst 0, 1) := by decide +kernel
theorem dR_init_170 : decode bR_init 170 = .ok (.bipush 115, 2) := by decide +kernel
theorem dR_init_172 : decode bR_init 172 = .ok (.iastore, 1) := by decide +kernel
theorem dR_init_173 : decode bR_init 173 = .ok (.dup, 1) := by decide +kernel
theorem dR_init_174 : decode bR_init 174 = .ok (.iconst 1, 1) := by decide +kernel
theorem dR_init_175 : decode bR_init 175 = .ok (.bipush 105, 2) := by decide +kernel
theorem dR_init_177 : decode bR_init 177 = .ok (.iastore, 1) := by decide +kernel
theorem dR_init_178 : decode bR_init 178 = .ok (.dup, 1) := by decide +kernel
theorem dR_init_179 : decode bR_init 179 = .ok (.iconst 2, 1) := by decide +kernel
theorem dR_init_180 : decode bR_init 180 = .ok (.bipush 122, 2) := by decide +kernel
theorem dR_init_182 : decode bR_init 182 = .ok (.iastore, 1) := by decide +kernel
theorem dR_init_183 : decode bR_init 183 = .ok (.dup, 1) := by decide +kernel
theorem dR_init_184 : decode bR_init 184 = .ok (.iconst 3, 1) := by decide +kernel
theorem dR_init_185 : decode bR_init 185 = .ok (.bipush 101, 2) := by decide +kernel
theorem dR_init_187 : decode bR_init 187 = .ok (.iastore, 1) := by decide +kernel
theorem dR_init_188 : decode bR_init 188 = .ok (.dup, 1) := by decide +kernel
theorem dR_init_189 : decode bR_init 189 = .ok (.iconst 4, 1) := by decide +kernel
theorem dR_init_190 : decode bR_init 190 = .ok (.iconst 0, 1) := by decide +kernel
theorem dR_init_191 : decode bR_init 191 = .ok (.iastore, 1) := by decide +kernel
theorem dR_init_192 : decode bR_init 192 = .ok (.dup, 1) := by decide +kernel
theorem dR_init_193 : decode bR_init 193 = .ok (.iconst 5, 1) := by decide +kernel
theorem dR_init_194 : decode bR_init 194 = .ok (.bipush 102, 2) := by decide +kernel
theorem dR_init_196 : decode bR_init 196 = .ok (.iastore, 1) := by decide +kernel
theorem dR_init_197 : decode bR_init 197 = .ok (.dup, 1) := by decide +kernel
theorem dR_init_198 : decode bR_init 198 = .ok (.bipush 6, 2) := by decide +kernel
theorem dR_init_200 : decode bR_init 200 = .ok (.bipush 111, 2) := by decide +kernel
theorem dR_init_202 : decode bR_init 202 = .ok (.iastore, 1) := by decide +kernel
theorem dR_init_203 : decode bR_init 203 = .ok (.dup, 1) := by decide +kernel
theorem dR_init_204 : decode bR_init 204 = .ok (.bipush 7, 2) := by decide +kernel
theorem dR_init_206 : decode bR_init 206 = .ok (.bipush 114, 2) := by decide +kernel
theorem dR_init_208 : decode bR_init 208 = .ok (.iastore, 1) := by decide +kernel
theorem dR_init_209 : decode bR_init 209 = .ok (.dup, 1) := by decide +kernel
theorem dR_init_210 : decode bR_init 210 = .ok (.bipush 8, 2) := by decide +kernel
theorem dR_init_212 : decode bR_init 212 = .ok (.bipush 99, 2) := by decide +kernel
theorem dR_init_214 : decode bR_init 214 = .ok (.iastore, 1) := by decide +kernel
theorem dR_init_215 : decode bR_init 215 = .ok (.dup, 1) := by decide +kernel
theorem dR_init_216 : decode bR_init 216 = .ok (.bipush 9, 2) := by decide +kernel
theorem dR_init_218 : decode bR_init 218 = .ok (.bipush 101, 2) := by decide +kernel
theorem dR_init_220 : decode bR_init 220 = .ok (.iastore, 1) := by decide +kernel
theorem dR_init_221 : decode bR_init 221 = .ok (.dup, 1) := by decide +kernel
theorem dR_init_222 : decode bR_init 222 = .ok (.bipush 10, 2) := by decide +kernel
theorem dR_init_224 : decode bR_init 224 = .ok (.bipush 101, 2) := by decide +kernel
theorem dR_init_226 : decode bR_init 226 = .ok (.iastore, 1) := by decide +kernel
theorem dR_init_227 : decode bR_init 227 = .ok (.dup, 1) := by decide +kernel
theorem dR_init_228 : decode bR_init 228 = .ok (.bipush 11, 2) := by decide +kernel
theorem dR_init_230 : decode bR_init 230 = .ok (.bipush 100, 2) := by decide +kernel
theorem dR_init_232 : decode bR_init 232 = .ok (.iastore, 1) := by decide +kernel
theorem dR_init_233 : decode bR_init 233 = .ok (.dup, 1) := by decide +kernel
theorem dR_init_234 : decode bR_init 234 = .ok (.bipush 12, 2) := by decide +kernel
theorem dR_init_236 : decode bR_init 236 = .ok (.bipush 103, 2) := by decide +kernel
theorem dR_init_238 : decode bR_init 238 = .ok (.iastore, 1) := by decide +kernel
theorem dR_init_239 : decode bR_init 239 = .ok (.dup, 1) := by decide +kernel
theorem dR_init_240 : decode bR_init 240 = .ok (.bipush 13, 2) := by decide +kernel
theorem dR_init_242 : decode bR_init 242 = .ok (.bipush 101, 2) := by decide +kernel
theorem dR_init_244 : decode bR_init 244 = .ok (.iastore, 1) := by decide +kernel
theorem dR_init_245 : decode bR_init 245 = .ok (.dup, 1) := by decide +kernel
theorem dR_init_246 : decode bR_init 246 = .ok (.bipush 14, 2) := by decide +kernel
theorem dR_init_248 : decode bR_init 248 = .ok (.iconst 0, 1) := by decide +kernel
theorem dR_init_249 : decode bR_init 249 = .ok (.iastore, 1) := by decide +kernel
theorem dR_init_250 : decode bR_init 250 = .ok (.dup, 1) := by decide +kernel
theorem dR_init_251 : decode bR_init 251 = .ok (.bipush 15, 2) := by decide +kernel
theorem dR_init_253 : decode bR_init 253 = .ok (.bipush 101, 2) := by decide +kernel
theorem dR_init_255 : decode bR_init 255 = .ok (.iastore, 1) := by decide +kernel
theorem dR_init_256 : decode bR_init 256 = .ok (.dup, 1) := by decide +kernel
theorem dR_init_257 : decode bR_init 257 = .ok (.bipush 16, 2) := by decide +kernel
theorem dR_init_259 : decode bR_init 259 = .ok (.bipush 110, 2) := by decide +kernel
theorem dR_init_261 : decode bR_init 261 = .ok (.iastore, 1) := by decide +kernel
theorem dR_init_262 : decode bR_init 262 = .ok (.dup, 1) := by decide +kernel
theorem dR_init_263 : decode bR_init 263 = .ok (.bipush 17, 2) := by decide +kernel
theorem dR_init_265 : decode bR_init 265 = .ok (.bipush 100, 2) := by decide +kernel
theorem dR_init_267 : decode bR_init 267 = .ok (.iastore, 1) := by decide +kernel
theorem dR_init_268 : decode bR_init 268 = .ok (.dup, 1) := by decide +kernel
theorem dR_init_269 : decode bR_init 269 = .ok (.bipush 18, 2) := by decide +kernel
theorem dR_init_271 : decode bR_init 271 = .ok (.iconst 0, 1) := by decide +kernel
theorem dR_init_272 : decode bR_init 272 = .ok (.iastore, 1) := by decide +kernel
theorem dR_init_273 : decode bR_init 273 = .ok (.dup, 1) := by decide +kernel
theorem dR_init_274 : decode bR_init 274 = .ok (.bipush 19, 2) := by decide +kernel
theorem dR_init_276 : decode bR_init 276 = .ok (.iconst 0, 1) := by decide +kernel
theorem dR_init_277 : decode bR_init 277 = .ok (.iastore, 1) := by decide +kernel
theorem dR_init_278 : decode bR_init 278 = .ok (.dup, 1) := by decide +kernel
theorem dR_init_279 : decode bR_init 279 = .ok (.bipush 20, 2) := by decide +kernel
theorem dR_init_281 : decode bR_init 281 = .ok (.bipush 115, 2) := by decide +kernel
theorem dR_init_283 : decode bR_init 283 = .ok (.iastore, 1) := by decide +kernel
theorem dR_init_284 : decode bR_init 284 = .ok (.dup, 1) := by decide +kernel
theorem dR_init_285 : decode bR_init 285 = .ok (.bipush 21, 2) := by decide +kernel
theorem dR_init_287 : decode bR_init 287 = .ok (.bipush 105, 2) := by decide +kernel
theorem dR_init_289 : decode bR_init 289 = .ok (.iastore, 1) := by decide +kernel
theorem dR_init_290 : decode bR_init 290 = .ok (.dup, 1) := by decide +kernel
theorem dR_init_291 : decode bR_init 291 = .ok (.bipush 22, 2) := by decide +kernel
theorem dR_init_293 : decode bR_init 293 = .ok (.bipush 100, 2) := by decide +kernel
theorem dR_init_295 : decode bR_init 295 = .ok (.iastore, 1) := by decide +kernel
theorem dR_init_296 : decode bR_init 296 = .ok (.dup, 1) := by decide +kernel
theorem dR_init_297 : decode bR_init 297 = .ok (.bipush 23, 2) := by decide +kernel
theorem dR_init_299 : decode bR_init 299 = .ok (.bipush 101, 2) := by decide +kernel
theorem dR_init_301 : decode bR_init 301 = .ok (.iastore, 1) := by decide +kernel
theorem dR_init_302 : decode bR_init 302 = .ok (.dup, 1) := by decide +kernel
theorem dR_init_303 : decode bR_init 303 = .ok (.bipush 24, 2) := by decide +kernel
theorem dR_init_305 : decode bR_init 305 = .ok (.iconst 0, 1) := by decide +kernel
theorem dR_init_306 : decode bR_init 306 = .ok (.iastore, 1) := by decide +kernel
theorem dR_init_307 : decode bR_init 307 = .ok (.dup, 1) := by decide +kernel
theorem dR_init_308 : decode bR_init 308 = .ok (.bipush 25, 2) := by decide +kernel
theorem dR_init_310 : decode bR_init 310 = .ok (.bipush 114, 2) := by decide +kernel
theorem dR_init_312 : decode bR_init 312 = .ok (.iastore, 1) := by decide +kernel
theorem dR_init_313 : decode bR_init 313 = .ok (.dup, 1) := by decide +kernel
theorem dR_init_314 : decode bR_init 314 = .ok (.bipush 26, 2) := by decide +kernel
theorem dR_init_316 : decode bR_init 316 = .ok (.bipush 111, 2) := by decide +kernel
theorem dR_init_318 : decode bR_init 318 = .ok (.iastore, 1) := by decide +kernel
theorem dR_init_319 : decode bR_init 319 = .ok (.dup, 1) := by decide +kernel
theorem dR_init_320 : decode bR_init 320 = .ok (.bipush 27, 2) := by decide +kernel
theorem dR_init_322 : decode bR_init 322 = .ok (.bipush 119, 2) := by decide +kernel
theorem dR_init_324 : decode bR_init 324 = .ok (.iastore, 1) := by decide +kernel
theorem dR_init_325 : decode bR_init 325 = .ok (.dup, 1) := by decide +kernel
theorem dR_init_326 : decode bR_init 326 = .ok (.bipush 28, 2) := by decide +kernel
theorem dR_init_328 : decode bR_init 328 = .ok (.iconst 0, 1) := by decide +kernel
theorem dR_init_329 : decode bR_init 329 = .ok (.iastore, 1) := by decide +kernel
theorem dR_init_330 : decode bR_init 330 = .ok (.dup, 1) := by decide +kernel
theorem dR_init_331 : decode bR_init 331 = .ok (.bipush 29, 2) := by decide +kernel
theorem dR_init_333 : decode bR_init 333 = .ok (.iconst 0, 1) := by decide +kernel
theorem dR_init_334 : decode bR_init 334 = .ok (.iastore, 1) := by decide +kernel
theorem dR_init_335 : decode bR_init 335 = .ok (.dup, 1) := by decide +kernel
theorem dR_init_336 : decode bR_init 336 = .ok (.bipush 30, 2) := by decide +kernel
theorem dR_init_338 : decode bR_init 338 = .ok (.bipush 116, 2) := by decide +kernel
theorem dR_init_340 : decode bR_init 340 = .ok (.iastore, 1) := by decide +kernel
theorem dR_init_341 : decode bR_init 341 = .ok (.dup, 1) := by decide +kernel
theorem dR_init_342 : decode bR_init 342 = .ok (.bipush 31, 2) := by decide +kernel
theorem dR_init_344 : decode bR_init 344 = .ok (.bipush 104, 2) := by decide +kernel
theorem dR_init_346 : decode bR_init 346 = .ok (.iastore, 1) := by decide +kernel
theorem dR_init_347 : decode bR_init 347 = .ok (.dup, 1) := by decide +kernel
theorem dR_init_348 : decode bR_init 348 = .ok (.bipush 32, 2) := by decide +kernel
theorem dR_init_350 : decode bR_init 350 = .ok (.bipush 105, 2) := by decide +kernel
theorem dR_init_352 : decode bR_init 352 = .ok (.iastore, 1) := by decide +kernel
theorem dR_init_353 : decode bR_init 353 = .ok (.dup, 1) := by decide +kernel
theorem dR_init_354 : decode bR_init 354 = .ok (.bipush 33, 2) := by decide +kernel
theorem dR_init_356 : decode bR_init 356 = .ok (.bipush 110, 2) := by decide +kernel
theorem dR_init_358 : decode bR_init 358 = .ok (.iastore, 1) := by decide +kernel
theorem dR_init_359 : decode bR_init 359 = .ok (.dup, 1) := by decide +kernel
theorem dR_init_360 : decode bR_init 360 = .ok (.bipush 34, 2) := by decide +kernel
theorem dR_init_362 : decode bR_init 362 = .ok (.iconst 0, 1) := by decide +kernel
theorem dR_init_363 : decode bR_init 363 = .ok (.iastore, 1) := by decide +kernel
theorem dR_init_364 : decode bR_init 364 = .ok (.putfield 19, 3) := by decide +kernel
theorem dR_init_367 : decode bR_init 367 = .ok (.aload_n 0, 1) := by decide +kernel
theorem dR_init_368 : decode bR_init 368 = .ok (.ldc2_w 22, 3) := by decide +kernel
theorem dR_init_371 : decode bR_init 371 = .ok (.putfield 24, 3) := by decide +kernel
theorem dR_init_374 : decode bR_init 374 = .ok (.aload_n 0, 1) := by decide +kernel
theorem dR_init_375 : decode bR_init 375 = .ok (.ldc2_w 28, 3) := by decide +kernel
theorem dR_init_378 : decode bR_init 378 = .ok (.putfield 30, 3) := by decide +kernel
theorem dR_init_381 : decode bR_init 381 = .ok (.aload_n 0, 1) := by decide +kernel
theorem dR_init_382 : decode bR_init 382 = .ok (.iconst (-1), 1) := by decide +kernel
theorem dR_init_383 : decode bR_init 383 = .ok (.putfield 33, 3) := by decide +kernel
theorem dR_init_386 : decode bR_init 386 = .ok (.aload_n 0, 1) := by decide +kernel
theorem dR_init_387 : decode bR_init 387 = .ok (.iconst 4, 1) := by decide +kernel
theorem dR_init_388 : decode bR_init 388 = .ok (.newarray .int, 2) := by decide +kernel
theorem dR_init_390 : decode bR_init 390 = .ok (.putfield 37, 3) := by decide +kernel
theorem dR_init_393 : decode bR_init 393 = .ok (.aload_n 0, 1) := by decide +kernel
theorem dR_init_394 : decode bR_init 394 = .ok (.bipush 32, 2) := by decide +kernel
theorem dR_init_396 : decode bR_init 396 = .ok (.newarray .int, 2) := by decide +kernel
theorem dR_init_398 : decode bR_init 398 = .ok (.putfield 40, 3) := by decide +kernel
theorem dR_init_401 : decode bR_init 401 = .ok (.aload_n 0, 1) := by decide +kernel
theorem dR_init_402 : decode bR_init 402 = .ok (.bipush 32, 2) := by decide +kernel
theorem dR_init_404 : decode bR_init 404 = .ok (.newarray .int, 2) := by decide +kernel
theorem dR_init_406 : decode bR_init 406 = .ok (.putfield 43, 3) := by decide +kernel
theorem dR_init_409 : decode bR_init 409 = .ok (.aload_n 0, 1) := by decide +kernel
theorem dR_init_410 : decode bR_init 410 = .ok (.bipush 24, 2) := by decide +kernel
theorem dR_init_412 : decode bR_init 412 = .ok (.newarray .int, 2) := by decide +kernel
theorem dR_init_414 : decode bR_init 414 = .ok (.putfield 46, 3) := by decide +kernel
theorem dR_init_417 : decode bR_init 417 = .ok (.aload_n 0, 1) := by decide +kernel
theorem dR_init_418 : decode bR_init 418 = .ok (.bipush 6, 2) := by decide +kernel
theorem dR_init_420 : decode bR_init 420 = .ok (.newarray .int, 2) := by decide +kernel
theorem dR_init_422 : decode bR_init 422 = .ok (.putfield 49, 3) := by decide +kernel
theorem dR_init_425 : decode bR_init 425 = .ok (.return_, 1) := by decide +kernel
theorem dR_isIn_0 : decode bR_isIn 0 = .ok (.lload_n 0, 1) := by decide +kernel
theorem dR_isIn_1 : decode bR_isIn 1 = .ok (.lload_n 2, 1) := by decide +kernel
theorem dR_isIn_2 : decode bR_isIn 2 = .ok (.lcmp, 1) := by decide +kernel
theorem dR_isIn_3 : decode bR_isIn 3 = .ok (.ifCond .lt 14, 3) := by decide +kernel
theorem dR_isIn_6 : decode bR_isIn 6 = .ok (.lload_n 0, 1) := by decide +kernel
theorem dR_isIn_7 : decode bR_isIn 7 = .ok (.lload 4, 2) := by decide +kernel
theorem dR_isIn_9 : decode bR_isIn 9 = .ok (.lcmp, 1) := by decide +kernel
theorem dR_isIn_10 : decode bR_isIn 10 = .ok (.ifCond .gt 7, 3) := by decide +kernel
theorem dR_isIn_13 : decode bR_isIn 13 = .ok (.iconst 1, 1) := by decide +kernel
theorem dR_isIn_14 : decode bR_isIn 14 = .ok (.goto 4, 3) := by decide +kernel
theorem dR_isIn_17 : decode bR_isIn 17 = .ok (.iconst 0, 1) := by decide +kernel
theorem dR_isIn_18 : decode bR_isIn 18 = .ok (.ireturn, 1) := by decide +kernel
theorem dR_isFour_0 : decode bR_isFour 0 = .ok (.iload_n 0, 1) := by decide +kernel
theorem dR_isFour_1 : decode bR_isFour 1 = .ok (.ifCond .lt 12, 3) := by decide +kernel
theorem dR_isFour_4 : decode bR_isFour 4 = .ok (.iload_n 0, 1) := by decide +kernel
theorem dR_isFour_5 : decode bR_isFour 5 = .ok (.iconst 4, 1) := by decide +kernel
theorem dR_isFour_6 : decode bR_isFour 6 = .ok (.if_icmp .ge 7, 3) := by decide +kernel
theorem dR_isFour_9 : decode bR_isFour 9 = .ok (.iconst 1, 1) := by decide +kernel
theorem dR_isFour_10 : decode bR_isFour 10 = .ok (.goto 4, 3) := by decide +kernel
theorem dR_isFour_13 : decode bR_isFour 13 = .ok (.iconst 0, 1) := by decide +kernel
theorem dR_isFour_14 : decode bR_isFour 14 = .ok (.ireturn, 1) := by decide +kernel
theorem dR_unit_0 : decode bR_unit 0 = .ok (.aload_n 0, 1) := by decide +kernel
theorem dR_unit_1 : decode bR_unit 1 = .ok (.iconst 0, 1) := by decide +kernel
theorem dR_unit_2 : decode bR_unit 2 = .ok (.putfield 52, 3) := by decide +kernel
theorem dR_unit_5 : decode bR_unit 5 = .ok (.iload_n 1, 1) := by decide +kernel
theorem dR_unit_6 : decode bR_unit 6 = .ok (.bipush 32, 2) := by decide +kernel
theorem dR_unit_8 : decode bR_unit 8 = .ok (.if_icmp .lt 23, 3) := by decide +kernel
theorem dR_unit_11 : decode bR_unit 11 = .ok (.iload_n 1, 1) := by decide +kernel
theorem dR_unit_12 : decode bR_unit 12 = .ok (.bipush 126, 2) := by decide +kernel
theorem dR_unit_14 : decode bR_unit 14 = .ok (.if_icmp .gt 17, 3) := by decide +kernel
theorem dR_unit_17 : decode bR_unit 17 = .ok (.aload_n 0, 1) := by decide +kernel
theorem dR_unit_18 : decode bR_unit 18 = .ok (.getfield 55, 3) := by decide +kernel
theorem dR_unit_21 : decode bR_unit 21 = .ok (.sipush 200, 3) := by decide +kernel
theorem dR_unit_24 : decode bR_unit 24 = .ok (.if_icmp .ge 7, 3) := by decide +kernel
theorem dR_unit_27 : decode bR_unit 27 = .ok (.iconst 1, 1) := by decide +kernel
theorem dR_unit_28 : decode bR_unit 28 = .ok (.goto 4, 3) := by decide +kernel
theorem dR_unit_31 : decode bR_unit 31 = .ok (.iconst 0, 1) := by decide +kernel
theorem dR_unit_32 : decode bR_unit 32 = .ok (.istore_n 2, 1) := by decide +kernel
theorem dR_unit_33 : decode bR_unit 33 = .ok (.iload_n 2, 1) := by decide +kernel
theorem dR_unit_34 : decode bR_unit 34 = .ok (.ifCond .eq 23, 3) := by decide +kernel
theorem dR_unit_37 : decode bR_unit 37 = .ok (.aload_n 0, 1) := by decide +kernel
theorem dR_unit_38 : decode bR_unit 38 = .ok (.getfield 7, 3) := by decide +kernel
theorem dR_unit_41 : decode bR_unit 41 = .ok (.aload_n 0, 1) := by decide +kernel
theorem dR_unit_42 : decode bR_unit 42 = .ok (.getfield 55, 3) := by decide +kernel
theorem dR_unit_45 : decode bR_unit 45 = .ok (.iload_n 1, 1) := by decide +kernel
theorem dR_unit_46 : decode bR_unit 46 = .ok (.iastore, 1) := by decide +kernel
theorem dR_unit_47 : decode bR_unit 47 = .ok (.aload_n 0, 1) := by decide +kernel
theorem dR_unit_48 : decode bR_unit 48 = .ok (.dup, 1) := by decide +kernel
theorem dR_unit_49 : decode bR_unit 49 = .ok (.getfield 55, 3) := by decide +kernel
theorem dR_unit_52 : decode bR_unit 52 = .ok (.iconst 1, 1) := by decide +kernel
theorem dR_unit_53 : decode bR_unit 53 = .ok (.iadd, 1) := by decide +kernel
theorem dR_unit_54 : decode bR_unit 54 = .ok (.putfield 55, 3) := by decide +kernel
theorem dR_unit_57 : decode bR_unit 57 = .ok (.iload_n 2, 1) := by decide +kernel
theorem dR_unit_58 : decode bR_unit 58 = .ok (.ireturn, 1) := by decide +kernel
theorem dR_now_0 : decode bR_now 0 = .ok (.aload_n 0, 1) := by decide +kernel
theorem dR_now_1 : decode bR_now 1 = .ok (.getfield 58, 3) := by decide +kernel
theorem dR_now_4 : decode bR_now 4 = .ok (.aload_n 0, 1) := by decide +kernel
theorem dR_now_5 : decode bR_now 5 = .ok (.getfield 55, 3) := by decide +kernel
theorem dR_now_8 : decode bR_now 8 = .ok (.if_icmp .ge 15, 3) := by decide +kernel
theorem dR_now_11 : decode bR_now 11 = .ok (.aload_n 0, 1) := by decide +kernel
theorem dR_now_12 : decode bR_now 12 = .ok (.getfield 7, 3) := by decide +kernel
theorem dR_now_15 : decode bR_now 15 = .ok (.aload_n 0, 1) := by decide +kernel
theorem dR_now_16 : decode bR_now 16 = .ok (.getfield 58, 3) := by decide +kernel
theorem dR_now_19 : decode bR_now 19 = .ok (.iaload, 1) := by decide +kernel
theorem dR_now_20 : decode bR_now 20 = .ok (.goto 4, 3) := by decide +kernel
theorem dR_now_23 : decode bR_now 23 = .ok (.iconst (-1), 1) := by decide +kernel
theorem dR_now_24 : decode bR_now 24 = .ok (.ireturn, 1) := by decide +kernel
theorem dR_must_0 : decode bR_must 0 = .ok (.aload_n 0, 1) := by decide +kernel
theorem dR_must_1 : decode bR_must 1 = .ok (.getfield 61, 3) := by decide +kernel
theorem dR_must_4 : decode bR_must 4 = .ok (.iconst (-1), 1) := by decide +kernel
theorem dR_must_5 : decode bR_must 5 = .ok (.if_icmp .ne 15, 3) := by decide +kernel
theorem dR_must_8 : decode bR_must 8 = .ok (.iload_n 1, 1) := by decide +kernel
theorem dR_must_9 : decode bR_must 9 = .ok (.ifCond .ne 11, 3) := by decide +kernel
theorem dR_must_12 : decode bR_must 12 = .ok (.aload_n 0, 1) := by decide +kernel
theorem dR_must_13 : decode bR_must 13 = .ok (.aload_n 0, 1) := by decide +kernel
theorem dR_must_14 : decode bR_must 14 = .ok (.getfield 58, 3) := by decide +kernel
theorem dR_must_17 : decode bR_must 17 = .ok (.putfield 61, 3) := by decide +kernel
theorem dR_must_20 : decode bR_must 20 = .ok (.aload_n 0, 1) := by decide +kernel
theorem dR_must_21 : decode bR_must 21 = .ok (.getfield 61, 3) := by decide +kernel
theorem dR_must_24 : decode bR_must 24 = .ok (.iconst (-1), 1) := by decide +kernel
theorem dR_must_25 : decode bR_must 25 = .ok (.if_icmp .ne 13, 3) := by decide +kernel
theorem dR_must_28 : decode bR_must 28 = .ok (.aload_n 0, 1) := by decide +kernel
theorem dR_must_29 : decode bR_must 29 = .ok (.dup, 1) := by decide +kernel
theorem dR_must_30 : decode bR_must 30 = .ok (.getfield 58, 3) := by decide +kernel
theorem dR_must_33 : decode bR_must 33 = .ok (.iconst 1, 1) := by decide +kernel
theorem dR_must_34 : decode bR_must 34 = .ok (.iadd, 1) := by decide +kernel
theorem dR_must_35 : decode bR_must 35 = .ok (.putfield 58, 3) := by decide +kernel
theorem dR_must_38 : decode bR_must 38 = .ok (.return_, 1) := by decide +kernel
theorem dR_kindOf_0 : decode bR_kindOf 0 = .ok (.iload_n 0, 1) := by decide +kernel
theorem dR_kindOf_1 : decode bR_kindOf 1 = .ok (.bipush 110, 2) := by decide +kernel
theorem dR_kindOf_3 : decode bR_kindOf 3 = .ok (.if_icmp .ne 7, 3) := by decide +kernel
theorem dR_kindOf_6 : decode bR_kindOf 6 = .ok (.iconst 0, 1) := by decide +kernel
theorem dR_kindOf_7 : decode bR_kindOf 7 = .ok (.goto 34, 3) := by decide +kernel
theorem dR_kindOf_10 : decode bR_kindOf 10 = .ok (.iload_n 0, 1) := by decide +kernel
theorem dR_kindOf_11 : decode bR_kindOf 11 = .ok (.bipush 115, 2) := by decide +kernel
theorem dR_kindOf_13 : decode bR_kindOf 13 = .ok (.if_icmp .ne 7, 3) := by decide +kernel
theorem dR_kindOf_16 : decode bR_kindOf 16 = .ok (.iconst 1, 1) := by decide +kernel
theorem dR_kindOf_17 : decode bR_kindOf 17 = .ok (.goto 24, 3) := by decide +kernel
theorem dR_kindOf_20 : decode bR_kindOf 20 = .ok (.iload_n 0, 1) := by decide +kernel
theorem dR_kindOf_21 : decode bR_kindOf 21 = .ok (.bipush 98, 2) := by decide +kernel
theorem dR_kindOf_23 : decode bR_kindOf 23 = .ok (.if_icmp .ne 7, 3) := by decide +kernel
theorem dR_kindOf_26 : decode bR_kindOf 26 = .ok (.iconst 2, 1) := by decide +kernel
theorem dR_kindOf_27 : decode bR_kindOf 27 = .ok (.goto 14, 3) := by decide +kernel
theorem dR_kindOf_30 : decode bR_kindOf 30 = .ok (.iload_n 0, 1) := by decide +kernel
theorem dR_kindOf_31 : decode bR_kindOf 31 = .ok (.bipush 100, 2) := by decide +kernel
theorem dR_kindOf_33 : decode bR_kindOf 33 = .ok (.if_icmp .ne 7, 3) := by decide +kernel
theorem dR_kindOf_36 : decode bR_kindOf 36 = .ok (.iconst 3, 1) := by decide +kernel
theorem dR_kindOf_37 : decode bR_kindOf 37 = .ok (.goto 4, 3) := by decide +kernel
theorem dR_kindOf_40 : decode bR_kindOf 40 = .ok (.iconst (-1), 1) := by decide +kernel
theorem dR_kindOf_41 : decode bR_kindOf 41 = .ok (.ireturn, 1) := by decide +kernel
theorem dR_may_0 : decode bR_may 0 = .ok (.iconst 1, 1) := by decide +kernel
theorem dR_may_1 : decode bR_may 1 = .ok (.istore 4, 2) := by decide +kernel
theorem dR_may_3 : decode bR_may 3 = .ok (.iconst 0, 1) := by decide +kernel
theorem dR_may_4 : decode bR_may 4 = .ok (.istore 5, 2) := by decide +kernel
theorem dR_may_6 : decode bR_may 6 = .ok (.iload 5, 2) := by decide +kernel
theorem dR_may_8 : decode bR_may 8 = .ok (.aload_n 0, 1) := by decide +kernel
theorem dR_may_9 : decode bR_may 9 = .ok (.getfield 58, 3) := by decide +kernel
theorem dR_may_12 : decode bR_may 12 = .ok (.iload_n 2, 1) := by decide +kernel
theorem dR_may_13 : decode bR_may 13 = .ok (.isub, 1) := by decide +kernel
theorem dR_may_14 : decode bR_may 14 = .ok (.if_icmp .ge 44, 3) := by decide +kernel
theorem dR_may_17 : decode bR_may 17 = .ok (.iload 4, 2) := by decide +kernel
theorem dR_may_19 : decode bR_may 19 = .ok (.ifCond .eq 30, 3) := by decide +kernel
theorem dR_may_22 : decode bR_may 22 = .ok (.aload_n 0, 1) := by decide +kernel
theorem dR_may_23 : decode bR_may 23 = .ok (.getfield 19, 3) := by decide +kernel
theorem dR_may_26 : decode bR_may 26 = .ok (.iconst 5, 1) := by decide +kernel
theorem dR_may_27 : decode bR_may 27 = .ok (.iload_n 1, 1) := by decide +kernel
theorem dR_may_28 : decode bR_may 28 = .ok (.imul, 1) := by decide +kernel
theorem dR_may_29 : decode bR_may 29 = .ok (.iload 5, 2) := by decide +kernel
theorem dR_may_31 : decode bR_may 31 = .ok (.iadd, 1) := by decide +kernel
theorem dR_may_32 : decode bR_may 32 = .ok (.iaload, 1) := by decide +kernel
theorem dR_may_33 : decode bR_may 33 = .ok (.aload_n 0, 1) := by decide +kernel
theorem dR_may_34 : decode bR_may 34 = .ok (.getfield 7, 3) := by decide +kernel
theorem dR_may_37 : decode bR_may 37 = .ok (.iload_n 2, 1) := by decide +kernel
theorem dR_may_38 : decode bR_may 38 = .ok (.iload 5, 2) := by decide +kernel
theorem dR_may_40 : decode bR_may 40 = .ok (.iadd, 1) := by decide +kernel
theorem dR_may_41 : decode bR_may 41 = .ok (.iaload, 1) := by decide +kernel
theorem dR_may_42 : decode bR_may 42 = .ok (.if_icmp .ne 7, 3) := by decide +kernel
theorem dR_may_45 : decode bR_may 45 = .ok (.iconst 1, 1) := by decide +kernel
theorem dR_may_46 : decode bR_may 46 = .ok (.goto 4, 3) := by decide +kernel
theorem dR_may_49 : decode bR_may 49 = .ok (.iconst 0, 1) := by decide +kernel
theorem dR_may_50 : decode bR_may 50 = .ok (.istore 4, 2) := by decide +kernel
theorem dR_may_52 : decode bR_may 52 = .ok (.iinc 5 1, 3) := by decide +kernel
theorem dR_may_55 : decode bR_may 55 = .ok (.goto (-49), 3) := by decide +kernel
theorem dR_may_58 : decode bR_may 58 = .ok (.iload 4, 2) := by decide +kernel
theorem dR_may_60 : decode bR_may 60 = .ok (.ifCond .eq 36, 3) := by decide +kernel
theorem dR_may_63 : decode bR_may 63 = .ok (.aload_n 0, 1) := by decide +kernel
theorem dR_may_64 : decode bR_may 64 = .ok (.getfield 58, 3) := by decide +kernel
theorem dR_may_67 : decode bR_may 67 = .ok (.iload_n 2, 1) := by decide +kernel
theorem dR_may_68 : decode bR_may 68 = .ok (.isub, 1) := by decide +kernel
theorem dR_may_69 : decode bR_may 69 = .ok (.iconst 5, 1) := by decide +kernel
theorem dR_may_70 : decode bR_may 70 = .ok (.if_icmp .ge 26, 3) := by decide +kernel
theorem dR_may_73 : decode bR_may 73 = .ok (.aload_n 0, 1) := by decide +kernel
theorem dR_may_74 : decode bR_may 74 = .ok (.getfield 19, 3) := by decide +kernel
theorem dR_may_77 : decode bR_may 77 = .ok (.iconst 5, 1) := by decide +kernel
theorem dR_may_78 : decode bR_may 78 = .ok (.iload_n 1, 1) := by decide +kernel
theorem dR_may_79 : decode bR_may 79 = .ok (.imul, 1) := by decide +kernel
theorem dR_may_80 : decode bR_may 80 = .ok (.aload_n 0, 1) := by decide +kernel
theorem dR_may_81 : decode bR_may 81 = .ok (.getfield 58, 3) := by decide +kernel
theorem dR_may_84 : decode bR_may 84 = .ok (.iadd, 1) := by decide +kernel
theorem dR_may_85 : decode bR_may 85 = .ok (.iload_n 2, 1) := by decide +kernel
theorem dR_may_86 : decode bR_may 86 = .ok (.isub, 1) := by decide +kernel
theorem dR_may_87 : decode bR_may 87 = .ok (.iaload, 1) := by decide +kernel
theorem dR_may_88 : decode bR_may 88 = .ok (.iload_n 3, 1) := by decide +kernel
theorem dR_may_89 : decode bR_may 89 = .ok (.if_icmp .ne 7, 3) := by decide +kernel
theorem dR_may_92 : decode bR_may 92 = .ok (.iconst 1, 1) := by decide +kernel
theorem dR_may_93 : decode bR_may 93 = .ok (.goto 4, 3) := by decide +kernel
theorem dR_may_96 : decode bR_may 96 = .ok (.iconst 0, 1) := by decide +kernel
theorem dR_may_97 : decode bR_may 97 = .ok (.ireturn, 1) := by decide +kernel
theorem dR_whole_0 : decode bR_whole 0 = .ok (.iconst (-1), 1) := by decide +kernel
theorem dR_whole_1 : decode bR_whole 1 = .ok (.istore_n 2, 1) := by decide +kernel
theorem dR_whole_2 : decode bR_whole 2 = .ok (.iconst 0, 1) := by decide +kernel
theorem dR_whole_3 : decode bR_whole 3 = .ok (.istore_n 3, 1) := by decide +kernel
theorem dR_whole_4 : decode bR_whole 4 = .ok (.iload_n 3, 1) := by decide +kernel
theorem dR_whole_5 : decode bR_whole 5 = .ok (.bipush 7, 2) := by decide +kernel
theorem dR_whole_7 : decode bR_whole 7 = .ok (.if_icmp .ge 110, 3) := by decide +kernel
theorem dR_whole_10 : decode bR_whole 10 = .ok (.aload_n 0, 1) := by decide +kernel
theorem dR_whole_11 : decode bR_whole 11 = .ok (.getfield 58, 3) := by decide +kernel
theorem dR_whole_14 : decode bR_whole 14 = .ok (.iload_n 1, 1) := by decide +kernel
theorem dR_whole_15 : decode bR_whole 15 = .ok (.isub, 1) := by decide +kernel
theorem dR_whole_16 : decode bR_whole 16 = .ok (.iconst 5, 1) := by decide +kernel
theorem dR_whole_17 : decode bR_whole 17 = .ok (.if_icmp .eq 21, 3) := by decide +kernel
theorem dR_whole_20 : decode bR_whole 20 = .ok (.aload_n 0, 1) := by decide +kernel
theorem dR_whole_21 : decode bR_whole 21 = .ok (.getfield 19, 3) := by decide +kernel
theorem dR_whole_24 : decode bR_whole 24 = .ok (.iconst 5, 1) := by decide +kernel
theorem dR_whole_25 : decode bR_whole 25 = .ok (.iload_n 3, 1) := by decide +kernel
theorem dR_whole_26 : decode bR_whole 26 = .ok (.imul, 1) := by decide +kernel
theorem dR_whole_27 : decode bR_whole 27 = .ok (.aload_n 0, 1) := by decide +kernel
theorem dR_whole_28 : decode bR_whole 28 = .ok (.getfield 58, 3) := by decide +kernel
theorem dR_whole_31 : decode bR_whole 31 = .ok (.iadd, 1) := by decide +kernel
theorem dR_whole_32 : decode bR_whole 32 = .ok (.iload_n 1, 1) := by decide +kernel
theorem dR_whole_33 : decode bR_whole 33 = .ok (.isub, 1) := by decide +kernel
theorem dR_whole_34 : decode bR_whole 34 = .ok (.iaload, 1) := by decide +kernel
theorem dR_whole_35 : decode bR_whole 35 = .ok (.ifCond .ne 7, 3) := by decide +kernel
theorem dR_whole_38 : decode bR_whole 38 = .ok (.iconst 1, 1) := by decide +kernel
theorem dR_whole_39 : decode bR_whole 39 = .ok (.goto 4, 3) := by decide +kernel
theorem dR_whole_42 : decode bR_whole 42 = .ok (.iconst 0, 1) := by decide +kernel
theorem dR_whole_43 : decode bR_whole 43 = .ok (.istore 4, 2) := by decide +kernel
theorem dR_whole_45 : decode bR_whole 45 = .ok (.iconst 0, 1) := by decide +kernel
theorem dR_whole_46 : decode bR_whole 46 = .ok (.istore 5, 2) := by decide +kernel
theorem dR_whole_48 : decode bR_whole 48 = .ok (.iload 5, 2) := by decide +kernel
theorem dR_whole_50 : decode bR_whole 50 = .ok (.aload_n 0, 1) := by decide +kernel
theorem dR_whole_51 : decode bR_whole 51 = .ok (.getfield 58, 3) := by decide +kernel
theorem dR_whole_54 : decode bR_whole 54 = .ok (.iload_n 1, 1) := by decide +kernel
theorem dR_whole_55 : decode bR_whole 55 = .ok (.isub, 1) := by decide +kernel
theorem dR_whole_56 : decode bR_whole 56 = .ok (.if_icmp .ge 44, 3) := by decide +kernel
theorem dR_whole_59 : decode bR_whole 59 = .ok (.iload 4, 2) := by decide +kernel
theorem dR_whole_61 : decode bR_whole 61 = .ok (.ifCond .eq 30, 3) := by decide +kernel
theorem dR_whole_64 : decode bR_whole 64 = .ok (.aload_n 0, 1) := by decide +kernel
theorem dR_whole_65 : decode bR_whole 65 = .ok (.getfield 19, 3) := by decide +kernel
theorem dR_whole_68 : decode bR_whole 68 = .ok (.iconst 5, 1) := by decide +kernel
theorem dR_whole_69 : decode bR_whole 69 = .ok (.iload_n 3, 1) := by decide +kernel
theorem dR_whole_70 : decode bR_whole 70 = .ok (.imul, 1) := by decide +kernel
theorem dR_whole_71 : decode bR_whole 71 = .ok (.iload 5, 2) := by decide +kernel
theorem dR_whole_73 : decode bR_whole 73 = .ok (.iadd, 1) := by decide +kernel
theorem dR_whole_74 : decode bR_whole 74 = .ok (.iaload, 1) := by decide +kernel
theorem dR_whole_75 : decode bR_whole 75 = .ok (.aload_n 0, 1) := by decide +kernel
theorem dR_whole_76 : decode bR_whole 76 = .ok (.getfield 7, 3) := by decide +kernel
theorem dR_whole_79 : decode bR_whole 79 = .ok (.iload_n 1, 1) := by decide +kernel
theorem dR_whole_80 : decode bR_whole 80 = .ok (.iload 5, 2) := by decide +kernel
theorem dR_whole_82 : decode bR_whole 82 = .ok (.iadd, 1) := by decide +kernel
theorem dR_whole_83 : decode bR_whole 83 = .ok (.iaload, 1) := by decide +kernel
theorem dR_whole_84 : decode bR_whole 84 = .ok (.if_icmp .ne 7, 3) := by decide +kernel
theorem dR_whole_87 : decode bR_whole 87 = .ok (.iconst 1, 1) := by decide +kernel
theorem dR_whole_88 : decode bR_whole 88 = .ok (.goto 4, 3) := by decide +kernel
theorem dR_whole_91 : decode bR_whole 91 = .ok (.iconst 0, 1) := by decide +kernel
theorem dR_whole_92 : decode bR_whole 92 = .ok (.istore 4, 2) := by decide +kernel
theorem dR_whole_94 : decode bR_whole 94 = .ok (.iinc 5 1, 3) := by decide +kernel
theorem dR_whole_97 : decode bR_whole 97 = .ok (.goto (-49), 3) := by decide +kernel
theorem dR_whole_100 : decode bR_whole 100 = .ok (.iload 4, 2) := by decide +kernel
theorem dR_whole_102 : decode bR_whole 102 = .ok (.ifCond .eq 7, 3) := by decide +kernel
theorem dR_whole_105 : decode bR_whole 105 = .ok (.iload_n 3, 1) := by decide +kernel
theorem dR_whole_106 : decode bR_whole 106 = .ok (.goto 4, 3) := by decide +kernel
theorem dR_whole_109 : decode bR_whole 109 = .ok (.iload_n 2, 1) := by decide +kernel
theorem dR_whole_110 : decode bR_whole 110 = .ok (.istore_n 2, 1) := by decide +kernel
theorem dR_whole_111 : decode bR_whole 111 = .ok (.iinc 3 1, 3) := by decide +kernel
theorem dR_whole_114 : decode bR_whole 114 = .ok (.goto (-110), 3) := by decide +kernel
theorem dR_whole_117 : decode bR_whole 117 = .ok (.iload_n 2, 1) := by decide +kernel
theorem dR_whole_118 : decode bR_whole 118 = .ok (.ireturn, 1) := by decide +kernel
theorem dR_word_0 : decode bR_word 0 = .ok (.aload_n 0, 1) := by decide +kernel
theorem dR_word_1 : decode bR_word 1 = .ok (.getfield 58, 3) := by decide +kernel
theorem dR_word_4 : decode bR_word 4 = .ok (.istore_n 1, 1) := by decide +kernel
theorem dR_word_5 : decode bR_word 5 = .ok (.aload_n 0, 1) := by decide +kernel
theorem dR_word_6 : decode bR_word 6 = .ok (.getfield 61, 3) := by decide +kernel
theorem dR_word_9 : decode bR_word 9 = .ok (.iconst (-1), 1) := by decide +kernel
theorem dR_word_10 : decode bR_word 10 = .ok (.if_icmp .ne 67, 3) := by decide +kernel
theorem dR_word_13 : decode bR_word 13 = .ok (.aload_n 0, 1) := by decide +kernel
theorem dR_word_14 : decode bR_word 14 = .ok (.iload_n 1, 1) := by decide +kernel
theorem dR_word_15 : decode bR_word 15 = .ok (.invokevirtual 64, 3) := by decide +kernel
theorem dR_word_18 : decode bR_word 18 = .ok (.iconst (-1), 1) := by decide +kernel
theorem dR_word_19 : decode bR_word 19 = .ok (.if_icmp .ne 58, 3) := by decide +kernel
theorem dR_word_22 : decode bR_word 22 = .ok (.iconst 0, 1) := by decide +kernel
theorem dR_word_23 : decode bR_word 23 = .ok (.istore_n 2, 1) := by decide +kernel
theorem dR_word_24 : decode bR_word 24 = .ok (.iconst 0, 1) := by decide +kernel
theorem dR_word_25 : decode bR_word 25 = .ok (.istore_n 3, 1) := by decide +kernel
theorem dR_word_26 : decode bR_word 26 = .ok (.iload_n 3, 1) := by decide +kernel
theorem dR_word_27 : decode bR_word 27 = .ok (.bipush 7, 2) := by decide +kernel
theorem dR_word_29 : decode bR_word 29 = .ok (.if_icmp .ge 40, 3) := by decide +kernel
theorem dR_word_32 : decode bR_word 32 = .ok (.iload_n 2, 1) := by decide +kernel
theorem dR_word_33 : decode bR_word 33 = .ok (.ifCond .ne 24, 3) := by decide +kernel
theorem dR_word_36 : decode bR_word 36 = .ok (.aload_n 0, 1) := by decide +kernel
theorem dR_word_37 : decode bR_word 37 = .ok (.invokevirtual 68, 3) := by decide +kernel
theorem dR_word_40 : decode bR_word 40 = .ok (.iconst (-1), 1) := by decide +kernel
theorem dR_word_41 : decode bR_word 41 = .ok (.if_icmp .eq 20, 3) := by decide +kernel
theorem dR_word_44 : decode bR_word 44 = .ok (.aload_n 0, 1) := by decide +kernel
theorem dR_word_45 : decode bR_word 45 = .ok (.iload_n 3, 1) := by decide +kernel
theorem dR_word_46 : decode bR_word 46 = .ok (.iload_n 1, 1) := by decide +kernel
theorem dR_word_47 : decode bR_word 47 = .ok (.aload_n 0, 1) := by decide +kernel
theorem dR_word_48 : decode bR_word 48 = .ok (.invokevirtual 68, 3) := by decide +kernel
theorem dR_word_51 : decode bR_word 51 = .ok (.invokevirtual 72, 3) := by decide +kernel
theorem dR_word_54 : decode bR_word 54 = .ok (.ifCond .eq 7, 3) := by decide +kernel
theorem dR_word_57 : decode bR_word 57 = .ok (.iconst 1, 1) := by decide +kernel
theorem dR_word_58 : decode bR_word 58 = .ok (.goto 4, 3) := by decide +kernel
theorem dR_word_61 : decode bR_word 61 = .ok (.iconst 0, 1) := by decide +kernel
theorem dR_word_62 : decode bR_word 62 = .ok (.istore_n 2, 1) := by decide +kernel
theorem dR_word_63 : decode bR_word 63 = .ok (.iinc 3 1, 3) := by decide +kernel
theorem dR_word_66 : decode bR_word 66 = .ok (.goto (-40), 3) := by decide +kernel
theorem dR_word_69 : decode bR_word 69 = .ok (.aload_n 0, 1) := by decide +kernel
theorem dR_word_70 : decode bR_word 70 = .ok (.iload_n 2, 1) := by decide +kernel
theorem dR_word_71 : decode bR_word 71 = .ok (.invokevirtual 76, 3) := by decide +kernel
theorem dR_word_74 : decode bR_word 74 = .ok (.goto (-69), 3) := by decide +kernel
theorem dR_word_77 : decode bR_word 77 = .ok (.aload_n 0, 1) := by decide +kernel
theorem dR_word_78 : decode bR_word 78 = .ok (.getfield 61, 3) := by decide +kernel
theorem dR_word_81 : decode bR_word 81 = .ok (.iconst (-1), 1) := by decide +kernel
theorem dR_word_82 : decode bR_word 82 = .ok (.if_icmp .ne 11, 3) := by decide +kernel
theorem dR_word_85 : decode bR_word 85 = .ok (.aload_n 0, 1) := by decide +kernel
theorem dR_word_86 : decode bR_word 86 = .ok (.iload_n 1, 1) := by decide +kernel
theorem dR_word_87 : decode bR_word 87 = .ok (.invokevirtual 64, 3) := by decide +kernel
theorem dR_word_90 : decode bR_word 90 = .ok (.goto 4, 3) := by decide +kernel
theorem dR_word_93 : decode bR_word 93 = .ok (.iconst 0, 1) := by decide +kernel
theorem dR_word_94 : decode bR_word 94 = .ok (.ireturn, 1) := by decide +kernel
theorem dR_isDigit_0 : decode bR_isDigit 0 = .ok (.aload_n 0, 1) := by decide +kernel
theorem dR_isDigit_1 : decode bR_isDigit 1 = .ok (.invokevirtual 68, 3) := by decide +kernel
theorem dR_isDigit_4 : decode bR_isDigit 4 = .ok (.bipush 48, 2) := by decide +kernel
theorem dR_isDigit_6 : decode bR_isDigit 6 = .ok (.if_icmp .lt 16, 3) := by decide +kernel
theorem dR_isDigit_9 : decode bR_isDigit 9 = .ok (.aload_n 0, 1) := by decide +kernel
theorem dR_isDigit_10 : decode bR_isDigit 10 = .ok (.invokevirtual 68, 3) := by decide +kernel
theorem dR_isDigit_13 : decode bR_isDigit 13 = .ok (.bipush 57, 2) := by decide +kernel
theorem dR_isDigit_15 : decode bR_isDigit 15 = .ok (.if_icmp .gt 7, 3) := by decide +kernel
theorem dR_isDigit_18 : decode bR_isDigit 18 = .ok (.iconst 1, 1) := by decide +kernel
theorem dR_isDigit_19 : decode bR_isDigit 19 = .ok (.goto 4, 3) := by decide +kernel
theorem dR_isDigit_22 : decode bR_isDigit 22 = .ok (.iconst 0, 1) := by decide +kernel
theorem dR_isDigit_23 : decode bR_isDigit 23 = .ok (.ireturn, 1) := by decide +kernel
theorem dR_number_0 : decode bR_number 0 = .ok (.aload_n 0, 1) := by decide +kernel
theorem dR_number_1 : decode bR_number 1 = .ok (.getfield 58, 3) := by decide +kernel
theorem dR_number_4 : decode bR_number 4 = .ok (.istore_n 1, 1) := by decide +kernel
theorem dR_number_5 : decode bR_number 5 = .ok (.iconst 0, 1) := by decide +kernel
theorem dR_number_6 : decode bR_number 6 = .ok (.istore_n 2, 1) := by decide +kernel
theorem dR_number_7 : decode bR_number 7 = .ok (.iconst 0, 1) := by decide +kernel
theorem dR_number_8 : decode bR_number 8 = .ok (.istore_n 3, 1) := by decide +kernel
theorem dR_number_9 : decode bR_number 9 = .ok (.aload_n 0, 1) := by decide +kernel
theorem dR_number_10 : decode bR_number 10 = .ok (.aload_n 0, 1) := by decide +kernel
theorem dR_number_11 : decode bR_number 11 = .ok (.invokevirtual 80, 3) := by decide +kernel
theorem dR_number_14 : decode bR_number 14 = .ok (.invokevirtual 76, 3) := by decide +kernel
theorem dR_number_17 : decode bR_number 17 = .ok (.aload_n 0, 1) := by decide +kernel
theorem dR_number_18 : decode bR_number 18 = .ok (.getfield 61, 3) := by decide +kernel
theorem dR_number_21 : decode bR_number 21 = .ok (.iconst (-1), 1) := by decide +kernel
theorem dR_number_22 : decode bR_number 22 = .ok (.if_icmp .eq 5, 3) := by decide +kernel
theorem dR_number_25 : decode bR_number 25 = .ok (.iconst 0, 1) := by decide +kernel
theorem dR_number_26 : decode bR_number 26 = .ok (.ireturn, 1) := by decide +kernel
theorem dR_number_27 : decode bR_number 27 = .ok (.aload_n 0, 1) := by decide +kernel
theorem dR_number_28 : decode bR_number 28 = .ok (.getfield 7, 3) := by decide +kernel
theorem dR_number_31 : decode bR_number 31 = .ok (.iload_n 1, 1) := by decide +kernel
theorem dR_number_32 : decode bR_number 32 = .ok (.iaload, 1) := by decide +kernel
theorem dR_number_33 : decode bR_number 33 = .ok (.bipush 48, 2) := by decide +kernel
theorem dR_number_35 : decode bR_number 35 = .ok (.isub, 1) := by decide +kernel
theorem dR_number_36 : decode bR_number 36 = .ok (.istore_n 2, 1) := by decide +kernel
theorem dR_number_37 : decode bR_number 37 = .ok (.iconst 1, 1) := by decide +kernel
theorem dR_number_38 : decode bR_number 38 = .ok (.istore_n 3, 1) := by decide +kernel
theorem dR_number_39 : decode bR_number 39 = .ok (.iload_n 3, 1) := by decide +kernel
theorem dR_number_40 : decode bR_number 40 = .ok (.iconst 4, 1) := by decide +kernel
theorem dR_number_41 : decode bR_number 41 = .ok (.if_icmp .ge 39, 3) := by decide +kernel
theorem dR_number_44 : decode bR_number 44 = .ok (.aload_n 0, 1) := by decide +kernel
theorem dR_number_45 : decode bR_number 45 = .ok (.invokevirtual 80, 3) := by decide +kernel
theorem dR_number_48 : decode bR_number 48 = .ok (.ifCond .eq 32, 3) := by decide +kernel
theorem dR_number_51 : decode bR_number 51 = .ok (.bipush 10, 2) := by decide +kernel
theorem dR_number_53 : decode bR_number 53 = .ok (.iload_n 2, 1) := by decide +kernel
theorem dR_number_54 : decode bR_number 54 = .ok (.imul, 1) := by decide +kernel
theorem dR_number_55 : decode bR_number 55 = .ok (.aload_n 0, 1) := by decide +kernel
theorem dR_number_56 : decode bR_number 56 = .ok (.invokevirtual 68, 3) := by decide +kernel
theorem dR_number_59 : decode bR_number 59 = .ok (.iadd, 1) := by decide +kernel
theorem dR_number_60 : decode bR_number 60 = .ok (.bipush 48, 2) := by decide +kernel
theorem dR_number_62 : decode bR_number 62 = .ok (.isub, 1) := by decide +kernel
theorem dR_number_63 : decode bR_number 63 = .ok (.istore_n 2, 1) := by decide +kernel
theorem dR_number_64 : decode bR_number 64 = .ok (.aload_n 0, 1) := by decide +kernel
theorem dR_number_65 : decode bR_number 65 = .ok (.dup, 1) := by decide +kernel
theorem dR_number_66 : decode bR_number 66 = .ok (.getfield 58, 3) := by decide +kernel
theorem dR_number_69 : decode bR_number 69 = .ok (.iconst 1, 1) := by decide +kernel
theorem dR_number_70 : decode bR_number 70 = .ok (.iadd, 1) := by decide +kernel
theorem dR_number_71 : decode bR_number 71 = .ok (.putfield 58, 3) := by decide +kernel
theorem dR_number_74 : decode bR_number 74 = .ok (.iinc 3 1, 3) := by decide +kernel
theorem dR_number_77 : decode bR_number 77 = .ok (.goto (-38), 3) := by decide +kernel
theorem dR_number_80 : decode bR_number 80 = .ok (.iload_n 2, 1) := by decide +kernel
theorem dR_number_81 : decode bR_number 81 = .ok (.ifCond .ne 8, 3) := by decide +kernel
theorem dR_number_84 : decode bR_number 84 = .ok (.aload_n 0, 1) := by decide +kernel
theorem dR_number_85 : decode bR_number 85 = .ok (.iload_n 1, 1) := by decide +kernel
theorem dR_number_86 : decode bR_number 86 = .ok (.putfield 61, 3) := by decide +kernel
theorem dR_number_89 : decode bR_number 89 = .ok (.iload_n 2, 1) := by decide +kernel
theorem dR_number_90 : decode bR_number 90 = .ok (.ireturn, 1) := by decide +kernel
theorem dR_read_0 : decode bR_read 0 = .ok (.aload_n 0, 1) := by decide +kernel
theorem dR_read_1 : decode bR_read 1 = .ok (.iconst 0, 1) := by decide +kernel
theorem dR_read_2 : decode bR_read 2 = .ok (.putfield 52, 3) := by decide +kernel
theorem dR_read_5 : decode bR_read 5 = .ok (.aload_n 0, 1) := by decide +kernel
theorem dR_read_6 : decode bR_read 6 = .ok (.iconst 0, 1) := by decide +kernel
theorem dR_read_7 : decode bR_read 7 = .ok (.putfield 58, 3) := by decide +kernel
theorem dR_read_10 : decode bR_read 10 = .ok (.aload_n 0, 1) := by decide +kernel
theorem dR_read_11 : decode bR_read 11 = .ok (.iconst (-1), 1) := by decide +kernel
theorem dR_read_12 : decode bR_read 12 = .ok (.putfield 61, 3) := by decide +kernel
theorem dR_read_15 : decode bR_read 15 = .ok (.iconst 0, 1) := by decide +kernel
theorem dR_read_16 : decode bR_read 16 = .ok (.istore_n 1, 1) := by decide +kernel
theorem dR_read_17 : decode bR_read 17 = .ok (.iconst 1, 1) := by decide +kernel
theorem dR_read_18 : decode bR_read 18 = .ok (.istore_n 2, 1) := by decide +kernel
theorem dR_read_19 : decode bR_read 19 = .ok (.iload_n 2, 1) := by decide +kernel
theorem dR_read_20 : decode bR_read 20 = .ok (.ifCond .eq 175, 3) := by decide +kernel
theorem dR_read_23 : decode bR_read 23 = .ok (.aload_n 0, 1) := by decide +kernel
theorem dR_read_24 : decode bR_read 24 = .ok (.getfield 61, 3) := by decide +kernel
theorem dR_read_27 : decode bR_read 27 = .ok (.iconst (-1), 1) := by decide +kernel
theorem dR_read_28 : decode bR_read 28 = .ok (.if_icmp .ne 167, 3) := by decide +kernel
theorem dR_read_31 : decode bR_read 31 = .ok (.aload_n 0, 1) := by decide +kernel
theorem dR_read_32 : decode bR_read 32 = .ok (.invokevirtual 68, 3) := by decide +kernel
theorem dR_read_35 : decode bR_read 35 = .ok (.invokestatic 84, 3) := by decide +kernel
theorem dR_read_38 : decode bR_read 38 = .ok (.istore_n 3, 1) := by decide +kernel
theorem dR_read_39 : decode bR_read 39 = .ok (.aload_n 0, 1) := by decide +kernel
theorem dR_read_40 : decode bR_read 40 = .ok (.iload_n 3, 1) := by decide +kernel
theorem dR_read_41 : decode bR_read 41 = .ok (.iconst (-1), 1) := by decide +kernel
theorem dR_read_42 : decode bR_read 42 = .ok (.if_icmp .eq 7, 3) := by decide +kernel
theorem dR_read_45 : decode bR_read 45 = .ok (.iconst 1, 1) := by decide +kernel
theorem dR_read_46 : decode bR_read 46 = .ok (.goto 4, 3) := by decide +kernel
theorem dR_read_49 : decode bR_read 49 = .ok (.iconst 0, 1) := by decide +kernel
theorem dR_read_50 : decode bR_read 50 = .ok (.invokevirtual 76, 3) := by decide +kernel
theorem dR_read_53 : decode bR_read 53 = .ok (.aload_n 0, 1) := by decide +kernel
theorem dR_read_54 : decode bR_read 54 = .ok (.aload_n 0, 1) := by decide +kernel
theorem dR_read_55 : decode bR_read 55 = .ok (.invokevirtual 68, 3) := by decide +kernel
theorem dR_read_58 : decode bR_read 58 = .ok (.bipush 32, 2) := by decide +kernel
theorem dR_read_60 : decode bR_read 60 = .ok (.if_icmp .ne 7, 3) := by decide +kernel
theorem dR_read_63 : decode bR_read 63 = .ok (.iconst 1, 1) := by decide +kernel
theorem dR_read_64 : decode bR_read 64 = .ok (.goto 4, 3) := by decide +kernel
theorem dR_read_67 : decode bR_read 67 = .ok (.iconst 0, 1) := by decide +kernel
theorem dR_read_68 : decode bR_read 68 = .ok (.invokevirtual 76, 3) := by decide +kernel
theorem dR_read_71 : decode bR_read 71 = .ok (.aload_n 0, 1) := by decide +kernel
theorem dR_read_72 : decode bR_read 72 = .ok (.invokevirtual 87, 3) := by decide +kernel
theorem dR_read_75 : decode bR_read 75 = .ok (.istore 4, 2) := by decide +kernel
theorem dR_read_77 : decode bR_read 77 = .ok (.aload_n 0, 1) := by decide +kernel
theorem dR_read_78 : decode bR_read 78 = .ok (.aload_n 0, 1) := by decide +kernel
theorem dR_read_79 : decode bR_read 79 = .ok (.invokevirtual 68, 3) := by decide +kernel
theorem dR_read_82 : decode bR_read 82 = .ok (.bipush 32, 2) := by decide +kernel
theorem dR_read_84 : decode bR_read 84 = .ok (.if_icmp .ne 7, 3) := by decide +kernel
theorem dR_read_87 : decode bR_read 87 = .ok (.iconst 1, 1) := by decide +kernel
theorem dR_read_88 : decode bR_read 88 = .ok (.goto 4, 3) := by decide +kernel
theorem dR_read_91 : decode bR_read 91 = .ok (.iconst 0, 1) := by decide +kernel
theorem dR_read_92 : decode bR_read 92 = .ok (.invokevirtual 76, 3) := by decide +kernel
theorem dR_read_95 : decode bR_read 95 = .ok (.aload_n 0, 1) := by decide +kernel
theorem dR_read_96 : decode bR_read 96 = .ok (.getfield 61, 3) := by decide +kernel
theorem dR_read_99 : decode bR_read 99 = .ok (.iconst (-1), 1) := by decide +kernel
theorem dR_read_100 : decode bR_read 100 = .ok (.if_icmp .ne 10, 3) := by decide +kernel
theorem dR_read_103 : decode bR_read 103 = .ok (.aload_n 0, 1) := by decide +kernel
theorem dR_read_104 : decode bR_read 104 = .ok (.invokevirtual 90, 3) := by decide +kernel
theorem dR_read_107 : decode bR_read 107 = .ok (.goto 4, 3) := by decide +kernel
theorem dR_read_110 : decode bR_read 110 = .ok (.iconst 0, 1) := by decide +kernel
theorem dR_read_111 : decode bR_read 111 = .ok (.istore 5, 2) := by decide +kernel
theorem dR_read_113 : decode bR_read 113 = .ok (.aload_n 0, 1) := by decide +kernel
theorem dR_read_114 : decode bR_read 114 = .ok (.getfield 13, 3) := by decide +kernel
theorem dR_read_117 : decode bR_read 117 = .ok (.iconst 3, 1) := by decide +kernel
theorem dR_read_118 : decode bR_read 118 = .ok (.iload_n 1, 1) := by decide +kernel
theorem dR_read_119 : decode bR_read 119 = .ok (.imul, 1) := by decide +kernel
theorem dR_read_120 : decode bR_read 120 = .ok (.iload_n 3, 1) := by decide +kernel
theorem dR_read_121 : decode bR_read 121 = .ok (.iastore, 1) := by decide +kernel
theorem dR_read_122 : decode bR_read 122 = .ok (.aload_n 0, 1) := by decide +kernel
theorem dR_read_123 : decode bR_read 123 = .ok (.getfield 13, 3) := by decide +kernel
theorem dR_read_126 : decode bR_read 126 = .ok (.iconst 3, 1) := by decide +kernel
theorem dR_read_127 : decode bR_read 127 = .ok (.iload_n 1, 1) := by decide +kernel
theorem dR_read_128 : decode bR_read 128 = .ok (.imul, 1) := by decide +kernel
theorem dR_read_129 : decode bR_read 129 = .ok (.iconst 1, 1) := by decide +kernel
theorem dR_read_130 : decode bR_read 130 = .ok (.iadd, 1) := by decide +kernel
theorem dR_read_131 : decode bR_read 131 = .ok (.iload 4, 2) := by decide +kernel
theorem dR_read_133 : decode bR_read 133 = .ok (.iastore, 1) := by decide +kernel
theorem dR_read_134 : decode bR_read 134 = .ok (.aload_n 0, 1) := by decide +kernel
theorem dR_read_135 : decode bR_read 135 = .ok (.getfield 13, 3) := by decide +kernel
theorem dR_read_138 : decode bR_read 138 = .ok (.iconst 3, 1) := by decide +kernel
theorem dR_read_139 : decode bR_read 139 = .ok (.iload_n 1, 1) := by decide +kernel
theorem dR_read_140 : decode bR_read 140 = .ok (.imul, 1) := by decide +kernel
theorem dR_read_141 : decode bR_read 141 = .ok (.iconst 2, 1) := by decide +kernel
theorem dR_read_142 : decode bR_read 142 = .ok (.iadd, 1) := by decide +kernel
theorem dR_read_143 : decode bR_read 143 = .ok (.iload 5, 2) := by decide +kernel
theorem dR_read_145 : decode bR_read 145 = .ok (.iastore, 1) := by decide +kernel
theorem dR_read_146 : decode bR_read 146 = .ok (.iinc 1 1, 3) := by decide +kernel
theorem dR_read_149 : decode bR_read 149 = .ok (.iload_n 1, 1) := by decide +kernel
theorem dR_read_150 : decode bR_read 150 = .ok (.bipush 16, 2) := by decide +kernel
theorem dR_read_152 : decode bR_read 152 = .ok (.if_icmp .ge 16, 3) := by decide +kernel
theorem dR_read_155 : decode bR_read 155 = .ok (.aload_n 0, 1) := by decide +kernel
theorem dR_read_156 : decode bR_read 156 = .ok (.invokevirtual 68, 3) := by decide +kernel
theorem dR_read_159 : decode bR_read 159 = .ok (.bipush 59, 2) := by decide +kernel
theorem dR_read_161 : decode bR_read 161 = .ok (.if_icmp .ne 7, 3) := by decide +kernel
theorem dR_read_164 : decode bR_read 164 = .ok (.iconst 1, 1) := by decide +kernel
theorem dR_read_165 : decode bR_read 165 = .ok (.goto 4, 3) := by decide +kernel
theorem dR_read_168 : decode bR_read 168 = .ok (.iconst 0, 1) := by decide +kernel
theorem dR_read_169 : decode bR_read 169 = .ok (.istore_n 2, 1) := by decide +kernel
theorem dR_read_170 : decode bR_read 170 = .ok (.iload_n 2, 1) := by decide +kernel
theorem dR_read_171 : decode bR_read 171 = .ok (.ifCond .eq 21, 3) := by decide +kernel
theorem dR_read_174 : decode bR_read 174 = .ok (.aload_n 0, 1) := by decide +kernel
theorem dR_read_175 : decode bR_read 175 = .ok (.getfield 61, 3) := by decide +kernel
theorem dR_read_178 : decode bR_read 178 = .ok (.iconst (-1), 1) := by decide +kernel
theorem dR_read_179 : decode bR_read 179 = .ok (.if_icmp .ne 13, 3) := by decide +kernel
theorem dR_read_182 : decode bR_read 182 = .ok (.aload_n 0, 1) := by decide +kernel
theorem dR_read_183 : decode bR_read 183 = .ok (.dup, 1) := by decide +kernel
theorem dR_read_184 : decode bR_read 184 = .ok (.getfield 58, 3) := by decide +kernel
theorem dR_read_187 : decode bR_read 187 = .ok (.iconst 1, 1) := by decide +kernel
theorem dR_read_188 : decode bR_read 188 = .ok (.iadd, 1) := by decide +kernel
theorem dR_read_189 : decode bR_read 189 = .ok (.putfield 58, 3) := by decide +kernel
theorem dR_read_192 : decode bR_read 192 = .ok (.goto (-173), 3) := by decide +kernel
theorem dR_read_195 : decode bR_read 195 = .ok (.aload_n 0, 1) := by decide +kernel
theorem dR_read_196 : decode bR_read 196 = .ok (.getfield 61, 3) := by decide +kernel
theorem dR_read_199 : decode bR_read 199 = .ok (.iconst (-1), 1) := by decide +kernel
theorem dR_read_200 : decode bR_read 200 = .ok (.if_icmp .ne 22, 3) := by decide +kernel
theorem dR_read_203 : decode bR_read 203 = .ok (.aload_n 0, 1) := by decide +kernel
theorem dR_read_204 : decode bR_read 204 = .ok (.getfield 58, 3) := by decide +kernel
theorem dR_read_207 : decode bR_read 207 = .ok (.aload_n 0, 1) := by decide +kernel
theorem dR_read_208 : decode bR_read 208 = .ok (.getfield 55, 3) := by decide +kernel
theorem dR_read_211 : decode bR_read 211 = .ok (.if_icmp .ge 11, 3) := by decide +kernel
theorem dR_read_214 : decode bR_read 214 = .ok (.aload_n 0, 1) := by decide +kernel
theorem dR_read_215 : decode bR_read 215 = .ok (.aload_n 0, 1) := by decide +kernel
theorem dR_read_216 : decode bR_read 216 = .ok (.getfield 58, 3) := by decide +kernel
theorem dR_read_219 : decode bR_read 219 = .ok (.putfield 61, 3) := by decide +kernel
theorem dR_read_222 : decode bR_read 222 = .ok (.aload_n 0, 1) := by decide +kernel
theorem dR_read_223 : decode bR_read 223 = .ok (.iconst 0, 1) := by decide +kernel
theorem dR_read_224 : decode bR_read 224 = .ok (.putfield 55, 3) := by decide +kernel
theorem dR_read_227 : decode bR_read 227 = .ok (.aload_n 0, 1) := by decide +kernel
theorem dR_read_228 : decode bR_read 228 = .ok (.getfield 61, 3) := by decide +kernel
theorem dR_read_231 : decode bR_read 231 = .ok (.iconst (-1), 1) := by decide +kernel
theorem dR_read_232 : decode bR_read 232 = .ok (.if_icmp .eq 10, 3) := by decide +kernel
theorem dR_read_235 : decode bR_read 235 = .ok (.iconst (-1), 1) := by decide +kernel
theorem dR_read_236 : decode bR_read 236 = .ok (.aload_n 0, 1) := by decide +kernel
theorem dR_read_237 : decode bR_read 237 = .ok (.getfield 61, 3) := by decide +kernel
theorem dR_read_240 : decode bR_read 240 = .ok (.isub, 1) := by decide +kernel
theorem dR_read_241 : decode bR_read 241 = .ok (.ireturn, 1) := by decide +kernel
theorem dR_read_242 : decode bR_read 242 = .ok (.iconst 0, 1) := by decide +kernel
theorem dR_read_243 : decode bR_read 243 = .ok (.istore_n 3, 1) := by decide +kernel
theorem dR_read_244 : decode bR_read 244 = .ok (.iload_n 3, 1) := by decide +kernel
theorem dR_read_245 : decode bR_read 245 = .ok (.iload_n 1, 1) := by decide +kernel
theorem dR_read_246 : decode bR_read 246 = .ok (.if_icmp .ge 46, 3) := by decide +kernel
theorem dR_read_249 : decode bR_read 249 = .ok (.aload_n 0, 1) := by decide +kernel
theorem dR_read_250 : decode bR_read 250 = .ok (.getfield 16, 3) := by decide +kernel
theorem dR_read_253 : decode bR_read 253 = .ok (.bipush 7, 2) := by decide +kernel
theorem dR_read_255 : decode bR_read 255 = .ok (.aload_n 0, 1) := by decide +kernel
theorem dR_read_256 : decode bR_read 256 = .ok (.getfield 13, 3) := by decide +kernel
theorem dR_read_259 : decode bR_read 259 = .ok (.iconst 3, 1) := by decide +kernel
theorem dR_read_260 : decode bR_read 260 = .ok (.iload_n 3, 1) := by decide +kernel
theorem dR_read_261 : decode bR_read 261 = .ok (.imul, 1) := by decide +kernel
theorem dR_read_262 : decode bR_read 262 = .ok (.iaload, 1) := by decide +kernel
theorem dR_read_263 : decode bR_read 263 = .ok (.imul, 1) := by decide +kernel
theorem dR_read_264 : decode bR_read 264 = .ok (.aload_n 0, 1) := by decide +kernel
theorem dR_read_265 : decode bR_read 265 = .ok (.getfield 13, 3) := by decide +kernel
theorem dR_read_268 : decode bR_read 268 = .ok (.iconst 3, 1) := by decide +kernel
theorem dR_read_269 : decode bR_read 269 = .ok (.iload_n 3, 1) := by decide +kernel
theorem dR_read_270 : decode bR_read 270 = .ok (.imul, 1) := by decide +kernel
theorem dR_read_271 : decode bR_read 271 = .ok (.iconst 1, 1) := by decide +kernel
theorem dR_read_272 : decode bR_read 272 = .ok (.iadd, 1) := by decide +kernel
theorem dR_read_273 : decode bR_read 273 = .ok (.iaload, 1) := by decide +kernel
theorem dR_read_274 : decode bR_read 274 = .ok (.iadd, 1) := by decide +kernel
theorem dR_read_275 : decode bR_read 275 = .ok (.aload_n 0, 1) := by decide +kernel
theorem dR_read_276 : decode bR_read 276 = .ok (.getfield 13, 3) := by decide +kernel
theorem dR_read_279 : decode bR_read 279 = .ok (.iconst 3, 1) := by decide +kernel
theorem dR_read_280 : decode bR_read 280 = .ok (.iload_n 3, 1) := by decide +kernel
theorem dR_read_281 : decode bR_read 281 = .ok (.imul, 1) := by decide +kernel
theorem dR_read_282 : decode bR_read 282 = .ok (.iconst 2, 1) := by decide +kernel
theorem dR_read_283 : decode bR_read 283 = .ok (.iadd, 1) := by decide +kernel
theorem dR_read_284 : decode bR_read 284 = .ok (.iaload, 1) := by decide +kernel
theorem dR_read_285 : decode bR_read 285 = .ok (.iastore, 1) := by decide +kernel
theorem dR_read_286 : decode bR_read 286 = .ok (.iinc 3 1, 3) := by decide +kernel
theorem dR_read_289 : decode bR_read 289 = .ok (.goto (-45), 3) := by decide +kernel
theorem dR_read_292 : decode bR_read 292 = .ok (.iload_n 1, 1) := by decide +kernel
theorem dR_read_293 : decode bR_read 293 = .ok (.ireturn, 1) := by decide +kernel
theorem dR_rule_0 : decode bR_rule 0 = .ok (.aload_n 0, 1) := by decide +kernel
theorem dR_rule_1 : decode bR_rule 1 = .ok (.iload_n 1, 1) := by decide +kernel
theorem dR_rule_2 : decode bR_rule 2 = .ok (.invokestatic 93, 3) := by decide +kernel
theorem dR_rule_5 : decode bR_rule 5 = .ok (.ifCond .eq 19, 3) := by decide +kernel
theorem dR_rule_8 : decode bR_rule 8 = .ok (.iload_n 2, 1) := by decide +kernel
theorem dR_rule_9 : decode bR_rule 9 = .ok (.i2l, 1) := by decide +kernel
theorem dR_rule_10 : decode bR_rule 10 = .ok (.lconst 0, 1) := by decide +kernel
theorem dR_rule_11 : decode bR_rule 11 = .ok (.ldc2_w 97, 3) := by decide +kernel
theorem dR_rule_14 : decode bR_rule 14 = .ok (.invokestatic 99, 3) := by decide +kernel
theorem dR_rule_17 : decode bR_rule 17 = .ok (.ifCond .eq 7, 3) := by decide +kernel
theorem dR_rule_20 : decode bR_rule 20 = .ok (.iconst 0, 1) := by decide +kernel
theorem dR_rule_21 : decode bR_rule 21 = .ok (.goto 4, 3) := by decide +kernel
theorem dR_rule_24 : decode bR_rule 24 = .ok (.iconst 1, 1) := by decide +kernel
theorem dR_rule_25 : decode bR_rule 25 = .ok (.putfield 52, 3) := by decide +kernel
theorem dR_rule_28 : decode bR_rule 28 = .ok (.aload_n 0, 1) := by decide +kernel
theorem dR_rule_29 : decode bR_rule 29 = .ok (.getfield 52, 3) := by decide +kernel
theorem dR_rule_32 : decode bR_rule 32 = .ok (.ifCond .le 7, 3) := by decide +kernel
theorem dR_rule_35 : decode bR_rule 35 = .ok (.iconst 0, 1) := by decide +kernel
theorem dR_rule_36 : decode bR_rule 36 = .ok (.goto 14, 3) := by decide +kernel
theorem dR_rule_39 : decode bR_rule 39 = .ok (.aload_n 0, 1) := by decide +kernel
theorem dR_rule_40 : decode bR_rule 40 = .ok (.getfield 16, 3) := by decide +kernel
theorem dR_rule_43 : decode bR_rule 43 = .ok (.bipush 7, 2) := by decide +kernel
theorem dR_rule_45 : decode bR_rule 45 = .ok (.iload_n 1, 1) := by decide +kernel
theorem dR_rule_46 : decode bR_rule 46 = .ok (.imul, 1) := by decide +kernel
theorem dR_rule_47 : decode bR_rule 47 = .ok (.iload_n 2, 1) := by decide +kernel
theorem dR_rule_48 : decode bR_rule 48 = .ok (.iadd, 1) := by decide +kernel
theorem dR_rule_49 : decode bR_rule 49 = .ok (.iaload, 1) := by decide +kernel
theorem dR_rule_50 : decode bR_rule 50 = .ok (.ireturn, 1) := by decide +kernel
theorem dR_set_0 : decode bR_set 0 = .ok (.aload_n 0, 1) := by decide +kernel
theorem dR_set_1 : decode bR_set 1 = .ok (.iload_n 1, 1) := by decide +kernel
theorem dR_set_2 : decode bR_set 2 = .ok (.ifCond .lt 8, 3) := by decide +kernel
theorem dR_set_5 : decode bR_set 5 = .ok (.iload_n 1, 1) := by decide +kernel
theorem dR_set_6 : decode bR_set 6 = .ok (.iconst 1, 1) := by decide +kernel
theorem dR_set_7 : decode bR_set 7 = .ok (.if_icmp .le 7, 3) := by decide +kernel
theorem dR_set_10 : decode bR_set 10 = .ok (.iconst 1, 1) := by decide +kernel
theorem dR_set_11 : decode bR_set 11 = .ok (.goto 23, 3) := by decide +kernel
theorem dR_set_14 : decode bR_set 14 = .ok (.iload_n 2, 1) := by decide +kernel
theorem dR_set_15 : decode bR_set 15 = .ok (.i2l, 1) := by decide +kernel
theorem dR_set_16 : decode bR_set 16 = .ok (.lconst 1, 1) := by decide +kernel
theorem dR_set_17 : decode bR_set 17 = .ok (.iload_n 1, 1) := by decide +kernel
theorem dR_set_18 : decode bR_set 18 = .ok (.i2l, 1) := by decide +kernel
theorem dR_set_19 : decode bR_set 19 = .ok (.lsub, 1) := by decide +kernel
theorem dR_set_20 : decode bR_set 20 = .ok (.ldc2_w 22, 3) := by decide +kernel
theorem dR_set_23 : decode bR_set 23 = .ok (.invokestatic 99, 3) := by decide +kernel
theorem dR_set_26 : decode bR_set 26 = .ok (.ifCond .eq 7, 3) := by decide +kernel
theorem dR_set_29 : decode bR_set 29 = .ok (.iconst 0, 1) := by decide +kernel
theorem dR_set_30 : decode bR_set 30 = .ok (.goto 4, 3) := by decide +kernel
theorem dR_set_33 : decode bR_set 33 = .ok (.iconst 2, 1) := by decide +kernel
theorem dR_set_34 : decode bR_set 34 = .ok (.putfield 52, 3) := by decide +kernel
theorem dR_set_37 : decode bR_set 37 = .ok (.aload_n 0, 1) := by decide +kernel
theorem dR_set_38 : decode bR_set 38 = .ok (.getfield 52, 3) := by decide +kernel
theorem dR_set_41 : decode bR_set 41 = .ok (.ifCond .ne 16, 3) := by decide +kernel
theorem dR_set_44 : decode bR_set 44 = .ok (.iload_n 1, 1) := by decide +kernel
theorem dR_set_45 : decode bR_set 45 = .ok (.ifCond .ne 12, 3) := by decide +kernel
theorem dR_set_48 : decode bR_set 48 = .ok (.aload_n 0, 1) := by decide +kernel
theorem dR_set_49 : decode bR_set 49 = .ok (.iload_n 2, 1) := by decide +kernel
theorem dR_set_50 : decode bR_set 50 = .ok (.i2l, 1) := by decide +kernel
theorem dR_set_51 : decode bR_set 51 = .ok (.putfield 24, 3) := by decide +kernel
theorem dR_set_54 : decode bR_set 54 = .ok (.goto 16, 3) := by decide +kernel
theorem dR_set_57 : decode bR_set 57 = .ok (.aload_n 0, 1) := by decide +kernel
theorem dR_set_58 : decode bR_set 58 = .ok (.getfield 52, 3) := by decide +kernel
theorem dR_set_61 : decode bR_set 61 = .ok (.ifCond .ne 9, 3) := by decide +kernel
theorem dR_set_64 : decode bR_set 64 = .ok (.aload_n 0, 1) := by decide +kernel
theorem dR_set_65 : decode bR_set 65 = .ok (.iload_n 2, 1) := by decide +kernel
theorem dR_set_66 : decode bR_set 66 = .ok (.i2l, 1) := by decide +kernel
theorem dR_set_67 : decode bR_set 67 = .ok (.putfield 30, 3) := by decide +kernel
theorem dR_set_70 : decode bR_set 70 = .ok (.return_, 1) := by decide +kernel
theorem dR_formula_0 : decode bR_formula 0 = .ok (.aload_n 0, 1) := by decide +kernel
theorem dR_formula_1 : decode bR_formula 1 = .ok (.getfield 16, 3) := by decide +kernel
theorem dR_formula_4 : decode bR_formula 4 = .ok (.bipush 7, 2) := by decide +kernel
theorem dR_formula_6 : decode bR_formula 6 = .ok (.iload_n 1, 1) := by decide +kernel
theorem dR_formula_7 : decode bR_formula 7 = .ok (.imul, 1) := by decide +kernel
theorem dR_formula_8 : decode bR_formula 8 = .ok (.iaload, 1) := by decide +kernel
theorem dR_formula_9 : decode bR_formula 9 = .ok (.i2l, 1) := by decide +kernel
theorem dR_formula_10 : decode bR_formula 10 = .ok (.lstore 7, 2) := by decide +kernel
theorem dR_formula_12 : decode bR_formula 12 = .ok (.aload_n 0, 1) := by decide +kernel
theorem dR_formula_13 : decode bR_formula 13 = .ok (.getfield 16, 3) := by decide +kernel
theorem dR_formula_16 : decode bR_formula 16 = .ok (.bipush 7, 2) := by decide +kernel
theorem dR_formula_18 : decode bR_formula 18 = .ok (.iload_n 1, 1) := by decide +kernel
theorem dR_formula_19 : decode bR_formula 19 = .ok (.imul, 1) := by decide +kernel
theorem dR_formula_20 : decode bR_formula 20 = .ok (.iconst 1, 1) := by decide +kernel
theorem dR_formula_21 : decode bR_formula 21 = .ok (.iadd, 1) := by decide +kernel
theorem dR_formula_22 : decode bR_formula 22 = .ok (.iaload, 1) := by decide +kernel
theorem dR_formula_23 : decode bR_formula 23 = .ok (.i2l, 1) := by decide +kernel
theorem dR_formula_24 : decode bR_formula 24 = .ok (.lstore 9, 2) := by decide +kernel
theorem dR_formula_26 : decode bR_formula 26 = .ok (.iload_n 2, 1) := by decide +kernel
theorem dR_formula_27 : decode bR_formula 27 = .ok (.ifCond .ne 13, 3) := by decide +kernel
theorem dR_formula_30 : decode bR_formula 30 = .ok (.lload 9, 2) := by decide +kernel
theorem dR_formula_32 : decode bR_formula 32 = .ok (.lload_n 3, 1) := by decide +kernel
theorem dR_formula_33 : decode bR_formula 33 = .ok (.lmul, 1) := by decide +kernel
theorem dR_formula_34 : decode bR_formula 34 = .ok (.lload 7, 2) := by decide +kernel
theorem dR_formula_36 : decode bR_formula 36 = .ok (.lmul, 1) := by decide +kernel
theorem dR_formula_37 : decode bR_formula 37 = .ok (.goto 53, 3) := by decide +kernel
theorem dR_formula_40 : decode bR_formula 40 = .ok (.iload_n 2, 1) := by decide +kernel
theorem dR_formula_41 : decode bR_formula 41 = .ok (.iconst 1, 1) := by decide +kernel
theorem dR_formula_42 : decode bR_formula 42 = .ok (.if_icmp .ne 14, 3) := by decide +kernel
theorem dR_formula_45 : decode bR_formula 45 = .ok (.lload 9, 2) := by decide +kernel
theorem dR_formula_47 : decode bR_formula 47 = .ok (.lload 5, 2) := by decide +kernel
theorem dR_formula_49 : decode bR_formula 49 = .ok (.lmul, 1) := by decide +kernel
theorem dR_formula_50 : decode bR_formula 50 = .ok (.lload 7, 2) := by decide +kernel
theorem dR_formula_52 : decode bR_formula 52 = .ok (.lmul, 1) := by decide +kernel
theorem dR_formula_53 : decode bR_formula 53 = .ok (.goto 37, 3) := by decide +kernel
theorem dR_formula_56 : decode bR_formula 56 = .ok (.iload_n 2, 1) := by decide +kernel
theorem dR_formula_57 : decode bR_formula 57 = .ok (.iconst 2, 1) := by decide +kernel
theorem dR_formula_58 : decode bR_formula 58 = .ok (.if_icmp .ne 20, 3) := by decide +kernel
theorem dR_formula_61 : decode bR_formula 61 = .ok (.lload 9, 2) := by decide +kernel
theorem dR_formula_63 : decode bR_formula 63 = .ok (.lload_n 3, 1) := by decide +kernel
theorem dR_formula_64 : decode bR_formula 64 = .ok (.lload 5, 2) := by decide +kernel
theorem dR_formula_66 : decode bR_formula 66 = .ok (.ladd, 1) := by decide +kernel
theorem dR_formula_67 : decode bR_formula 67 = .ok (.lmul, 1) := by decide +kernel
theorem dR_formula_68 : decode bR_formula 68 = .ok (.lload 7, 2) := by decide +kernel
theorem dR_formula_70 : decode bR_formula 70 = .ok (.lmul, 1) := by decide +kernel
theorem dR_formula_71 : decode bR_formula 71 = .ok (.ldc2_w 28, 3) := by decide +kernel
theorem dR_formula_74 : decode bR_formula 74 = .ok (.ldiv, 1) := by decide +kernel
theorem dR_formula_75 : decode bR_formula 75 = .ok (.goto 15, 3) := by decide +kernel
theorem dR_formula_78 : decode bR_formula 78 = .ok (.lload 9, 2) := by decide +kernel
theorem dR_formula_80 : decode bR_formula 80 = .ok (.lload 7, 2) := by decide +kernel
theorem dR_formula_82 : decode bR_formula 82 = .ok (.lmul, 1) := by decide +kernel
theorem dR_formula_83 : decode bR_formula 83 = .ok (.lload 7, 2) := by decide +kernel
theorem dR_formula_85 : decode bR_formula 85 = .ok (.lmul, 1) := by decide +kernel
theorem dR_formula_86 : decode bR_formula 86 = .ok (.ldc2_w 103, 3) := by decide +kernel
theorem dR_formula_89 : decode bR_formula 89 = .ok (.lmul, 1) := by decide +kernel
theorem dR_formula_90 : decode bR_formula 90 = .ok (.lreturn, 1) := by decide +kernel
theorem dR_holds_0 : decode bR_holds 0 = .ok (.iload_n 2, 1) := by decide +kernel
theorem dR_holds_1 : decode bR_holds 1 = .ok (.i2l, 1) := by decide +kernel
theorem dR_holds_2 : decode bR_holds 2 = .ok (.lconst 1, 1) := by decide +kernel
theorem dR_holds_3 : decode bR_holds 3 = .ok (.ldc2_w 105, 3) := by decide +kernel
theorem dR_holds_6 : decode bR_holds 6 = .ok (.invokestatic 99, 3) := by decide +kernel
theorem dR_holds_9 : decode bR_holds 9 = .ok (.ifCond .eq 32, 3) := by decide +kernel
theorem dR_holds_12 : decode bR_holds 12 = .ok (.iload_n 3, 1) := by decide +kernel
theorem dR_holds_13 : decode bR_holds 13 = .ok (.i2l, 1) := by decide +kernel
theorem dR_holds_14 : decode bR_holds 14 = .ok (.lconst 1, 1) := by decide +kernel
theorem dR_holds_15 : decode bR_holds 15 = .ok (.ldc2_w 105, 3) := by decide +kernel
theorem dR_holds_18 : decode bR_holds 18 = .ok (.invokestatic 99, 3) := by decide +kernel
theorem dR_holds_21 : decode bR_holds 21 = .ok (.ifCond .eq 20, 3) := by decide +kernel
theorem dR_holds_24 : decode bR_holds 24 = .ok (.iload 4, 2) := by decide +kernel
theorem dR_holds_26 : decode bR_holds 26 = .ok (.i2l, 1) := by decide +kernel
theorem dR_holds_27 : decode bR_holds 27 = .ok (.lconst 0, 1) := by decide +kernel
theorem dR_holds_28 : decode bR_holds 28 = .ok (.ldc2_w 107, 3) := by decide +kernel
theorem dR_holds_31 : decode bR_holds 31 = .ok (.invokestatic 99, 3) := by decide +kernel
theorem dR_holds_34 : decode bR_holds 34 = .ok (.ifCond .eq 7, 3) := by decide +kernel
theorem dR_holds_37 : decode bR_holds 37 = .ok (.iconst 1, 1) := by decide +kernel
theorem dR_holds_38 : decode bR_holds 38 = .ok (.goto 4, 3) := by decide +kernel
theorem dR_holds_41 : decode bR_holds 41 = .ok (.iconst 0, 1) := by decide +kernel
theorem dR_holds_42 : decode bR_holds 42 = .ok (.istore 6, 2) := by decide +kernel
theorem dR_holds_44 : decode bR_holds 44 = .ok (.aload_n 0, 1) := by decide +kernel
theorem dR_holds_45 : decode bR_holds 45 = .ok (.iload_n 1, 1) := by decide +kernel
theorem dR_holds_46 : decode bR_holds 46 = .ok (.invokestatic 93, 3) := by decide +kernel
theorem dR_holds_49 : decode bR_holds 49 = .ok (.ifCond .eq 14, 3) := by decide +kernel
theorem dR_holds_52 : decode bR_holds 52 = .ok (.iload 5, 2) := by decide +kernel
theorem dR_holds_54 : decode bR_holds 54 = .ok (.ifCond .lt 9, 3) := by decide +kernel
theorem dR_holds_57 : decode bR_holds 57 = .ok (.iload 5, 2) := by decide +kernel
theorem dR_holds_59 : decode bR_holds 59 = .ok (.iconst 1, 1) := by decide +kernel
theorem dR_holds_60 : decode bR_holds 60 = .ok (.if_icmp .le 7, 3) := by decide +kernel
theorem dR_holds_63 : decode bR_holds 63 = .ok (.iconst 1, 1) := by decide +kernel
theorem dR_holds_64 : decode bR_holds 64 = .ok (.goto 13, 3) := by decide +kernel
theorem dR_holds_67 : decode bR_holds 67 = .ok (.iload 6, 2) := by decide +kernel
theorem dR_holds_69 : decode bR_holds 69 = .ok (.ifCond .eq 7, 3) := by decide +kernel
theorem dR_holds_72 : decode bR_holds 72 = .ok (.iconst 0, 1) := by decide +kernel
theorem dR_holds_73 : decode bR_holds 73 = .ok (.goto 4, 3) := by decide +kernel
theorem dR_holds_76 : decode bR_holds 76 = .ok (.iconst 2, 1) := by decide +kernel
theorem dR_holds_77 : decode bR_holds 77 = .ok (.putfield 52, 3) := by decide +kernel
theorem dR_holds_80 : decode bR_holds 80 = .ok (.aload_n 0, 1) := by decide +kernel
theorem dR_holds_81 : decode bR_holds 81 = .ok (.getfield 52, 3) := by decide +kernel
theorem dR_holds_84 : decode bR_holds 84 = .ok (.ifCond .le 5, 3) := by decide +kernel
theorem dR_holds_87 : decode bR_holds 87 = .ok (.lconst 0, 1) := by decide +kernel
theorem dR_holds_88 : decode bR_holds 88 = .ok (.lreturn, 1) := by decide +kernel
theorem dR_holds_89 : decode bR_holds 89 = .ok (.iconst 0, 1) := by decide +kernel
theorem dR_holds_90 : decode bR_holds 90 = .ok (.istore 7, 2) := by decide +kernel
end
section
theorem dR_holds_92 : decode bR_holds 92 = .ok (.iconst 1, 1) := by decide +kernel
theorem dR_holds_93 : decode bR_holds 93 = .ok (.istore 8, 2) := by decide +kernel
theorem dR_holds_95 : decode bR_holds 95 = .ok (.iload 8, 2) := by decide +kernel
theorem dR_holds_97 : decode bR_holds 97 = .ok (.iconst 4, 1) := by decide +kernel
theorem dR_holds_98 : decode bR_holds 98 = .ok (.if_icmp .ge 44, 3) := by decide +kernel
theorem dR_holds_101 : decode bR_holds 101 = .ok (.aload_n 0, 1) := by decide +kernel
theorem dR_holds_102 : decode bR_holds 102 = .ok (.iload_n 1, 1) := by decide +kernel
theorem dR_holds_103 : decode bR_holds 103 = .ok (.iload 8, 2) := by decide +kernel
theorem dR_holds_105 : decode bR_holds 105 = .ok (.iload_n 2, 1) := by decide +kernel
theorem dR_holds_106 : decode bR_holds 106 = .ok (.i2l, 1) := by decide +kernel
theorem dR_holds_107 : decode bR_holds 107 = .ok (.iload_n 3, 1) := by decide +kernel
theorem dR_holds_108 : decode bR_holds 108 = .ok (.i2l, 1) := by decide +kernel
theorem dR_holds_109 : decode bR_holds 109 = .ok (.invokevirtual 109, 3) := by decide +kernel
theorem dR_holds_112 : decode bR_holds 112 = .ok (.aload_n 0, 1) := by decide +kernel
theorem dR_holds_113 : decode bR_holds 113 = .ok (.iload_n 1, 1) := by decide +kernel
theorem dR_holds_114 : decode bR_holds 114 = .ok (.iload 7, 2) := by decide +kernel
theorem dR_holds_116 : decode bR_holds 116 = .ok (.iload_n 2, 1) := by decide +kernel
theorem dR_holds_117 : decode bR_holds 117 = .ok (.i2l, 1) := by decide +kernel
theorem dR_holds_118 : decode bR_holds 118 = .ok (.iload_n 3, 1) := by decide +kernel
theorem dR_holds_119 : decode bR_holds 119 = .ok (.i2l, 1) := by decide +kernel
theorem dR_holds_120 : decode bR_holds 120 = .ok (.invokevirtual 109, 3) := by decide +kernel
theorem dR_holds_123 : decode bR_holds 123 = .ok (.lcmp, 1) := by decide +kernel
theorem dR_holds_124 : decode bR_holds 124 = .ok (.ifCond .ge 8, 3) := by decide +kernel
theorem dR_holds_127 : decode bR_holds 127 = .ok (.iload 8, 2) := by decide +kernel
theorem dR_holds_129 : decode bR_holds 129 = .ok (.goto 5, 3) := by decide +kernel
theorem dR_holds_132 : decode bR_holds 132 = .ok (.iload 7, 2) := by decide +kernel
theorem dR_holds_134 : decode bR_holds 134 = .ok (.istore 7, 2) := by decide +kernel
theorem dR_holds_136 : decode bR_holds 136 = .ok (.iinc 8 1, 3) := by decide +kernel
theorem dR_holds_139 : decode bR_holds 139 = .ok (.goto (-44), 3) := by decide +kernel
theorem dR_holds_142 : decode bR_holds 142 = .ok (.iload 5, 2) := by decide +kernel
theorem dR_holds_144 : decode bR_holds 144 = .ok (.iconst 1, 1) := by decide +kernel
theorem dR_holds_145 : decode bR_holds 145 = .ok (.if_icmp .ne 9, 3) := by decide +kernel
theorem dR_holds_148 : decode bR_holds 148 = .ok (.iload 7, 2) := by decide +kernel
theorem dR_holds_150 : decode bR_holds 150 = .ok (.i2l, 1) := by decide +kernel
theorem dR_holds_151 : decode bR_holds 151 = .ok (.goto 35, 3) := by decide +kernel
theorem dR_holds_154 : decode bR_holds 154 = .ok (.aload_n 0, 1) := by decide +kernel
theorem dR_holds_155 : decode bR_holds 155 = .ok (.iload_n 1, 1) := by decide +kernel
theorem dR_holds_156 : decode bR_holds 156 = .ok (.iload 7, 2) := by decide +kernel
theorem dR_holds_158 : decode bR_holds 158 = .ok (.iload_n 2, 1) := by decide +kernel
theorem dR_holds_159 : decode bR_holds 159 = .ok (.i2l, 1) := by decide +kernel
theorem dR_holds_160 : decode bR_holds 160 = .ok (.iload_n 3, 1) := by decide +kernel
theorem dR_holds_161 : decode bR_holds 161 = .ok (.i2l, 1) := by decide +kernel
theorem dR_holds_162 : decode bR_holds 162 = .ok (.invokevirtual 109, 3) := by decide +kernel
theorem dR_holds_165 : decode bR_holds 165 = .ok (.ldc2_w 113, 3) := by decide +kernel
theorem dR_holds_168 : decode bR_holds 168 = .ok (.iload 4, 2) := by decide +kernel
theorem dR_holds_170 : decode bR_holds 170 = .ok (.i2l, 1) := by decide +kernel
theorem dR_holds_171 : decode bR_holds 171 = .ok (.lsub, 1) := by decide +kernel
theorem dR_holds_172 : decode bR_holds 172 = .ok (.lmul, 1) := by decide +kernel
theorem dR_holds_173 : decode bR_holds 173 = .ok (.ldc2_w 113, 3) := by decide +kernel
theorem dR_holds_176 : decode bR_holds 176 = .ok (.ldiv, 1) := by decide +kernel
theorem dR_holds_177 : decode bR_holds 177 = .ok (.aload_n 0, 1) := by decide +kernel
theorem dR_holds_178 : decode bR_holds 178 = .ok (.getfield 24, 3) := by decide +kernel
theorem dR_holds_181 : decode bR_holds 181 = .ok (.lmul, 1) := by decide +kernel
theorem dR_holds_182 : decode bR_holds 182 = .ok (.ldc2_w 22, 3) := by decide +kernel
theorem dR_holds_185 : decode bR_holds 185 = .ok (.ldiv, 1) := by decide +kernel
theorem dR_holds_186 : decode bR_holds 186 = .ok (.lreturn, 1) := by decide +kernel
theorem dR_all_0 : decode bR_all 0 = .ok (.ldc2_w 22, 3) := by decide +kernel
theorem dR_all_3 : decode bR_all 3 = .ok (.aload_n 0, 1) := by decide +kernel
theorem dR_all_4 : decode bR_all 4 = .ok (.getfield 30, 3) := by decide +kernel
theorem dR_all_7 : decode bR_all 7 = .ok (.lload_n 1, 1) := by decide +kernel
theorem dR_all_8 : decode bR_all 8 = .ok (.lconst 1, 1) := by decide +kernel
theorem dR_all_9 : decode bR_all 9 = .ok (.lsub, 1) := by decide +kernel
theorem dR_all_10 : decode bR_all 10 = .ok (.lmul, 1) := by decide +kernel
theorem dR_all_11 : decode bR_all 11 = .ok (.lsub, 1) := by decide +kernel
theorem dR_all_12 : decode bR_all 12 = .ok (.lstore 5, 2) := by decide +kernel
theorem dR_all_14 : decode bR_all 14 = .ok (.lload 5, 2) := by decide +kernel
theorem dR_all_16 : decode bR_all 16 = .ok (.ldc2_w 115, 3) := by decide +kernel
theorem dR_all_19 : decode bR_all 19 = .ok (.lcmp, 1) := by decide +kernel
theorem dR_all_20 : decode bR_all 20 = .ok (.ifCond .ge 9, 3) := by decide +kernel
theorem dR_all_23 : decode bR_all 23 = .ok (.ldc2_w 115, 3) := by decide +kernel
theorem dR_all_26 : decode bR_all 26 = .ok (.goto 5, 3) := by decide +kernel
theorem dR_all_29 : decode bR_all 29 = .ok (.lload 5, 2) := by decide +kernel
theorem dR_all_31 : decode bR_all 31 = .ok (.lstore 5, 2) := by decide +kernel
theorem dR_all_33 : decode bR_all 33 = .ok (.lload_n 1, 1) := by decide +kernel
theorem dR_all_34 : decode bR_all 34 = .ok (.lload_n 3, 1) := by decide +kernel
theorem dR_all_35 : decode bR_all 35 = .ok (.lmul, 1) := by decide +kernel
theorem dR_all_36 : decode bR_all 36 = .ok (.lload 5, 2) := by decide +kernel
theorem dR_all_38 : decode bR_all 38 = .ok (.lmul, 1) := by decide +kernel
theorem dR_all_39 : decode bR_all 39 = .ok (.ldc2_w 22, 3) := by decide +kernel
theorem dR_all_42 : decode bR_all 42 = .ok (.ldiv, 1) := by decide +kernel
theorem dR_all_43 : decode bR_all 43 = .ok (.lreturn, 1) := by decide +kernel
theorem dR_together_0 : decode bR_together 0 = .ok (.aload_n 0, 1) := by decide +kernel
theorem dR_together_1 : decode bR_together 1 = .ok (.iload_n 1, 1) := by decide +kernel
theorem dR_together_2 : decode bR_together 2 = .ok (.i2l, 1) := by decide +kernel
theorem dR_together_3 : decode bR_together 3 = .ok (.lconst 0, 1) := by decide +kernel
theorem dR_together_4 : decode bR_together 4 = .ok (.ldc2_w 105, 3) := by decide +kernel
theorem dR_together_7 : decode bR_together 7 = .ok (.invokestatic 99, 3) := by decide +kernel
theorem dR_together_10 : decode bR_together 10 = .ok (.ifCond .eq 18, 3) := by decide +kernel
theorem dR_together_13 : decode bR_together 13 = .ok (.lload_n 2, 1) := by decide +kernel
theorem dR_together_14 : decode bR_together 14 = .ok (.lconst 0, 1) := by decide +kernel
theorem dR_together_15 : decode bR_together 15 = .ok (.ldc2_w 117, 3) := by decide +kernel
theorem dR_together_18 : decode bR_together 18 = .ok (.invokestatic 99, 3) := by decide +kernel
theorem dR_together_21 : decode bR_together 21 = .ok (.ifCond .eq 7, 3) := by decide +kernel
theorem dR_together_24 : decode bR_together 24 = .ok (.iconst 0, 1) := by decide +kernel
theorem dR_together_25 : decode bR_together 25 = .ok (.goto 4, 3) := by decide +kernel
theorem dR_together_28 : decode bR_together 28 = .ok (.iconst 1, 1) := by decide +kernel
theorem dR_together_29 : decode bR_together 29 = .ok (.putfield 52, 3) := by decide +kernel
theorem dR_together_32 : decode bR_together 32 = .ok (.aload_n 0, 1) := by decide +kernel
theorem dR_together_33 : decode bR_together 33 = .ok (.getfield 52, 3) := by decide +kernel
theorem dR_together_36 : decode bR_together 36 = .ok (.ifCond .le 7, 3) := by decide +kernel
theorem dR_together_39 : decode bR_together 39 = .ok (.lconst 0, 1) := by decide +kernel
theorem dR_together_40 : decode bR_together 40 = .ok (.goto 10, 3) := by decide +kernel
theorem dR_together_43 : decode bR_together 43 = .ok (.aload_n 0, 1) := by decide +kernel
theorem dR_together_44 : decode bR_together 44 = .ok (.iload_n 1, 1) := by decide +kernel
theorem dR_together_45 : decode bR_together 45 = .ok (.i2l, 1) := by decide +kernel
theorem dR_together_46 : decode bR_together 46 = .ok (.lload_n 2, 1) := by decide +kernel
theorem dR_together_47 : decode bR_together 47 = .ok (.invokevirtual 119, 3) := by decide +kernel
theorem dR_together_50 : decode bR_together 50 = .ok (.lreturn, 1) := by decide +kernel
theorem dR_count_0 : decode bR_count 0 = .ok (.aload_n 0, 1) := by decide +kernel
theorem dR_count_1 : decode bR_count 1 = .ok (.lload_n 1, 1) := by decide +kernel
theorem dR_count_2 : decode bR_count 2 = .ok (.lconst 0, 1) := by decide +kernel
theorem dR_count_3 : decode bR_count 3 = .ok (.ldc2_w 117, 3) := by decide +kernel
theorem dR_count_6 : decode bR_count 6 = .ok (.invokestatic 99, 3) := by decide +kernel
theorem dR_count_9 : decode bR_count 9 = .ok (.ifCond .eq 18, 3) := by decide +kernel
theorem dR_count_12 : decode bR_count 12 = .ok (.lload_n 3, 1) := by decide +kernel
theorem dR_count_13 : decode bR_count 13 = .ok (.lconst 0, 1) := by decide +kernel
theorem dR_count_14 : decode bR_count 14 = .ok (.ldc2_w 117, 3) := by decide +kernel
theorem dR_count_17 : decode bR_count 17 = .ok (.invokestatic 99, 3) := by decide +kernel
theorem dR_count_20 : decode bR_count 20 = .ok (.ifCond .eq 7, 3) := by decide +kernel
theorem dR_count_23 : decode bR_count 23 = .ok (.iconst 0, 1) := by decide +kernel
theorem dR_count_24 : decode bR_count 24 = .ok (.goto 4, 3) := by decide +kernel
theorem dR_count_27 : decode bR_count 27 = .ok (.iconst 1, 1) := by decide +kernel
theorem dR_count_28 : decode bR_count 28 = .ok (.putfield 52, 3) := by decide +kernel
theorem dR_count_31 : decode bR_count 31 = .ok (.iconst 1, 1) := by decide +kernel
theorem dR_count_32 : decode bR_count 32 = .ok (.istore 5, 2) := by decide +kernel
theorem dR_count_34 : decode bR_count 34 = .ok (.aload_n 0, 1) := by decide +kernel
theorem dR_count_35 : decode bR_count 35 = .ok (.getfield 52, 3) := by decide +kernel
theorem dR_count_38 : decode bR_count 38 = .ok (.ifCond .ne 29, 3) := by decide +kernel
theorem dR_count_41 : decode bR_count 41 = .ok (.iload 5, 2) := by decide +kernel
theorem dR_count_43 : decode bR_count 43 = .ok (.bipush 100, 2) := by decide +kernel
theorem dR_count_45 : decode bR_count 45 = .ok (.if_icmp .gt 22, 3) := by decide +kernel
theorem dR_count_48 : decode bR_count 48 = .ok (.aload_n 0, 1) := by decide +kernel
theorem dR_count_49 : decode bR_count 49 = .ok (.iload 5, 2) := by decide +kernel
theorem dR_count_51 : decode bR_count 51 = .ok (.i2l, 1) := by decide +kernel
theorem dR_count_52 : decode bR_count 52 = .ok (.lload_n 3, 1) := by decide +kernel
theorem dR_count_53 : decode bR_count 53 = .ok (.invokevirtual 119, 3) := by decide +kernel
theorem dR_count_56 : decode bR_count 56 = .ok (.lload_n 1, 1) := by decide +kernel
theorem dR_count_57 : decode bR_count 57 = .ok (.lcmp, 1) := by decide +kernel
theorem dR_count_58 : decode bR_count 58 = .ok (.ifCond .ge 9, 3) := by decide +kernel
theorem dR_count_61 : decode bR_count 61 = .ok (.iinc 5 1, 3) := by decide +kernel
theorem dR_count_64 : decode bR_count 64 = .ok (.goto (-30), 3) := by decide +kernel
theorem dR_count_67 : decode bR_count 67 = .ok (.aload_n 0, 1) := by decide +kernel
theorem dR_count_68 : decode bR_count 68 = .ok (.getfield 52, 3) := by decide +kernel
theorem dR_count_71 : decode bR_count 71 = .ok (.ifCond .le 7, 3) := by decide +kernel
theorem dR_count_74 : decode bR_count 74 = .ok (.iconst 0, 1) := by decide +kernel
theorem dR_count_75 : decode bR_count 75 = .ok (.goto 16, 3) := by decide +kernel
theorem dR_count_78 : decode bR_count 78 = .ok (.iload 5, 2) := by decide +kernel
theorem dR_count_80 : decode bR_count 80 = .ok (.bipush 100, 2) := by decide +kernel
theorem dR_count_82 : decode bR_count 82 = .ok (.if_icmp .le 7, 3) := by decide +kernel
theorem dR_count_85 : decode bR_count 85 = .ok (.iconst (-1), 1) := by decide +kernel
theorem dR_count_86 : decode bR_count 86 = .ok (.goto 5, 3) := by decide +kernel
theorem dR_count_89 : decode bR_count 89 = .ok (.iload 5, 2) := by decide +kernel
theorem dR_count_91 : decode bR_count 91 = .ok (.ireturn, 1) := by decide +kernel
theorem dR_space_0 : decode bR_space 0 = .ok (.aload_n 0, 1) := by decide +kernel
theorem dR_space_1 : decode bR_space 1 = .ok (.getfield 16, 3) := by decide +kernel
theorem dR_space_4 : decode bR_space 4 = .ok (.bipush 7, 2) := by decide +kernel
theorem dR_space_6 : decode bR_space 6 = .ok (.iload_n 1, 1) := by decide +kernel
theorem dR_space_7 : decode bR_space 7 = .ok (.imul, 1) := by decide +kernel
theorem dR_space_8 : decode bR_space 8 = .ok (.iload_n 2, 1) := by decide +kernel
theorem dR_space_9 : decode bR_space 9 = .ok (.iadd, 1) := by decide +kernel
theorem dR_space_10 : decode bR_space 10 = .ok (.iaload, 1) := by decide +kernel
theorem dR_space_11 : decode bR_space 11 = .ok (.i2l, 1) := by decide +kernel
theorem dR_space_12 : decode bR_space 12 = .ok (.aload_n 0, 1) := by decide +kernel
theorem dR_space_13 : decode bR_space 13 = .ok (.getfield 16, 3) := by decide +kernel
theorem dR_space_16 : decode bR_space 16 = .ok (.bipush 7, 2) := by decide +kernel
theorem dR_space_18 : decode bR_space 18 = .ok (.iload_n 1, 1) := by decide +kernel
theorem dR_space_19 : decode bR_space 19 = .ok (.imul, 1) := by decide +kernel
theorem dR_space_20 : decode bR_space 20 = .ok (.iaload, 1) := by decide +kernel
theorem dR_space_21 : decode bR_space 21 = .ok (.i2l, 1) := by decide +kernel
theorem dR_space_22 : decode bR_space 22 = .ok (.lmul, 1) := by decide +kernel
theorem dR_space_23 : decode bR_space 23 = .ok (.lreturn, 1) := by decide +kernel
theorem dR_fits_0 : decode bR_fits 0 = .ok (.lload_n 0, 1) := by decide +kernel
theorem dR_fits_1 : decode bR_fits 1 = .ok (.ldc2_w 28, 3) := by decide +kernel
theorem dR_fits_4 : decode bR_fits 4 = .ok (.lload_n 2, 1) := by decide +kernel
theorem dR_fits_5 : decode bR_fits 5 = .ok (.lmul, 1) := by decide +kernel
theorem dR_fits_6 : decode bR_fits 6 = .ok (.lsub, 1) := by decide +kernel
theorem dR_fits_7 : decode bR_fits 7 = .ok (.lstore 6, 2) := by decide +kernel
theorem dR_fits_9 : decode bR_fits 9 = .ok (.lload 6, 2) := by decide +kernel
theorem dR_fits_11 : decode bR_fits 11 = .ok (.lconst 0, 1) := by decide +kernel
theorem dR_fits_12 : decode bR_fits 12 = .ok (.lcmp, 1) := by decide +kernel
theorem dR_fits_13 : decode bR_fits 13 = .ok (.ifCond .ge 7, 3) := by decide +kernel
theorem dR_fits_16 : decode bR_fits 16 = .ok (.lconst 0, 1) := by decide +kernel
theorem dR_fits_17 : decode bR_fits 17 = .ok (.goto 10, 3) := by decide +kernel
theorem dR_fits_20 : decode bR_fits 20 = .ok (.lload 6, 2) := by decide +kernel
theorem dR_fits_22 : decode bR_fits 22 = .ok (.lload 4, 2) := by decide +kernel
theorem dR_fits_24 : decode bR_fits 24 = .ok (.ldiv, 1) := by decide +kernel
theorem dR_fits_25 : decode bR_fits 25 = .ok (.lconst 1, 1) := by decide +kernel
theorem dR_fits_26 : decode bR_fits 26 = .ok (.ladd, 1) := by decide +kernel
theorem dR_fits_27 : decode bR_fits 27 = .ok (.lreturn, 1) := by decide +kernel
theorem dR_pattern_0 : decode bR_pattern 0 = .ok (.iload_n 2, 1) := by decide +kernel
theorem dR_pattern_1 : decode bR_pattern 1 = .ok (.i2l, 1) := by decide +kernel
theorem dR_pattern_2 : decode bR_pattern 2 = .ok (.lconst 1, 1) := by decide +kernel
theorem dR_pattern_3 : decode bR_pattern 3 = .ok (.ldc2_w 123, 3) := by decide +kernel
theorem dR_pattern_6 : decode bR_pattern 6 = .ok (.invokestatic 99, 3) := by decide +kernel
theorem dR_pattern_9 : decode bR_pattern 9 = .ok (.ifCond .eq 32, 3) := by decide +kernel
theorem dR_pattern_12 : decode bR_pattern 12 = .ok (.iload_n 3, 1) := by decide +kernel
theorem dR_pattern_13 : decode bR_pattern 13 = .ok (.i2l, 1) := by decide +kernel
theorem dR_pattern_14 : decode bR_pattern 14 = .ok (.lconst 1, 1) := by decide +kernel
theorem dR_pattern_15 : decode bR_pattern 15 = .ok (.ldc2_w 123, 3) := by decide +kernel
theorem dR_pattern_18 : decode bR_pattern 18 = .ok (.invokestatic 99, 3) := by decide +kernel
theorem dR_pattern_21 : decode bR_pattern 21 = .ok (.ifCond .eq 20, 3) := by decide +kernel
theorem dR_pattern_24 : decode bR_pattern 24 = .ok (.iload 4, 2) := by decide +kernel
theorem dR_pattern_26 : decode bR_pattern 26 = .ok (.i2l, 1) := by decide +kernel
theorem dR_pattern_27 : decode bR_pattern 27 = .ok (.lconst 1, 1) := by decide +kernel
theorem dR_pattern_28 : decode bR_pattern 28 = .ok (.ldc2_w 22, 3) := by decide +kernel
theorem dR_pattern_31 : decode bR_pattern 31 = .ok (.invokestatic 99, 3) := by decide +kernel
theorem dR_pattern_34 : decode bR_pattern 34 = .ok (.ifCond .eq 7, 3) := by decide +kernel
theorem dR_pattern_37 : decode bR_pattern 37 = .ok (.iconst 1, 1) := by decide +kernel
theorem dR_pattern_38 : decode bR_pattern 38 = .ok (.goto 4, 3) := by decide +kernel
theorem dR_pattern_41 : decode bR_pattern 41 = .ok (.iconst 0, 1) := by decide +kernel
theorem dR_pattern_42 : decode bR_pattern 42 = .ok (.istore 5, 2) := by decide +kernel
theorem dR_pattern_44 : decode bR_pattern 44 = .ok (.aload_n 0, 1) := by decide +kernel
theorem dR_pattern_45 : decode bR_pattern 45 = .ok (.iload_n 1, 1) := by decide +kernel
theorem dR_pattern_46 : decode bR_pattern 46 = .ok (.invokestatic 93, 3) := by decide +kernel
theorem dR_pattern_49 : decode bR_pattern 49 = .ok (.ifCond .ne 7, 3) := by decide +kernel
theorem dR_pattern_52 : decode bR_pattern 52 = .ok (.iconst 1, 1) := by decide +kernel
theorem dR_pattern_53 : decode bR_pattern 53 = .ok (.goto 13, 3) := by decide +kernel
theorem dR_pattern_56 : decode bR_pattern 56 = .ok (.iload 5, 2) := by decide +kernel
theorem dR_pattern_58 : decode bR_pattern 58 = .ok (.ifCond .eq 7, 3) := by decide +kernel
theorem dR_pattern_61 : decode bR_pattern 61 = .ok (.iconst 0, 1) := by decide +kernel
theorem dR_pattern_62 : decode bR_pattern 62 = .ok (.goto 4, 3) := by decide +kernel
theorem dR_pattern_65 : decode bR_pattern 65 = .ok (.iconst 2, 1) := by decide +kernel
theorem dR_pattern_66 : decode bR_pattern 66 = .ok (.putfield 52, 3) := by decide +kernel
theorem dR_pattern_69 : decode bR_pattern 69 = .ok (.aload_n 0, 1) := by decide +kernel
theorem dR_pattern_70 : decode bR_pattern 70 = .ok (.getfield 52, 3) := by decide +kernel
theorem dR_pattern_73 : decode bR_pattern 73 = .ok (.ifCond .le 5, 3) := by decide +kernel
theorem dR_pattern_76 : decode bR_pattern 76 = .ok (.iconst 0, 1) := by decide +kernel
theorem dR_pattern_77 : decode bR_pattern 77 = .ok (.ireturn, 1) := by decide +kernel
theorem dR_pattern_78 : decode bR_pattern 78 = .ok (.iload_n 2, 1) := by decide +kernel
theorem dR_pattern_79 : decode bR_pattern 79 = .ok (.i2l, 1) := by decide +kernel
theorem dR_pattern_80 : decode bR_pattern 80 = .ok (.aload_n 0, 1) := by decide +kernel
theorem dR_pattern_81 : decode bR_pattern 81 = .ok (.iload_n 1, 1) := by decide +kernel
theorem dR_pattern_82 : decode bR_pattern 82 = .ok (.iconst 3, 1) := by decide +kernel
theorem dR_pattern_83 : decode bR_pattern 83 = .ok (.invokevirtual 125, 3) := by decide +kernel
theorem dR_pattern_86 : decode bR_pattern 86 = .ok (.aload_n 0, 1) := by decide +kernel
theorem dR_pattern_87 : decode bR_pattern 87 = .ok (.iload_n 1, 1) := by decide +kernel
theorem dR_pattern_88 : decode bR_pattern 88 = .ok (.iconst 4, 1) := by decide +kernel
theorem dR_pattern_89 : decode bR_pattern 89 = .ok (.invokevirtual 125, 3) := by decide +kernel
theorem dR_pattern_92 : decode bR_pattern 92 = .ok (.invokestatic 129, 3) := by decide +kernel
theorem dR_pattern_95 : decode bR_pattern 95 = .ok (.lstore 6, 2) := by decide +kernel
theorem dR_pattern_97 : decode bR_pattern 97 = .ok (.iload_n 3, 1) := by decide +kernel
theorem dR_pattern_98 : decode bR_pattern 98 = .ok (.i2l, 1) := by decide +kernel
theorem dR_pattern_99 : decode bR_pattern 99 = .ok (.aload_n 0, 1) := by decide +kernel
theorem dR_pattern_100 : decode bR_pattern 100 = .ok (.iload_n 1, 1) := by decide +kernel
theorem dR_pattern_101 : decode bR_pattern 101 = .ok (.iconst 2, 1) := by decide +kernel
theorem dR_pattern_102 : decode bR_pattern 102 = .ok (.invokevirtual 125, 3) := by decide +kernel
theorem dR_pattern_105 : decode bR_pattern 105 = .ok (.aload_n 0, 1) := by decide +kernel
theorem dR_pattern_106 : decode bR_pattern 106 = .ok (.iload_n 1, 1) := by decide +kernel
theorem dR_pattern_107 : decode bR_pattern 107 = .ok (.iconst 5, 1) := by decide +kernel
theorem dR_pattern_108 : decode bR_pattern 108 = .ok (.invokevirtual 125, 3) := by decide +kernel
theorem dR_pattern_111 : decode bR_pattern 111 = .ok (.invokestatic 129, 3) := by decide +kernel
theorem dR_pattern_114 : decode bR_pattern 114 = .ok (.lstore 8, 2) := by decide +kernel
theorem dR_pattern_116 : decode bR_pattern 116 = .ok (.lload 6, 2) := by decide +kernel
theorem dR_pattern_118 : decode bR_pattern 118 = .ok (.lload 8, 2) := by decide +kernel
theorem dR_pattern_120 : decode bR_pattern 120 = .ok (.lmul, 1) := by decide +kernel
theorem dR_pattern_121 : decode bR_pattern 121 = .ok (.iload 4, 2) := by decide +kernel
theorem dR_pattern_123 : decode bR_pattern 123 = .ok (.i2l, 1) := by decide +kernel
theorem dR_pattern_124 : decode bR_pattern 124 = .ok (.lcmp, 1) := by decide +kernel
theorem dR_pattern_125 : decode bR_pattern 125 = .ok (.ifCond .ge 5, 3) := by decide +kernel
theorem dR_pattern_128 : decode bR_pattern 128 = .ok (.iconst 0, 1) := by decide +kernel
theorem dR_pattern_129 : decode bR_pattern 129 = .ok (.ireturn, 1) := by decide +kernel
theorem dR_pattern_130 : decode bR_pattern 130 = .ok (.aload_n 0, 1) := by decide +kernel
theorem dR_pattern_131 : decode bR_pattern 131 = .ok (.iload_n 1, 1) := by decide +kernel
theorem dR_pattern_132 : decode bR_pattern 132 = .ok (.putfield 33, 3) := by decide +kernel
theorem dR_pattern_135 : decode bR_pattern 135 = .ok (.aload_n 0, 1) := by decide +kernel
theorem dR_pattern_136 : decode bR_pattern 136 = .ok (.iload 4, 2) := by decide +kernel
theorem dR_pattern_138 : decode bR_pattern 138 = .ok (.putfield 133, 3) := by decide +kernel
theorem dR_pattern_141 : decode bR_pattern 141 = .ok (.aload_n 0, 1) := by decide +kernel
theorem dR_pattern_142 : decode bR_pattern 142 = .ok (.lload 6, 2) := by decide +kernel
theorem dR_pattern_144 : decode bR_pattern 144 = .ok (.l2i, 1) := by decide +kernel
theorem dR_pattern_145 : decode bR_pattern 145 = .ok (.putfield 136, 3) := by decide +kernel
theorem dR_pattern_148 : decode bR_pattern 148 = .ok (.aload_n 0, 1) := by decide +kernel
theorem dR_pattern_149 : decode bR_pattern 149 = .ok (.getfield 37, 3) := by decide +kernel
theorem dR_pattern_152 : decode bR_pattern 152 = .ok (.iconst 0, 1) := by decide +kernel
theorem dR_pattern_153 : decode bR_pattern 153 = .ok (.aload_n 0, 1) := by decide +kernel
theorem dR_pattern_154 : decode bR_pattern 154 = .ok (.iload_n 1, 1) := by decide +kernel
theorem dR_pattern_155 : decode bR_pattern 155 = .ok (.iconst 3, 1) := by decide +kernel
theorem dR_pattern_156 : decode bR_pattern 156 = .ok (.invokevirtual 125, 3) := by decide +kernel
theorem dR_pattern_159 : decode bR_pattern 159 = .ok (.l2i, 1) := by decide +kernel
theorem dR_pattern_160 : decode bR_pattern 160 = .ok (.iastore, 1) := by decide +kernel
theorem dR_pattern_161 : decode bR_pattern 161 = .ok (.aload_n 0, 1) := by decide +kernel
theorem dR_pattern_162 : decode bR_pattern 162 = .ok (.getfield 37, 3) := by decide +kernel
theorem dR_pattern_165 : decode bR_pattern 165 = .ok (.iconst 1, 1) := by decide +kernel
theorem dR_pattern_166 : decode bR_pattern 166 = .ok (.aload_n 0, 1) := by decide +kernel
theorem dR_pattern_167 : decode bR_pattern 167 = .ok (.iload_n 1, 1) := by decide +kernel
theorem dR_pattern_168 : decode bR_pattern 168 = .ok (.iconst 4, 1) := by decide +kernel
theorem dR_pattern_169 : decode bR_pattern 169 = .ok (.invokevirtual 125, 3) := by decide +kernel
theorem dR_pattern_172 : decode bR_pattern 172 = .ok (.l2i, 1) := by decide +kernel
theorem dR_pattern_173 : decode bR_pattern 173 = .ok (.iastore, 1) := by decide +kernel
theorem dR_pattern_174 : decode bR_pattern 174 = .ok (.aload_n 0, 1) := by decide +kernel
theorem dR_pattern_175 : decode bR_pattern 175 = .ok (.getfield 37, 3) := by decide +kernel
theorem dR_pattern_178 : decode bR_pattern 178 = .ok (.iconst 2, 1) := by decide +kernel
theorem dR_pattern_179 : decode bR_pattern 179 = .ok (.aload_n 0, 1) := by decide +kernel
theorem dR_pattern_180 : decode bR_pattern 180 = .ok (.iload_n 1, 1) := by decide +kernel
theorem dR_pattern_181 : decode bR_pattern 181 = .ok (.iconst 2, 1) := by decide +kernel
theorem dR_pattern_182 : decode bR_pattern 182 = .ok (.invokevirtual 125, 3) := by decide +kernel
theorem dR_pattern_185 : decode bR_pattern 185 = .ok (.l2i, 1) := by decide +kernel
theorem dR_pattern_186 : decode bR_pattern 186 = .ok (.iastore, 1) := by decide +kernel
theorem dR_pattern_187 : decode bR_pattern 187 = .ok (.aload_n 0, 1) := by decide +kernel
theorem dR_pattern_188 : decode bR_pattern 188 = .ok (.getfield 37, 3) := by decide +kernel
theorem dR_pattern_191 : decode bR_pattern 191 = .ok (.iconst 3, 1) := by decide +kernel
theorem dR_pattern_192 : decode bR_pattern 192 = .ok (.aload_n 0, 1) := by decide +kernel
theorem dR_pattern_193 : decode bR_pattern 193 = .ok (.iload_n 1, 1) := by decide +kernel
theorem dR_pattern_194 : decode bR_pattern 194 = .ok (.iconst 5, 1) := by decide +kernel
theorem dR_pattern_195 : decode bR_pattern 195 = .ok (.invokevirtual 125, 3) := by decide +kernel
theorem dR_pattern_198 : decode bR_pattern 198 = .ok (.l2i, 1) := by decide +kernel
theorem dR_pattern_199 : decode bR_pattern 199 = .ok (.iastore, 1) := by decide +kernel
theorem dR_pattern_200 : decode bR_pattern 200 = .ok (.iconst 1, 1) := by decide +kernel
theorem dR_pattern_201 : decode bR_pattern 201 = .ok (.ireturn, 1) := by decide +kernel
theorem dR_at_0 : decode bR_at 0 = .ok (.aload_n 0, 1) := by decide +kernel
theorem dR_at_1 : decode bR_at 1 = .ok (.aload_n 0, 1) := by decide +kernel
theorem dR_at_2 : decode bR_at 2 = .ok (.getfield 33, 3) := by decide +kernel
theorem dR_at_5 : decode bR_at 5 = .ok (.iconst (-1), 1) := by decide +kernel
theorem dR_at_6 : decode bR_at 6 = .ok (.if_icmp .ne 7, 3) := by decide +kernel
theorem dR_at_9 : decode bR_at 9 = .ok (.iconst 1, 1) := by decide +kernel
theorem dR_at_10 : decode bR_at 10 = .ok (.goto 33, 3) := by decide +kernel
theorem dR_at_13 : decode bR_at 13 = .ok (.iload_n 1, 1) := by decide +kernel
theorem dR_at_14 : decode bR_at 14 = .ok (.i2l, 1) := by decide +kernel
theorem dR_at_15 : decode bR_at 15 = .ok (.lconst 0, 1) := by decide +kernel
theorem dR_at_16 : decode bR_at 16 = .ok (.aload_n 0, 1) := by decide +kernel
theorem dR_at_17 : decode bR_at 17 = .ok (.getfield 133, 3) := by decide +kernel
theorem dR_at_20 : decode bR_at 20 = .ok (.i2l, 1) := by decide +kernel
theorem dR_at_21 : decode bR_at 21 = .ok (.lconst 1, 1) := by decide +kernel
theorem dR_at_22 : decode bR_at 22 = .ok (.lsub, 1) := by decide +kernel
theorem dR_at_23 : decode bR_at 23 = .ok (.invokestatic 99, 3) := by decide +kernel
theorem dR_at_26 : decode bR_at 26 = .ok (.ifCond .eq 16, 3) := by decide +kernel
theorem dR_at_29 : decode bR_at 29 = .ok (.iload_n 2, 1) := by decide +kernel
theorem dR_at_30 : decode bR_at 30 = .ok (.ifCond .eq 8, 3) := by decide +kernel
theorem dR_at_33 : decode bR_at 33 = .ok (.iload_n 2, 1) := by decide +kernel
theorem dR_at_34 : decode bR_at 34 = .ok (.iconst 1, 1) := by decide +kernel
theorem dR_at_35 : decode bR_at 35 = .ok (.if_icmp .ne 7, 3) := by decide +kernel
theorem dR_at_38 : decode bR_at 38 = .ok (.iconst 0, 1) := by decide +kernel
theorem dR_at_39 : decode bR_at 39 = .ok (.goto 4, 3) := by decide +kernel
theorem dR_at_42 : decode bR_at 42 = .ok (.iconst 2, 1) := by decide +kernel
theorem dR_at_43 : decode bR_at 43 = .ok (.putfield 52, 3) := by decide +kernel
theorem dR_at_46 : decode bR_at 46 = .ok (.aload_n 0, 1) := by decide +kernel
theorem dR_at_47 : decode bR_at 47 = .ok (.getfield 52, 3) := by decide +kernel
theorem dR_at_50 : decode bR_at 50 = .ok (.ifCond .le 5, 3) := by decide +kernel
theorem dR_at_53 : decode bR_at 53 = .ok (.iconst 0, 1) := by decide +kernel
theorem dR_at_54 : decode bR_at 54 = .ok (.ireturn, 1) := by decide +kernel
theorem dR_at_55 : decode bR_at 55 = .ok (.iload_n 2, 1) := by decide +kernel
theorem dR_at_56 : decode bR_at 56 = .ok (.ifCond .ne 26, 3) := by decide +kernel
theorem dR_at_59 : decode bR_at 59 = .ok (.aload_n 0, 1) := by decide +kernel
theorem dR_at_60 : decode bR_at 60 = .ok (.getfield 37, 3) := by decide +kernel
theorem dR_at_63 : decode bR_at 63 = .ok (.iconst 0, 1) := by decide +kernel
theorem dR_at_64 : decode bR_at 64 = .ok (.iaload, 1) := by decide +kernel
theorem dR_at_65 : decode bR_at 65 = .ok (.iload_n 1, 1) := by decide +kernel
theorem dR_at_66 : decode bR_at 66 = .ok (.aload_n 0, 1) := by decide +kernel
theorem dR_at_67 : decode bR_at 67 = .ok (.getfield 136, 3) := by decide +kernel
theorem dR_at_70 : decode bR_at 70 = .ok (.irem, 1) := by decide +kernel
theorem dR_at_71 : decode bR_at 71 = .ok (.aload_n 0, 1) := by decide +kernel
theorem dR_at_72 : decode bR_at 72 = .ok (.getfield 37, 3) := by decide +kernel
theorem dR_at_75 : decode bR_at 75 = .ok (.iconst 1, 1) := by decide +kernel
theorem dR_at_76 : decode bR_at 76 = .ok (.iaload, 1) := by decide +kernel
theorem dR_at_77 : decode bR_at 77 = .ok (.imul, 1) := by decide +kernel
theorem dR_at_78 : decode bR_at 78 = .ok (.iadd, 1) := by decide +kernel
theorem dR_at_79 : decode bR_at 79 = .ok (.goto 23, 3) := by decide +kernel
theorem dR_at_82 : decode bR_at 82 = .ok (.aload_n 0, 1) := by decide +kernel
theorem dR_at_83 : decode bR_at 83 = .ok (.getfield 37, 3) := by decide +kernel
theorem dR_at_86 : decode bR_at 86 = .ok (.iconst 2, 1) := by decide +kernel
theorem dR_at_87 : decode bR_at 87 = .ok (.iaload, 1) := by decide +kernel
theorem dR_at_88 : decode bR_at 88 = .ok (.iload_n 1, 1) := by decide +kernel
theorem dR_at_89 : decode bR_at 89 = .ok (.aload_n 0, 1) := by decide +kernel
theorem dR_at_90 : decode bR_at 90 = .ok (.getfield 136, 3) := by decide +kernel
theorem dR_at_93 : decode bR_at 93 = .ok (.idiv, 1) := by decide +kernel
theorem dR_at_94 : decode bR_at 94 = .ok (.aload_n 0, 1) := by decide +kernel
theorem dR_at_95 : decode bR_at 95 = .ok (.getfield 37, 3) := by decide +kernel
theorem dR_at_98 : decode bR_at 98 = .ok (.iconst 3, 1) := by decide +kernel
theorem dR_at_99 : decode bR_at 99 = .ok (.iaload, 1) := by decide +kernel
theorem dR_at_100 : decode bR_at 100 = .ok (.imul, 1) := by decide +kernel
theorem dR_at_101 : decode bR_at 101 = .ok (.iadd, 1) := by decide +kernel
theorem dR_at_102 : decode bR_at 102 = .ok (.ireturn, 1) := by decide +kernel
theorem dR_place_0 : decode bR_place 0 = .ok (.aload_n 0, 1) := by decide +kernel
theorem dR_place_1 : decode bR_place 1 = .ok (.iload_n 1, 1) := by decide +kernel
theorem dR_place_2 : decode bR_place 2 = .ok (.i2l, 1) := by decide +kernel
theorem dR_place_3 : decode bR_place 3 = .ok (.lconst 0, 1) := by decide +kernel
theorem dR_place_4 : decode bR_place 4 = .ok (.ldc2_w 123, 3) := by decide +kernel
theorem dR_place_7 : decode bR_place 7 = .ok (.invokestatic 99, 3) := by decide +kernel
theorem dR_place_10 : decode bR_place 10 = .ok (.ifCond .eq 15, 3) := by decide +kernel
theorem dR_place_13 : decode bR_place 13 = .ok (.iload_n 2, 1) := by decide +kernel
theorem dR_place_14 : decode bR_place 14 = .ok (.i2l, 1) := by decide +kernel
theorem dR_place_15 : decode bR_place 15 = .ok (.lconst 0, 1) := by decide +kernel
theorem dR_place_16 : decode bR_place 16 = .ok (.ldc2_w 123, 3) := by decide +kernel
theorem dR_place_19 : decode bR_place 19 = .ok (.invokestatic 99, 3) := by decide +kernel
theorem dR_place_22 : decode bR_place 22 = .ok (.ifCond .ne 7, 3) := by decide +kernel
theorem dR_place_25 : decode bR_place 25 = .ok (.iconst 1, 1) := by decide +kernel
theorem dR_place_26 : decode bR_place 26 = .ok (.goto 17, 3) := by decide +kernel
theorem dR_place_29 : decode bR_place 29 = .ok (.aload_n 0, 1) := by decide +kernel
theorem dR_place_30 : decode bR_place 30 = .ok (.getfield 139, 3) := by decide +kernel
theorem dR_place_33 : decode bR_place 33 = .ok (.bipush 32, 2) := by decide +kernel
theorem dR_place_35 : decode bR_place 35 = .ok (.if_icmp .ne 7, 3) := by decide +kernel
theorem dR_place_38 : decode bR_place 38 = .ok (.iconst 2, 1) := by decide +kernel
theorem dR_place_39 : decode bR_place 39 = .ok (.goto 4, 3) := by decide +kernel
theorem dR_place_42 : decode bR_place 42 = .ok (.iconst 0, 1) := by decide +kernel
theorem dR_place_43 : decode bR_place 43 = .ok (.putfield 52, 3) := by decide +kernel
theorem dR_place_46 : decode bR_place 46 = .ok (.aload_n 0, 1) := by decide +kernel
theorem dR_place_47 : decode bR_place 47 = .ok (.getfield 52, 3) := by decide +kernel
theorem dR_place_50 : decode bR_place 50 = .ok (.ifCond .le 5, 3) := by decide +kernel
theorem dR_place_53 : decode bR_place 53 = .ok (.iconst 0, 1) := by decide +kernel
theorem dR_place_54 : decode bR_place 54 = .ok (.ireturn, 1) := by decide +kernel
theorem dR_place_55 : decode bR_place 55 = .ok (.aload_n 0, 1) := by decide +kernel
theorem dR_place_56 : decode bR_place 56 = .ok (.getfield 40, 3) := by decide +kernel
theorem dR_place_59 : decode bR_place 59 = .ok (.aload_n 0, 1) := by decide +kernel
theorem dR_place_60 : decode bR_place 60 = .ok (.getfield 139, 3) := by decide +kernel
theorem dR_place_63 : decode bR_place 63 = .ok (.iload_n 1, 1) := by decide +kernel
theorem dR_place_64 : decode bR_place 64 = .ok (.iastore, 1) := by decide +kernel
theorem dR_place_65 : decode bR_place 65 = .ok (.aload_n 0, 1) := by decide +kernel
theorem dR_place_66 : decode bR_place 66 = .ok (.getfield 43, 3) := by decide +kernel
theorem dR_place_69 : decode bR_place 69 = .ok (.aload_n 0, 1) := by decide +kernel
theorem dR_place_70 : decode bR_place 70 = .ok (.getfield 139, 3) := by decide +kernel
theorem dR_place_73 : decode bR_place 73 = .ok (.iload_n 2, 1) := by decide +kernel
theorem dR_place_74 : decode bR_place 74 = .ok (.iastore, 1) := by decide +kernel
theorem dR_place_75 : decode bR_place 75 = .ok (.aload_n 0, 1) := by decide +kernel
theorem dR_place_76 : decode bR_place 76 = .ok (.dup, 1) := by decide +kernel
theorem dR_place_77 : decode bR_place 77 = .ok (.getfield 139, 3) := by decide +kernel
theorem dR_place_80 : decode bR_place 80 = .ok (.iconst 1, 1) := by decide +kernel
theorem dR_place_81 : decode bR_place 81 = .ok (.iadd, 1) := by decide +kernel
theorem dR_place_82 : decode bR_place 82 = .ok (.putfield 139, 3) := by decide +kernel
theorem dR_place_85 : decode bR_place 85 = .ok (.aload_n 0, 1) := by decide +kernel
theorem dR_place_86 : decode bR_place 86 = .ok (.getfield 139, 3) := by decide +kernel
theorem dR_place_89 : decode bR_place 89 = .ok (.ireturn, 1) := by decide +kernel
theorem dR_clear_0 : decode bR_clear 0 = .ok (.aload_n 0, 1) := by decide +kernel
theorem dR_clear_1 : decode bR_clear 1 = .ok (.iconst 0, 1) := by decide +kernel
theorem dR_clear_2 : decode bR_clear 2 = .ok (.putfield 52, 3) := by decide +kernel
theorem dR_clear_5 : decode bR_clear 5 = .ok (.aload_n 0, 1) := by decide +kernel
theorem dR_clear_6 : decode bR_clear 6 = .ok (.iconst 0, 1) := by decide +kernel
theorem dR_clear_7 : decode bR_clear 7 = .ok (.putfield 139, 3) := by decide +kernel
theorem dR_clear_10 : decode bR_clear 10 = .ok (.return_, 1) := by decide +kernel
theorem dR_keeps_0 : decode bR_keeps 0 = .ok (.aload_n 0, 1) := by decide +kernel
theorem dR_keeps_1 : decode bR_keeps 1 = .ok (.iload_n 1, 1) := by decide +kernel
theorem dR_keeps_2 : decode bR_keeps 2 = .ok (.invokestatic 93, 3) := by decide +kernel
theorem dR_keeps_5 : decode bR_keeps 5 = .ok (.ifCond .ne 7, 3) := by decide +kernel
theorem dR_keeps_8 : decode bR_keeps 8 = .ok (.iconst 1, 1) := by decide +kernel
theorem dR_keeps_9 : decode bR_keeps 9 = .ok (.goto 32, 3) := by decide +kernel
theorem dR_keeps_12 : decode bR_keeps 12 = .ok (.iload_n 2, 1) := by decide +kernel
theorem dR_keeps_13 : decode bR_keeps 13 = .ok (.i2l, 1) := by decide +kernel
theorem dR_keeps_14 : decode bR_keeps 14 = .ok (.lconst 1, 1) := by decide +kernel
theorem dR_keeps_15 : decode bR_keeps 15 = .ok (.ldc2_w 123, 3) := by decide +kernel
theorem dR_keeps_18 : decode bR_keeps 18 = .ok (.invokestatic 99, 3) := by decide +kernel
theorem dR_keeps_21 : decode bR_keeps 21 = .ok (.ifCond .eq 19, 3) := by decide +kernel
theorem dR_keeps_24 : decode bR_keeps 24 = .ok (.iload_n 3, 1) := by decide +kernel
theorem dR_keeps_25 : decode bR_keeps 25 = .ok (.i2l, 1) := by decide +kernel
theorem dR_keeps_26 : decode bR_keeps 26 = .ok (.lconst 1, 1) := by decide +kernel
theorem dR_keeps_27 : decode bR_keeps 27 = .ok (.ldc2_w 123, 3) := by decide +kernel
theorem dR_keeps_30 : decode bR_keeps 30 = .ok (.invokestatic 99, 3) := by decide +kernel
theorem dR_keeps_33 : decode bR_keeps 33 = .ok (.ifCond .eq 7, 3) := by decide +kernel
theorem dR_keeps_36 : decode bR_keeps 36 = .ok (.iconst 0, 1) := by decide +kernel
theorem dR_keeps_37 : decode bR_keeps 37 = .ok (.goto 4, 3) := by decide +kernel
theorem dR_keeps_40 : decode bR_keeps 40 = .ok (.iconst 2, 1) := by decide +kernel
theorem dR_keeps_41 : decode bR_keeps 41 = .ok (.putfield 52, 3) := by decide +kernel
theorem dR_keeps_44 : decode bR_keeps 44 = .ok (.aload_n 0, 1) := by decide +kernel
theorem dR_keeps_45 : decode bR_keeps 45 = .ok (.getfield 52, 3) := by decide +kernel
theorem dR_keeps_48 : decode bR_keeps 48 = .ok (.ifCond .le 5, 3) := by decide +kernel
theorem dR_keeps_51 : decode bR_keeps 51 = .ok (.iconst 0, 1) := by decide +kernel
theorem dR_keeps_52 : decode bR_keeps 52 = .ok (.ireturn, 1) := by decide +kernel
theorem dR_keeps_53 : decode bR_keeps 53 = .ok (.aload_n 0, 1) := by decide +kernel
theorem dR_keeps_54 : decode bR_keeps 54 = .ok (.iload_n 1, 1) := by decide +kernel
theorem dR_keeps_55 : decode bR_keeps 55 = .ok (.iconst 3, 1) := by decide +kernel
theorem dR_keeps_56 : decode bR_keeps 56 = .ok (.invokevirtual 125, 3) := by decide +kernel
theorem dR_keeps_59 : decode bR_keeps 59 = .ok (.lstore 4, 2) := by decide +kernel
theorem dR_keeps_61 : decode bR_keeps 61 = .ok (.aload_n 0, 1) := by decide +kernel
theorem dR_keeps_62 : decode bR_keeps 62 = .ok (.iload_n 1, 1) := by decide +kernel
theorem dR_keeps_63 : decode bR_keeps 63 = .ok (.iconst 2, 1) := by decide +kernel
theorem dR_keeps_64 : decode bR_keeps 64 = .ok (.invokevirtual 125, 3) := by decide +kernel
theorem dR_keeps_67 : decode bR_keeps 67 = .ok (.lstore 6, 2) := by decide +kernel
theorem dR_keeps_69 : decode bR_keeps 69 = .ok (.aload_n 0, 1) := by decide +kernel
theorem dR_keeps_70 : decode bR_keeps 70 = .ok (.iload_n 1, 1) := by decide +kernel
theorem dR_keeps_71 : decode bR_keeps 71 = .ok (.iconst 4, 1) := by decide +kernel
theorem dR_keeps_72 : decode bR_keeps 72 = .ok (.invokevirtual 125, 3) := by decide +kernel
theorem dR_keeps_75 : decode bR_keeps 75 = .ok (.lstore 8, 2) := by decide +kernel
theorem dR_keeps_77 : decode bR_keeps 77 = .ok (.iconst 0, 1) := by decide +kernel
theorem dR_keeps_78 : decode bR_keeps 78 = .ok (.istore 10, 2) := by decide +kernel
theorem dR_keeps_80 : decode bR_keeps 80 = .ok (.iload 10, 2) := by decide +kernel
theorem dR_keeps_82 : decode bR_keeps 82 = .ok (.aload_n 0, 1) := by decide +kernel
theorem dR_keeps_83 : decode bR_keeps 83 = .ok (.getfield 139, 3) := by decide +kernel
theorem dR_keeps_86 : decode bR_keeps 86 = .ok (.if_icmp .ge 76, 3) := by decide +kernel
theorem dR_keeps_89 : decode bR_keeps 89 = .ok (.aload_n 0, 1) := by decide +kernel
theorem dR_keeps_90 : decode bR_keeps 90 = .ok (.getfield 40, 3) := by decide +kernel
theorem dR_keeps_93 : decode bR_keeps 93 = .ok (.iload 10, 2) := by decide +kernel
theorem dR_keeps_95 : decode bR_keeps 95 = .ok (.iaload, 1) := by decide +kernel
theorem dR_keeps_96 : decode bR_keeps 96 = .ok (.i2l, 1) := by decide +kernel
theorem dR_keeps_97 : decode bR_keeps 97 = .ok (.lload 4, 2) := by decide +kernel
theorem dR_keeps_99 : decode bR_keeps 99 = .ok (.lcmp, 1) := by decide +kernel
theorem dR_keeps_100 : decode bR_keeps 100 = .ok (.ifCond .lt 51, 3) := by decide +kernel
theorem dR_keeps_103 : decode bR_keeps 103 = .ok (.aload_n 0, 1) := by decide +kernel
theorem dR_keeps_104 : decode bR_keeps 104 = .ok (.getfield 40, 3) := by decide +kernel
theorem dR_keeps_107 : decode bR_keeps 107 = .ok (.iload 10, 2) := by decide +kernel
theorem dR_keeps_109 : decode bR_keeps 109 = .ok (.iaload, 1) := by decide +kernel
theorem dR_keeps_110 : decode bR_keeps 110 = .ok (.i2l, 1) := by decide +kernel
theorem dR_keeps_111 : decode bR_keeps 111 = .ok (.iload_n 2, 1) := by decide +kernel
theorem dR_keeps_112 : decode bR_keeps 112 = .ok (.i2l, 1) := by decide +kernel
theorem dR_keeps_113 : decode bR_keeps 113 = .ok (.lload 4, 2) := by decide +kernel
theorem dR_keeps_115 : decode bR_keeps 115 = .ok (.lsub, 1) := by decide +kernel
theorem dR_keeps_116 : decode bR_keeps 116 = .ok (.lcmp, 1) := by decide +kernel
theorem dR_keeps_117 : decode bR_keeps 117 = .ok (.ifCond .gt 34, 3) := by decide +kernel
theorem dR_keeps_120 : decode bR_keeps 120 = .ok (.aload_n 0, 1) := by decide +kernel
theorem dR_keeps_121 : decode bR_keeps 121 = .ok (.getfield 43, 3) := by decide +kernel
theorem dR_keeps_124 : decode bR_keeps 124 = .ok (.iload 10, 2) := by decide +kernel
theorem dR_keeps_126 : decode bR_keeps 126 = .ok (.iaload, 1) := by decide +kernel
theorem dR_keeps_127 : decode bR_keeps 127 = .ok (.i2l, 1) := by decide +kernel
theorem dR_keeps_128 : decode bR_keeps 128 = .ok (.lload 6, 2) := by decide +kernel
theorem dR_keeps_130 : decode bR_keeps 130 = .ok (.lcmp, 1) := by decide +kernel
theorem dR_keeps_131 : decode bR_keeps 131 = .ok (.ifCond .lt 20, 3) := by decide +kernel
theorem dR_keeps_134 : decode bR_keeps 134 = .ok (.aload_n 0, 1) := by decide +kernel
theorem dR_keeps_135 : decode bR_keeps 135 = .ok (.getfield 43, 3) := by decide +kernel
theorem dR_keeps_138 : decode bR_keeps 138 = .ok (.iload 10, 2) := by decide +kernel
theorem dR_keeps_140 : decode bR_keeps 140 = .ok (.iaload, 1) := by decide +kernel
theorem dR_keeps_141 : decode bR_keeps 141 = .ok (.i2l, 1) := by decide +kernel
theorem dR_keeps_142 : decode bR_keeps 142 = .ok (.iload_n 3, 1) := by decide +kernel
theorem dR_keeps_143 : decode bR_keeps 143 = .ok (.i2l, 1) := by decide +kernel
theorem dR_keeps_144 : decode bR_keeps 144 = .ok (.lload 6, 2) := by decide +kernel
theorem dR_keeps_146 : decode bR_keeps 146 = .ok (.lsub, 1) := by decide +kernel
theorem dR_keeps_147 : decode bR_keeps 147 = .ok (.lcmp, 1) := by decide +kernel
theorem dR_keeps_148 : decode bR_keeps 148 = .ok (.ifCond .le 8, 3) := by decide +kernel
theorem dR_keeps_151 : decode bR_keeps 151 = .ok (.iconst 1, 1) := by decide +kernel
theorem dR_keeps_152 : decode bR_keeps 152 = .ok (.iload 10, 2) := by decide +kernel
theorem dR_keeps_154 : decode bR_keeps 154 = .ok (.iadd, 1) := by decide +kernel
theorem dR_keeps_155 : decode bR_keeps 155 = .ok (.ireturn, 1) := by decide +kernel
theorem dR_keeps_156 : decode bR_keeps 156 = .ok (.iinc 10 1, 3) := by decide +kernel
theorem dR_keeps_159 : decode bR_keeps 159 = .ok (.goto (-79), 3) := by decide +kernel
theorem dR_keeps_162 : decode bR_keeps 162 = .ok (.iconst 0, 1) := by decide +kernel
theorem dR_keeps_163 : decode bR_keeps 163 = .ok (.istore 10, 2) := by decide +kernel
theorem dR_keeps_165 : decode bR_keeps 165 = .ok (.iload 10, 2) := by decide +kernel
theorem dR_keeps_167 : decode bR_keeps 167 = .ok (.aload_n 0, 1) := by decide +kernel
theorem dR_keeps_168 : decode bR_keeps 168 = .ok (.getfield 139, 3) := by decide +kernel
theorem dR_keeps_171 : decode bR_keeps 171 = .ok (.if_icmp .ge 98, 3) := by decide +kernel
theorem dR_keeps_174 : decode bR_keeps 174 = .ok (.iload 10, 2) := by decide +kernel
theorem dR_keeps_176 : decode bR_keeps 176 = .ok (.iconst 1, 1) := by decide +kernel
theorem dR_keeps_177 : decode bR_keeps 177 = .ok (.iadd, 1) := by decide +kernel
theorem dR_keeps_178 : decode bR_keeps 178 = .ok (.istore 11, 2) := by decide +kernel
theorem dR_keeps_180 : decode bR_keeps 180 = .ok (.iload 11, 2) := by decide +kernel
theorem dR_keeps_182 : decode bR_keeps 182 = .ok (.aload_n 0, 1) := by decide +kernel
theorem dR_keeps_183 : decode bR_keeps 183 = .ok (.getfield 139, 3) := by decide +kernel
theorem dR_keeps_186 : decode bR_keeps 186 = .ok (.if_icmp .ge 77, 3) := by decide +kernel
theorem dR_keeps_189 : decode bR_keeps 189 = .ok (.aload_n 0, 1) := by decide +kernel
theorem dR_keeps_190 : decode bR_keeps 190 = .ok (.getfield 40, 3) := by decide +kernel
theorem dR_keeps_193 : decode bR_keeps 193 = .ok (.iload 10, 2) := by decide +kernel
theorem dR_keeps_195 : decode bR_keeps 195 = .ok (.iaload, 1) := by decide +kernel
theorem dR_keeps_196 : decode bR_keeps 196 = .ok (.aload_n 0, 1) := by decide +kernel
theorem dR_keeps_197 : decode bR_keeps 197 = .ok (.getfield 40, 3) := by decide +kernel
theorem dR_keeps_200 : decode bR_keeps 200 = .ok (.iload 11, 2) := by decide +kernel
theorem dR_keeps_202 : decode bR_keeps 202 = .ok (.iaload, 1) := by decide +kernel
theorem dR_keeps_203 : decode bR_keeps 203 = .ok (.isub, 1) := by decide +kernel
theorem dR_keeps_204 : decode bR_keeps 204 = .ok (.i2l, 1) := by decide +kernel
theorem dR_keeps_205 : decode bR_keeps 205 = .ok (.lstore 12, 2) := by decide +kernel
theorem dR_keeps_207 : decode bR_keeps 207 = .ok (.aload_n 0, 1) := by decide +kernel
theorem dR_keeps_208 : decode bR_keeps 208 = .ok (.getfield 43, 3) := by decide +kernel
theorem dR_keeps_211 : decode bR_keeps 211 = .ok (.iload 10, 2) := by decide +kernel
theorem dR_keeps_213 : decode bR_keeps 213 = .ok (.iaload, 1) := by decide +kernel
theorem dR_keeps_214 : decode bR_keeps 214 = .ok (.aload_n 0, 1) := by decide +kernel
theorem dR_keeps_215 : decode bR_keeps 215 = .ok (.getfield 43, 3) := by decide +kernel
theorem dR_keeps_218 : decode bR_keeps 218 = .ok (.iload 11, 2) := by decide +kernel
theorem dR_keeps_220 : decode bR_keeps 220 = .ok (.iaload, 1) := by decide +kernel
theorem dR_keeps_221 : decode bR_keeps 221 = .ok (.isub, 1) := by decide +kernel
theorem dR_keeps_222 : decode bR_keeps 222 = .ok (.i2l, 1) := by decide +kernel
theorem dR_keeps_223 : decode bR_keeps 223 = .ok (.lstore 14, 2) := by decide +kernel
theorem dR_keeps_225 : decode bR_keeps 225 = .ok (.lload 12, 2) := by decide +kernel
theorem dR_keeps_227 : decode bR_keeps 227 = .ok (.lload 12, 2) := by decide +kernel
theorem dR_keeps_229 : decode bR_keeps 229 = .ok (.lmul, 1) := by decide +kernel
theorem dR_keeps_230 : decode bR_keeps 230 = .ok (.lload 14, 2) := by decide +kernel
theorem dR_keeps_232 : decode bR_keeps 232 = .ok (.lload 14, 2) := by decide +kernel
theorem dR_keeps_234 : decode bR_keeps 234 = .ok (.lmul, 1) := by decide +kernel
theorem dR_keeps_235 : decode bR_keeps 235 = .ok (.ladd, 1) := by decide +kernel
theorem dR_keeps_236 : decode bR_keeps 236 = .ok (.lload 8, 2) := by decide +kernel
theorem dR_keeps_238 : decode bR_keeps 238 = .ok (.lload 8, 2) := by decide +kernel
theorem dR_keeps_240 : decode bR_keeps 240 = .ok (.lmul, 1) := by decide +kernel
theorem dR_keeps_241 : decode bR_keeps 241 = .ok (.lcmp, 1) := by decide +kernel
theorem dR_keeps_242 : decode bR_keeps 242 = .ok (.ifCond .ge 15, 3) := by decide +kernel
theorem dR_keeps_245 : decode bR_keeps 245 = .ok (.bipush 100, 2) := by decide +kernel
theorem dR_keeps_247 : decode bR_keeps 247 = .ok (.bipush 32, 2) := by decide +kernel
theorem dR_keeps_249 : decode bR_keeps 249 = .ok (.iload 10, 2) := by decide +kernel
theorem dR_keeps_251 : decode bR_keeps 251 = .ok (.imul, 1) := by decide +kernel
theorem dR_keeps_252 : decode bR_keeps 252 = .ok (.iadd, 1) := by decide +kernel
theorem dR_keeps_253 : decode bR_keeps 253 = .ok (.iload 11, 2) := by decide +kernel
theorem dR_keeps_255 : decode bR_keeps 255 = .ok (.iadd, 1) := by decide +kernel
theorem dR_keeps_256 : decode bR_keeps 256 = .ok (.ireturn, 1) := by decide +kernel
theorem dR_keeps_257 : decode bR_keeps 257 = .ok (.iinc 11 1, 3) := by decide +kernel
theorem dR_keeps_260 : decode bR_keeps 260 = .ok (.goto (-80), 3) := by decide +kernel
theorem dR_keeps_263 : decode bR_keeps 263 = .ok (.iinc 10 1, 3) := by decide +kernel
theorem dR_keeps_266 : decode bR_keeps 266 = .ok (.goto (-101), 3) := by decide +kernel
theorem dR_keeps_269 : decode bR_keeps 269 = .ok (.iconst 0, 1) := by decide +kernel
theorem dR_keeps_270 : decode bR_keeps 270 = .ok (.ireturn, 1) := by decide +kernel
theorem dR_isPlace_0 : decode bR_isPlace 0 = .ok (.iload_n 0, 1) := by decide +kernel
theorem dR_isPlace_1 : decode bR_isPlace 1 = .ok (.i2l, 1) := by decide +kernel
theorem dR_isPlace_2 : decode bR_isPlace 2 = .ok (.ldc2_w 142, 3) := by decide +kernel
theorem dR_isPlace_5 : decode bR_isPlace 5 = .ok (.ldc2_w 144, 3) := by decide +kernel
theorem dR_isPlace_8 : decode bR_isPlace 8 = .ok (.invokestatic 99, 3) := by decide +kernel
theorem dR_isPlace_11 : decode bR_isPlace 11 = .ok (.ireturn, 1) := by decide +kernel
theorem dR_member_0 : decode bR_member 0 = .ok (.iload_n 1, 1) := by decide +kernel
theorem dR_member_1 : decode bR_member 1 = .ok (.invokestatic 146, 3) := by decide +kernel
theorem dR_member_4 : decode bR_member 4 = .ok (.ifCond .eq 53, 3) := by decide +kernel
theorem dR_member_7 : decode bR_member 7 = .ok (.iload_n 2, 1) := by decide +kernel
theorem dR_member_8 : decode bR_member 8 = .ok (.invokestatic 146, 3) := by decide +kernel
theorem dR_member_11 : decode bR_member 11 = .ok (.ifCond .eq 46, 3) := by decide +kernel
theorem dR_member_14 : decode bR_member 14 = .ok (.iload_n 3, 1) := by decide +kernel
theorem dR_member_15 : decode bR_member 15 = .ok (.invokestatic 146, 3) := by decide +kernel
theorem dR_member_18 : decode bR_member 18 = .ok (.ifCond .eq 39, 3) := by decide +kernel
theorem dR_member_21 : decode bR_member 21 = .ok (.iload 4, 2) := by decide +kernel
theorem dR_member_23 : decode bR_member 23 = .ok (.invokestatic 146, 3) := by decide +kernel
theorem dR_member_26 : decode bR_member 26 = .ok (.ifCond .eq 31, 3) := by decide +kernel
theorem dR_member_29 : decode bR_member 29 = .ok (.iload_n 1, 1) := by decide +kernel
theorem dR_member_30 : decode bR_member 30 = .ok (.iload_n 3, 1) := by decide +kernel
theorem dR_member_31 : decode bR_member 31 = .ok (.if_icmp .ne 9, 3) := by decide +kernel
theorem dR_member_34 : decode bR_member 34 = .ok (.iload_n 2, 1) := by decide +kernel
theorem dR_member_35 : decode bR_member 35 = .ok (.iload 4, 2) := by decide +kernel
theorem dR_member_37 : decode bR_member 37 = .ok (.if_icmp .eq 20, 3) := by decide +kernel
theorem dR_member_40 : decode bR_member 40 = .ok (.iload 5, 2) := by decide +kernel
theorem dR_member_42 : decode bR_member 42 = .ok (.i2l, 1) := by decide +kernel
theorem dR_member_43 : decode bR_member 43 = .ok (.lconst 1, 1) := by decide +kernel
theorem dR_member_44 : decode bR_member 44 = .ok (.ldc2_w 144, 3) := by decide +kernel
theorem dR_member_47 : decode bR_member 47 = .ok (.invokestatic 99, 3) := by decide +kernel
theorem dR_member_50 : decode bR_member 50 = .ok (.ifCond .eq 7, 3) := by decide +kernel
theorem dR_member_53 : decode bR_member 53 = .ok (.iconst 1, 1) := by decide +kernel
theorem dR_member_54 : decode bR_member 54 = .ok (.goto 4, 3) := by decide +kernel
theorem dR_member_57 : decode bR_member 57 = .ok (.iconst 0, 1) := by decide +kernel
theorem dR_member_58 : decode bR_member 58 = .ok (.istore 6, 2) := by decide +kernel
theorem dR_member_60 : decode bR_member 60 = .ok (.aload_n 0, 1) := by decide +kernel
theorem dR_member_61 : decode bR_member 61 = .ok (.iload 6, 2) := by decide +kernel
theorem dR_member_63 : decode bR_member 63 = .ok (.ifCond .ne 7, 3) := by decide +kernel
theorem dR_member_66 : decode bR_member 66 = .ok (.iconst 1, 1) := by decide +kernel
theorem dR_member_67 : decode bR_member 67 = .ok (.goto 17, 3) := by decide +kernel
theorem dR_member_70 : decode bR_member 70 = .ok (.aload_n 0, 1) := by decide +kernel
theorem dR_member_71 : decode bR_member 71 = .ok (.getfield 149, 3) := by decide +kernel
theorem dR_member_74 : decode bR_member 74 = .ok (.bipush 6, 2) := by decide +kernel
theorem dR_member_76 : decode bR_member 76 = .ok (.if_icmp .ne 7, 3) := by decide +kernel
theorem dR_member_79 : decode bR_member 79 = .ok (.iconst 2, 1) := by decide +kernel
theorem dR_member_80 : decode bR_member 80 = .ok (.goto 4, 3) := by decide +kernel
theorem dR_member_83 : decode bR_member 83 = .ok (.iconst 0, 1) := by decide +kernel
theorem dR_member_84 : decode bR_member 84 = .ok (.putfield 52, 3) := by decide +kernel
theorem dR_member_87 : decode bR_member 87 = .ok (.aload_n 0, 1) := by decide +kernel
theorem dR_member_88 : decode bR_member 88 = .ok (.getfield 52, 3) := by decide +kernel
theorem dR_member_91 : decode bR_member 91 = .ok (.ifCond .le 5, 3) := by decide +kernel
theorem dR_member_94 : decode bR_member 94 = .ok (.iconst 0, 1) := by decide +kernel
theorem dR_member_95 : decode bR_member 95 = .ok (.ireturn, 1) := by decide +kernel
theorem dR_member_96 : decode bR_member 96 = .ok (.aload_n 0, 1) := by decide +kernel
theorem dR_member_97 : decode bR_member 97 = .ok (.getfield 46, 3) := by decide +kernel
theorem dR_member_100 : decode bR_member 100 = .ok (.iconst 4, 1) := by decide +kernel
theorem dR_member_101 : decode bR_member 101 = .ok (.aload_n 0, 1) := by decide +kernel
theorem dR_member_102 : decode bR_member 102 = .ok (.getfield 149, 3) := by decide +kernel
theorem dR_member_105 : decode bR_member 105 = .ok (.imul, 1) := by decide +kernel
theorem dR_member_106 : decode bR_member 106 = .ok (.iload_n 1, 1) := by decide +kernel
theorem dR_member_107 : decode bR_member 107 = .ok (.iastore, 1) := by decide +kernel
theorem dR_member_108 : decode bR_member 108 = .ok (.aload_n 0, 1) := by decide +kernel
theorem dR_member_109 : decode bR_member 109 = .ok (.getfield 46, 3) := by decide +kernel
theorem dR_member_112 : decode bR_member 112 = .ok (.iconst 4, 1) := by decide +kernel
theorem dR_member_113 : decode bR_member 113 = .ok (.aload_n 0, 1) := by decide +kernel
theorem dR_member_114 : decode bR_member 114 = .ok (.getfield 149, 3) := by decide +kernel
theorem dR_member_117 : decode bR_member 117 = .ok (.imul, 1) := by decide +kernel
theorem dR_member_118 : decode bR_member 118 = .ok (.iconst 1, 1) := by decide +kernel
theorem dR_member_119 : decode bR_member 119 = .ok (.iadd, 1) := by decide +kernel
theorem dR_member_120 : decode bR_member 120 = .ok (.iload_n 2, 1) := by decide +kernel
theorem dR_member_121 : decode bR_member 121 = .ok (.iastore, 1) := by decide +kernel
theorem dR_member_122 : decode bR_member 122 = .ok (.aload_n 0, 1) := by decide +kernel
theorem dR_member_123 : decode bR_member 123 = .ok (.getfield 46, 3) := by decide +kernel
theorem dR_member_126 : decode bR_member 126 = .ok (.iconst 4, 1) := by decide +kernel
theorem dR_member_127 : decode bR_member 127 = .ok (.aload_n 0, 1) := by decide +kernel
theorem dR_member_128 : decode bR_member 128 = .ok (.getfield 149, 3) := by decide +kernel
theorem dR_member_131 : decode bR_member 131 = .ok (.imul, 1) := by decide +kernel
theorem dR_member_132 : decode bR_member 132 = .ok (.iconst 2, 1) := by decide +kernel
theorem dR_member_133 : decode bR_member 133 = .ok (.iadd, 1) := by decide +kernel
theorem dR_member_134 : decode bR_member 134 = .ok (.iload_n 3, 1) := by decide +kernel
theorem dR_member_135 : decode bR_member 135 = .ok (.iastore, 1) := by decide +kernel
theorem dR_member_136 : decode bR_member 136 = .ok (.aload_n 0, 1) := by decide +kernel
theorem dR_member_137 : decode bR_member 137 = .ok (.getfield 46, 3) := by decide +kernel
theorem dR_member_140 : decode bR_member 140 = .ok (.iconst 4, 1) := by decide +kernel
theorem dR_member_141 : decode bR_member 141 = .ok (.aload_n 0, 1) := by decide +kernel
theorem dR_member_142 : decode bR_member 142 = .ok (.getfield 149, 3) := by decide +kernel
theorem dR_member_145 : decode bR_member 145 = .ok (.imul, 1) := by decide +kernel
theorem dR_member_146 : decode bR_member 146 = .ok (.iconst 3, 1) := by decide +kernel
theorem dR_member_147 : decode bR_member 147 = .ok (.iadd, 1) := by decide +kernel
theorem dR_member_148 : decode bR_member 148 = .ok (.iload 4, 2) := by decide +kernel
theorem dR_member_150 : decode bR_member 150 = .ok (.iastore, 1) := by decide +kernel
theorem dR_member_151 : decode bR_member 151 = .ok (.aload_n 0, 1) := by decide +kernel
theorem dR_member_152 : decode bR_member 152 = .ok (.getfield 49, 3) := by decide +kernel
theorem dR_member_155 : decode bR_member 155 = .ok (.aload_n 0, 1) := by decide +kernel
theorem dR_member_156 : decode bR_member 156 = .ok (.getfield 149, 3) := by decide +kernel
theorem dR_member_159 : decode bR_member 159 = .ok (.iload 5, 2) := by decide +kernel
theorem dR_member_161 : decode bR_member 161 = .ok (.iastore, 1) := by decide +kernel
theorem dR_member_162 : decode bR_member 162 = .ok (.aload_n 0, 1) := by decide +kernel
theorem dR_member_163 : decode bR_member 163 = .ok (.dup, 1) := by decide +kernel
theorem dR_member_164 : decode bR_member 164 = .ok (.getfield 149, 3) := by decide +kernel
theorem dR_member_167 : decode bR_member 167 = .ok (.iconst 1, 1) := by decide +kernel
theorem dR_member_168 : decode bR_member 168 = .ok (.iadd, 1) := by decide +kernel
theorem dR_member_169 : decode bR_member 169 = .ok (.putfield 149, 3) := by decide +kernel
theorem dR_member_172 : decode bR_member 172 = .ok (.aload_n 0, 1) := by decide +kernel
theorem dR_member_173 : decode bR_member 173 = .ok (.getfield 149, 3) := by decide +kernel
theorem dR_member_176 : decode bR_member 176 = .ok (.iconst 1, 1) := by decide +kernel
theorem dR_member_177 : decode bR_member 177 = .ok (.isub, 1) := by decide +kernel
theorem dR_member_178 : decode bR_member 178 = .ok (.ireturn, 1) := by decide +kernel
theorem dR_isWithin_0 : decode bR_isWithin 0 = .ok (.aload_n 0, 1) := by decide +kernel
theorem dR_isWithin_1 : decode bR_isWithin 1 = .ok (.getfield 46, 3) := by decide +kernel
theorem dR_isWithin_4 : decode bR_isWithin 4 = .ok (.iconst 4, 1) := by decide +kernel
theorem dR_isWithin_5 : decode bR_isWithin 5 = .ok (.iload_n 1, 1) := by decide +kernel
theorem dR_isWithin_6 : decode bR_isWithin 6 = .ok (.imul, 1) := by decide +kernel
theorem dR_isWithin_7 : decode bR_isWithin 7 = .ok (.iconst 2, 1) := by decide +kernel
theorem dR_isWithin_8 : decode bR_isWithin 8 = .ok (.iadd, 1) := by decide +kernel
theorem dR_isWithin_9 : decode bR_isWithin 9 = .ok (.iaload, 1) := by decide +kernel
theorem dR_isWithin_10 : decode bR_isWithin 10 = .ok (.aload_n 0, 1) := by decide +kernel
theorem dR_isWithin_11 : decode bR_isWithin 11 = .ok (.getfield 46, 3) := by decide +kernel
theorem dR_isWithin_14 : decode bR_isWithin 14 = .ok (.iconst 4, 1) := by decide +kernel
theorem dR_isWithin_15 : decode bR_isWithin 15 = .ok (.iload_n 1, 1) := by decide +kernel
theorem dR_isWithin_16 : decode bR_isWithin 16 = .ok (.imul, 1) := by decide +kernel
theorem dR_isWithin_17 : decode bR_isWithin 17 = .ok (.iaload, 1) := by decide +kernel
theorem dR_isWithin_18 : decode bR_isWithin 18 = .ok (.isub, 1) := by decide +kernel
theorem dR_isWithin_19 : decode bR_isWithin 19 = .ok (.i2l, 1) := by decide +kernel
theorem dR_isWithin_20 : decode bR_isWithin 20 = .ok (.lstore 6, 2) := by decide +kernel
theorem dR_isWithin_22 : decode bR_isWithin 22 = .ok (.aload_n 0, 1) := by decide +kernel
theorem dR_isWithin_23 : decode bR_isWithin 23 = .ok (.getfield 46, 3) := by decide +kernel
theorem dR_isWithin_26 : decode bR_isWithin 26 = .ok (.iconst 4, 1) := by decide +kernel
theorem dR_isWithin_27 : decode bR_isWithin 27 = .ok (.iload_n 1, 1) := by decide +kernel
theorem dR_isWithin_28 : decode bR_isWithin 28 = .ok (.imul, 1) := by decide +kernel
theorem dR_isWithin_29 : decode bR_isWithin 29 = .ok (.iconst 3, 1) := by decide +kernel
theorem dR_isWithin_30 : decode bR_isWithin 30 = .ok (.iadd, 1) := by decide +kernel
theorem dR_isWithin_31 : decode bR_isWithin 31 = .ok (.iaload, 1) := by decide +kernel
theorem dR_isWithin_32 : decode bR_isWithin 32 = .ok (.aload_n 0, 1) := by decide +kernel
theorem dR_isWithin_33 : decode bR_isWithin 33 = .ok (.getfield 46, 3) := by decide +kernel
theorem dR_isWithin_36 : decode bR_isWithin 36 = .ok (.iconst 4, 1) := by decide +kernel
theorem dR_isWithin_37 : decode bR_isWithin 37 = .ok (.iload_n 1, 1) := by decide +kernel
theorem dR_isWithin_38 : decode bR_isWithin 38 = .ok (.imul, 1) := by decide +kernel
theorem dR_isWithin_39 : decode bR_isWithin 39 = .ok (.iconst 1, 1) := by decide +kernel
theorem dR_isWithin_40 : decode bR_isWithin 40 = .ok (.iadd, 1) := by decide +kernel
theorem dR_isWithin_41 : decode bR_isWithin 41 = .ok (.iaload, 1) := by decide +kernel
theorem dR_isWithin_42 : decode bR_isWithin 42 = .ok (.isub, 1) := by decide +kernel
theorem dR_isWithin_43 : decode bR_isWithin 43 = .ok (.i2l, 1) := by decide +kernel
theorem dR_isWithin_44 : decode bR_isWithin 44 = .ok (.lstore 8, 2) := by decide +kernel
theorem dR_isWithin_46 : decode bR_isWithin 46 = .ok (.lload_n 2, 1) := by decide +kernel
theorem dR_isWithin_47 : decode bR_isWithin 47 = .ok (.aload_n 0, 1) := by decide +kernel
theorem dR_isWithin_48 : decode bR_isWithin 48 = .ok (.getfield 46, 3) := by decide +kernel
theorem dR_isWithin_51 : decode bR_isWithin 51 = .ok (.iconst 4, 1) := by decide +kernel
theorem dR_isWithin_52 : decode bR_isWithin 52 = .ok (.iload_n 1, 1) := by decide +kernel
theorem dR_isWithin_53 : decode bR_isWithin 53 = .ok (.imul, 1) := by decide +kernel
theorem dR_isWithin_54 : decode bR_isWithin 54 = .ok (.iaload, 1) := by decide +kernel
theorem dR_isWithin_55 : decode bR_isWithin 55 = .ok (.i2l, 1) := by decide +kernel
theorem dR_isWithin_56 : decode bR_isWithin 56 = .ok (.lsub, 1) := by decide +kernel
theorem dR_isWithin_57 : decode bR_isWithin 57 = .ok (.lstore 10, 2) := by decide +kernel
theorem dR_isWithin_59 : decode bR_isWithin 59 = .ok (.lload 4, 2) := by decide +kernel
theorem dR_isWithin_61 : decode bR_isWithin 61 = .ok (.aload_n 0, 1) := by decide +kernel
theorem dR_isWithin_62 : decode bR_isWithin 62 = .ok (.getfield 46, 3) := by decide +kernel
theorem dR_isWithin_65 : decode bR_isWithin 65 = .ok (.iconst 4, 1) := by decide +kernel
theorem dR_isWithin_66 : decode bR_isWithin 66 = .ok (.iload_n 1, 1) := by decide +kernel
theorem dR_isWithin_67 : decode bR_isWithin 67 = .ok (.imul, 1) := by decide +kernel
theorem dR_isWithin_68 : decode bR_isWithin 68 = .ok (.iconst 1, 1) := by decide +kernel
theorem dR_isWithin_69 : decode bR_isWithin 69 = .ok (.iadd, 1) := by decide +kernel
theorem dR_isWithin_70 : decode bR_isWithin 70 = .ok (.iaload, 1) := by decide +kernel
theorem dR_isWithin_71 : decode bR_isWithin 71 = .ok (.i2l, 1) := by decide +kernel
theorem dR_isWithin_72 : decode bR_isWithin 72 = .ok (.lsub, 1) := by decide +kernel
theorem dR_isWithin_73 : decode bR_isWithin 73 = .ok (.lstore 12, 2) := by decide +kernel
theorem dR_isWithin_75 : decode bR_isWithin 75 = .ok (.lload 6, 2) := by decide +kernel
theorem dR_isWithin_77 : decode bR_isWithin 77 = .ok (.lload 6, 2) := by decide +kernel
theorem dR_isWithin_79 : decode bR_isWithin 79 = .ok (.lmul, 1) := by decide +kernel
theorem dR_isWithin_80 : decode bR_isWithin 80 = .ok (.lload 8, 2) := by decide +kernel
theorem dR_isWithin_82 : decode bR_isWithin 82 = .ok (.lload 8, 2) := by decide +kernel
theorem dR_isWithin_84 : decode bR_isWithin 84 = .ok (.lmul, 1) := by decide +kernel
theorem dR_isWithin_85 : decode bR_isWithin 85 = .ok (.ladd, 1) := by decide +kernel
theorem dR_isWithin_86 : decode bR_isWithin 86 = .ok (.lstore 14, 2) := by decide +kernel
theorem dR_isWithin_88 : decode bR_isWithin 88 = .ok (.lload 6, 2) := by decide +kernel
theorem dR_isWithin_90 : decode bR_isWithin 90 = .ok (.lload 10, 2) := by decide +kernel
theorem dR_isWithin_92 : decode bR_isWithin 92 = .ok (.lmul, 1) := by decide +kernel
theorem dR_isWithin_93 : decode bR_isWithin 93 = .ok (.lload 8, 2) := by decide +kernel
theorem dR_isWithin_95 : decode bR_isWithin 95 = .ok (.lload 12, 2) := by decide +kernel
theorem dR_isWithin_97 : decode bR_isWithin 97 = .ok (.lmul, 1) := by decide +kernel
theorem dR_isWithin_98 : decode bR_isWithin 98 = .ok (.ladd, 1) := by decide +kernel
theorem dR_isWithin_99 : decode bR_isWithin 99 = .ok (.lstore 16, 2) := by decide +kernel
theorem dR_isWithin_101 : decode bR_isWithin 101 = .ok (.lload 6, 2) := by decide +kernel
theorem dR_isWithin_103 : decode bR_isWithin 103 = .ok (.lload 12, 2) := by decide +kernel
theorem dR_isWithin_105 : decode bR_isWithin 105 = .ok (.lmul, 1) := by decide +kernel
theorem dR_isWithin_106 : decode bR_isWithin 106 = .ok (.lload 8, 2) := by decide +kernel
theorem dR_isWithin_108 : decode bR_isWithin 108 = .ok (.lload 10, 2) := by decide +kernel
theorem dR_isWithin_110 : decode bR_isWithin 110 = .ok (.lmul, 1) := by decide +kernel
theorem dR_isWithin_111 : decode bR_isWithin 111 = .ok (.lsub, 1) := by decide +kernel
theorem dR_isWithin_112 : decode bR_isWithin 112 = .ok (.lstore 18, 2) := by decide +kernel
theorem dR_isWithin_114 : decode bR_isWithin 114 = .ok (.lload 16, 2) := by decide +kernel
theorem dR_isWithin_116 : decode bR_isWithin 116 = .ok (.lconst 0, 1) := by decide +kernel
theorem dR_isWithin_117 : decode bR_isWithin 117 = .ok (.lcmp, 1) := by decide +kernel
theorem dR_isWithin_118 : decode bR_isWithin 118 = .ok (.ifCond .lt 46, 3) := by decide +kernel
theorem dR_isWithin_121 : decode bR_isWithin 121 = .ok (.lload 16, 2) := by decide +kernel
theorem dR_isWithin_123 : decode bR_isWithin 123 = .ok (.lload 14, 2) := by decide +kernel
theorem dR_isWithin_125 : decode bR_isWithin 125 = .ok (.lcmp, 1) := by decide +kernel
theorem dR_isWithin_126 : decode bR_isWithin 126 = .ok (.ifCond .gt 38, 3) := by decide +kernel
theorem dR_isWithin_129 : decode bR_isWithin 129 = .ok (.ldc2_w 103, 3) := by decide +kernel
theorem dR_isWithin_132 : decode bR_isWithin 132 = .ok (.lload 18, 2) := by decide +kernel
theorem dR_isWithin_134 : decode bR_isWithin 134 = .ok (.lmul, 1) := by decide +kernel
theorem dR_isWithin_135 : decode bR_isWithin 135 = .ok (.lload 18, 2) := by decide +kernel
theorem dR_isWithin_137 : decode bR_isWithin 137 = .ok (.lmul, 1) := by decide +kernel
theorem dR_isWithin_138 : decode bR_isWithin 138 = .ok (.aload_n 0, 1) := by decide +kernel
theorem dR_isWithin_139 : decode bR_isWithin 139 = .ok (.getfield 49, 3) := by decide +kernel
theorem dR_isWithin_142 : decode bR_isWithin 142 = .ok (.iload_n 1, 1) := by decide +kernel
theorem dR_isWithin_143 : decode bR_isWithin 143 = .ok (.iaload, 1) := by decide +kernel
theorem dR_isWithin_144 : decode bR_isWithin 144 = .ok (.i2l, 1) := by decide +kernel
theorem dR_isWithin_145 : decode bR_isWithin 145 = .ok (.aload_n 0, 1) := by decide +kernel
theorem dR_isWithin_146 : decode bR_isWithin 146 = .ok (.getfield 49, 3) := by decide +kernel
theorem dR_isWithin_149 : decode bR_isWithin 149 = .ok (.iload_n 1, 1) := by decide +kernel
theorem dR_isWithin_150 : decode bR_isWithin 150 = .ok (.iaload, 1) := by decide +kernel
theorem dR_isWithin_151 : decode bR_isWithin 151 = .ok (.i2l, 1) := by decide +kernel
theorem dR_isWithin_152 : decode bR_isWithin 152 = .ok (.lmul, 1) := by decide +kernel
theorem dR_isWithin_153 : decode bR_isWithin 153 = .ok (.lload 14, 2) := by decide +kernel
theorem dR_isWithin_155 : decode bR_isWithin 155 = .ok (.lmul, 1) := by decide +kernel
theorem dR_isWithin_156 : decode bR_isWithin 156 = .ok (.lcmp, 1) := by decide +kernel
theorem dR_isWithin_157 : decode bR_isWithin 157 = .ok (.ifCond .gt 7, 3) := by decide +kernel
theorem dR_isWithin_160 : decode bR_isWithin 160 = .ok (.iconst 1, 1) := by decide +kernel
theorem dR_isWithin_161 : decode bR_isWithin 161 = .ok (.goto 4, 3) := by decide +kernel
theorem dR_isWithin_164 : decode bR_isWithin 164 = .ok (.iconst 0, 1) := by decide +kernel
theorem dR_isWithin_165 : decode bR_isWithin 165 = .ok (.ireturn, 1) := by decide +kernel
theorem dR_noMember_0 : decode bR_noMember 0 = .ok (.iload_n 1, 1) := by decide +kernel
theorem dR_noMember_1 : decode bR_noMember 1 = .ok (.ifCond .lt 11, 3) := by decide +kernel
theorem dR_noMember_4 : decode bR_noMember 4 = .ok (.iload_n 1, 1) := by decide +kernel
theorem dR_noMember_5 : decode bR_noMember 5 = .ok (.aload_n 0, 1) := by decide +kernel
theorem dR_noMember_6 : decode bR_noMember 6 = .ok (.getfield 149, 3) := by decide +kernel
theorem dR_noMember_9 : decode bR_noMember 9 = .ok (.if_icmp .lt 7, 3) := by decide +kernel
theorem dR_noMember_12 : decode bR_noMember 12 = .ok (.iconst 1, 1) := by decide +kernel
theorem dR_noMember_13 : decode bR_noMember 13 = .ok (.goto 4, 3) := by decide +kernel
theorem dR_noMember_16 : decode bR_noMember 16 = .ok (.iconst 0, 1) := by decide +kernel
theorem dR_noMember_17 : decode bR_noMember 17 = .ok (.ireturn, 1) := by decide +kernel
theorem dR_in_0 : decode bR_in 0 = .ok (.aload_n 0, 1) := by decide +kernel
theorem dR_in_1 : decode bR_in 1 = .ok (.aload_n 0, 1) := by decide +kernel
theorem dR_in_2 : decode bR_in 2 = .ok (.iload_n 1, 1) := by decide +kernel
theorem dR_in_3 : decode bR_in 3 = .ok (.invokevirtual 152, 3) := by decide +kernel
theorem dR_in_6 : decode bR_in 6 = .ok (.ifCond .eq 7, 3) := by decide +kernel
theorem dR_in_9 : decode bR_in 9 = .ok (.iconst 1, 1) := by decide +kernel
theorem dR_in_10 : decode bR_in 10 = .ok (.goto 22, 3) := by decide +kernel
theorem dR_in_13 : decode bR_in 13 = .ok (.iload_n 2, 1) := by decide +kernel
theorem dR_in_14 : decode bR_in 14 = .ok (.invokestatic 146, 3) := by decide +kernel
theorem dR_in_17 : decode bR_in 17 = .ok (.ifCond .eq 14, 3) := by decide +kernel
theorem dR_in_20 : decode bR_in 20 = .ok (.iload_n 3, 1) := by decide +kernel
theorem dR_in_21 : decode bR_in 21 = .ok (.invokestatic 146, 3) := by decide +kernel
theorem dR_in_24 : decode bR_in 24 = .ok (.ifCond .eq 7, 3) := by decide +kernel
theorem dR_in_27 : decode bR_in 27 = .ok (.iconst 0, 1) := by decide +kernel
theorem dR_in_28 : decode bR_in 28 = .ok (.goto 4, 3) := by decide +kernel
theorem dR_in_31 : decode bR_in 31 = .ok (.iconst 2, 1) := by decide +kernel
theorem dR_in_32 : decode bR_in 32 = .ok (.putfield 52, 3) := by decide +kernel
theorem dR_in_35 : decode bR_in 35 = .ok (.aload_n 0, 1) := by decide +kernel
theorem dR_in_36 : decode bR_in 36 = .ok (.getfield 52, 3) := by decide +kernel
theorem dR_in_39 : decode bR_in 39 = .ok (.ifCond .ne 19, 3) := by decide +kernel
theorem dR_in_42 : decode bR_in 42 = .ok (.aload_n 0, 1) := by decide +kernel
theorem dR_in_43 : decode bR_in 43 = .ok (.iload_n 1, 1) := by decide +kernel
theorem dR_in_44 : decode bR_in 44 = .ok (.iload_n 2, 1) := by decide +kernel
theorem dR_in_45 : decode bR_in 45 = .ok (.i2l, 1) := by decide +kernel
theorem dR_in_46 : decode bR_in 46 = .ok (.iload_n 3, 1) := by decide +kernel
theorem dR_in_47 : decode bR_in 47 = .ok (.i2l, 1) := by decide +kernel
theorem dR_in_48 : decode bR_in 48 = .ok (.invokevirtual 155, 3) := by decide +kernel
theorem dR_in_51 : decode bR_in 51 = .ok (.ifCond .eq 7, 3) := by decide +kernel
theorem dR_in_54 : decode bR_in 54 = .ok (.iconst 1, 1) := by decide +kernel
theorem dR_in_55 : decode bR_in 55 = .ok (.goto 4, 3) := by decide +kernel
theorem dR_in_58 : decode bR_in 58 = .ok (.iconst 0, 1) := by decide +kernel
theorem dR_in_59 : decode bR_in 59 = .ok (.ireturn, 1) := by decide +kernel
theorem dR_teeth_0 : decode bR_teeth 0 = .ok (.iload_n 2, 1) := by decide +kernel
theorem dR_teeth_1 : decode bR_teeth 1 = .ok (.invokestatic 146, 3) := by decide +kernel
theorem dR_teeth_4 : decode bR_teeth 4 = .ok (.ifCond .eq 55, 3) := by decide +kernel
theorem dR_teeth_7 : decode bR_teeth 7 = .ok (.iload_n 3, 1) := by decide +kernel
theorem dR_teeth_8 : decode bR_teeth 8 = .ok (.invokestatic 146, 3) := by decide +kernel
theorem dR_teeth_11 : decode bR_teeth 11 = .ok (.ifCond .eq 48, 3) := by decide +kernel
theorem dR_teeth_14 : decode bR_teeth 14 = .ok (.iload 4, 2) := by decide +kernel
theorem dR_teeth_16 : decode bR_teeth 16 = .ok (.i2l, 1) := by decide +kernel
theorem dR_teeth_17 : decode bR_teeth 17 = .ok (.lconst 0, 1) := by decide +kernel
theorem dR_teeth_18 : decode bR_teeth 18 = .ok (.ldc2_w 105, 3) := by decide +kernel
theorem dR_teeth_21 : decode bR_teeth 21 = .ok (.invokestatic 99, 3) := by decide +kernel
theorem dR_teeth_24 : decode bR_teeth 24 = .ok (.ifCond .eq 35, 3) := by decide +kernel
theorem dR_teeth_27 : decode bR_teeth 27 = .ok (.iload 5, 2) := by decide +kernel
theorem dR_teeth_29 : decode bR_teeth 29 = .ok (.i2l, 1) := by decide +kernel
theorem dR_teeth_30 : decode bR_teeth 30 = .ok (.lconst 0, 1) := by decide +kernel
theorem dR_teeth_31 : decode bR_teeth 31 = .ok (.ldc2_w 105, 3) := by decide +kernel
theorem dR_teeth_34 : decode bR_teeth 34 = .ok (.invokestatic 99, 3) := by decide +kernel
theorem dR_teeth_37 : decode bR_teeth 37 = .ok (.ifCond .eq 22, 3) := by decide +kernel
theorem dR_teeth_40 : decode bR_teeth 40 = .ok (.iload 6, 2) := by decide +kernel
theorem dR_teeth_42 : decode bR_teeth 42 = .ok (.i2l, 1) := by decide +kernel
theorem dR_teeth_43 : decode bR_teeth 43 = .ok (.ldc2_w 159, 3) := by decide +kernel
theorem dR_teeth_46 : decode bR_teeth 46 = .ok (.ldc2_w 105, 3) := by decide +kernel
theorem dR_teeth_49 : decode bR_teeth 49 = .ok (.invokestatic 99, 3) := by decide +kernel
theorem dR_teeth_52 : decode bR_teeth 52 = .ok (.ifCond .eq 7, 3) := by decide +kernel
theorem dR_teeth_55 : decode bR_teeth 55 = .ok (.iconst 1, 1) := by decide +kernel
theorem dR_teeth_56 : decode bR_teeth 56 = .ok (.goto 4, 3) := by decide +kernel
theorem dR_teeth_59 : decode bR_teeth 59 = .ok (.iconst 0, 1) := by decide +kernel
theorem dR_teeth_60 : decode bR_teeth 60 = .ok (.istore 7, 2) := by decide +kernel
theorem dR_teeth_62 : decode bR_teeth 62 = .ok (.aload_n 0, 1) := by decide +kernel
theorem dR_teeth_63 : decode bR_teeth 63 = .ok (.aload_n 0, 1) := by decide +kernel
theorem dR_teeth_64 : decode bR_teeth 64 = .ok (.iload_n 1, 1) := by decide +kernel
theorem dR_teeth_65 : decode bR_teeth 65 = .ok (.invokevirtual 152, 3) := by decide +kernel
theorem dR_teeth_68 : decode bR_teeth 68 = .ok (.ifCond .eq 7, 3) := by decide +kernel
theorem dR_teeth_71 : decode bR_teeth 71 = .ok (.iconst 1, 1) := by decide +kernel
theorem dR_teeth_72 : decode bR_teeth 72 = .ok (.goto 13, 3) := by decide +kernel
theorem dR_teeth_75 : decode bR_teeth 75 = .ok (.iload 7, 2) := by decide +kernel
theorem dR_teeth_77 : decode bR_teeth 77 = .ok (.ifCond .eq 7, 3) := by decide +kernel
theorem dR_teeth_80 : decode bR_teeth 80 = .ok (.iconst 0, 1) := by decide +kernel
theorem dR_teeth_81 : decode bR_teeth 81 = .ok (.goto 4, 3) := by decide +kernel
theorem dR_teeth_84 : decode bR_teeth 84 = .ok (.iconst 2, 1) := by decide +kernel
theorem dR_teeth_85 : decode bR_teeth 85 = .ok (.putfield 52, 3) := by decide +kernel
theorem dR_teeth_88 : decode bR_teeth 88 = .ok (.iconst 0, 1) := by decide +kernel
theorem dR_teeth_89 : decode bR_teeth 89 = .ok (.istore 8, 2) := by decide +kernel
theorem dR_teeth_91 : decode bR_teeth 91 = .ok (.iconst 0, 1) := by decide +kernel
theorem dR_teeth_92 : decode bR_teeth 92 = .ok (.istore 9, 2) := by decide +kernel
theorem dR_teeth_94 : decode bR_teeth 94 = .ok (.aload_n 0, 1) := by decide +kernel
theorem dR_teeth_95 : decode bR_teeth 95 = .ok (.getfield 52, 3) := by decide +kernel
theorem dR_teeth_98 : decode bR_teeth 98 = .ok (.ifCond .ne 69, 3) := by decide +kernel
theorem dR_teeth_101 : decode bR_teeth 101 = .ok (.iload 9, 2) := by decide +kernel
theorem dR_teeth_103 : decode bR_teeth 103 = .ok (.iload 4, 2) := by decide +kernel
theorem dR_teeth_105 : decode bR_teeth 105 = .ok (.if_icmp .gt 62, 3) := by decide +kernel
theorem dR_teeth_108 : decode bR_teeth 108 = .ok (.iconst 0, 1) := by decide +kernel
theorem dR_teeth_109 : decode bR_teeth 109 = .ok (.istore 10, 2) := by decide +kernel
theorem dR_teeth_111 : decode bR_teeth 111 = .ok (.iload 10, 2) := by decide +kernel
theorem dR_teeth_113 : decode bR_teeth 113 = .ok (.iload 5, 2) := by decide +kernel
theorem dR_teeth_115 : decode bR_teeth 115 = .ok (.if_icmp .gt 42, 3) := by decide +kernel
theorem dR_teeth_118 : decode bR_teeth 118 = .ok (.aload_n 0, 1) := by decide +kernel
theorem dR_teeth_119 : decode bR_teeth 119 = .ok (.iload_n 1, 1) := by decide +kernel
theorem dR_teeth_120 : decode bR_teeth 120 = .ok (.iload_n 2, 1) := by decide +kernel
theorem dR_teeth_121 : decode bR_teeth 121 = .ok (.iload 9, 2) := by decide +kernel
theorem dR_teeth_123 : decode bR_teeth 123 = .ok (.iadd, 1) := by decide +kernel
theorem dR_teeth_124 : decode bR_teeth 124 = .ok (.i2l, 1) := by decide +kernel
theorem dR_teeth_125 : decode bR_teeth 125 = .ok (.iload_n 3, 1) := by decide +kernel
theorem dR_teeth_126 : decode bR_teeth 126 = .ok (.iload 10, 2) := by decide +kernel
theorem dR_teeth_128 : decode bR_teeth 128 = .ok (.iadd, 1) := by decide +kernel
theorem dR_teeth_129 : decode bR_teeth 129 = .ok (.i2l, 1) := by decide +kernel
theorem dR_teeth_130 : decode bR_teeth 130 = .ok (.invokevirtual 155, 3) := by decide +kernel
theorem dR_teeth_133 : decode bR_teeth 133 = .ok (.ifCond .eq 10, 3) := by decide +kernel
theorem dR_teeth_136 : decode bR_teeth 136 = .ok (.iload 8, 2) := by decide +kernel
theorem dR_teeth_138 : decode bR_teeth 138 = .ok (.iconst 1, 1) := by decide +kernel
theorem dR_teeth_139 : decode bR_teeth 139 = .ok (.iadd, 1) := by decide +kernel
theorem dR_teeth_140 : decode bR_teeth 140 = .ok (.goto 5, 3) := by decide +kernel
theorem dR_teeth_143 : decode bR_teeth 143 = .ok (.iload 8, 2) := by decide +kernel
theorem dR_teeth_145 : decode bR_teeth 145 = .ok (.istore 8, 2) := by decide +kernel
theorem dR_teeth_147 : decode bR_teeth 147 = .ok (.iload 10, 2) := by decide +kernel
theorem dR_teeth_149 : decode bR_teeth 149 = .ok (.iload 6, 2) := by decide +kernel
theorem dR_teeth_151 : decode bR_teeth 151 = .ok (.iadd, 1) := by decide +kernel
theorem dR_teeth_152 : decode bR_teeth 152 = .ok (.istore 10, 2) := by decide +kernel
theorem dR_teeth_154 : decode bR_teeth 154 = .ok (.goto (-43), 3) := by decide +kernel
theorem dR_teeth_157 : decode bR_teeth 157 = .ok (.iload 9, 2) := by decide +kernel
theorem dR_teeth_159 : decode bR_teeth 159 = .ok (.iload 6, 2) := by decide +kernel
theorem dR_teeth_161 : decode bR_teeth 161 = .ok (.iadd, 1) := by decide +kernel
theorem dR_teeth_162 : decode bR_teeth 162 = .ok (.istore 9, 2) := by decide +kernel
theorem dR_teeth_164 : decode bR_teeth 164 = .ok (.goto (-70), 3) := by decide +kernel
theorem dR_teeth_167 : decode bR_teeth 167 = .ok (.iload 8, 2) := by decide +kernel
theorem dR_teeth_169 : decode bR_teeth 169 = .ok (.ireturn, 1) := by decide +kernel
theorem dR_thick_0 : decode bR_thick 0 = .ok (.aload_n 0, 1) := by decide +kernel
theorem dR_thick_1 : decode bR_thick 1 = .ok (.iload_n 1, 1) := by decide +kernel
theorem dR_thick_2 : decode bR_thick 2 = .ok (.invokestatic 93, 3) := by decide +kernel
theorem dR_thick_5 : decode bR_thick 5 = .ok (.ifCond .ne 7, 3) := by decide +kernel
theorem dR_thick_8 : decode bR_thick 8 = .ok (.iconst 1, 1) := by decide +kernel
theorem dR_thick_9 : decode bR_thick 9 = .ok (.goto 12, 3) := by decide +kernel
theorem dR_thick_12 : decode bR_thick 12 = .ok (.iload_n 2, 1) := by decide +kernel
theorem dR_thick_13 : decode bR_thick 13 = .ok (.ifCond .ge 7, 3) := by decide +kernel
theorem dR_thick_16 : decode bR_thick 16 = .ok (.iconst 2, 1) := by decide +kernel
theorem dR_thick_17 : decode bR_thick 17 = .ok (.goto 4, 3) := by decide +kernel
theorem dR_thick_20 : decode bR_thick 20 = .ok (.iconst 0, 1) := by decide +kernel
theorem dR_thick_21 : decode bR_thick 21 = .ok (.putfield 52, 3) := by decide +kernel
theorem dR_thick_24 : decode bR_thick 24 = .ok (.aload_n 0, 1) := by decide +kernel
theorem dR_thick_25 : decode bR_thick 25 = .ok (.getfield 52, 3) := by decide +kernel
theorem dR_thick_28 : decode bR_thick 28 = .ok (.ifCond .ne 20, 3) := by decide +kernel
theorem dR_thick_31 : decode bR_thick 31 = .ok (.iload_n 2, 1) := by decide +kernel
theorem dR_thick_32 : decode bR_thick 32 = .ok (.i2l, 1) := by decide +kernel
theorem dR_thick_33 : decode bR_thick 33 = .ok (.aload_n 0, 1) := by decide +kernel
theorem dR_thick_34 : decode bR_thick 34 = .ok (.iload_n 1, 1) := by decide +kernel
theorem dR_thick_35 : decode bR_thick 35 = .ok (.bipush 6, 2) := by decide +kernel
theorem dR_thick_37 : decode bR_thick 37 = .ok (.invokevirtual 125, 3) := by decide +kernel
theorem dR_thick_40 : decode bR_thick 40 = .ok (.lcmp, 1) := by decide +kernel
theorem dR_thick_41 : decode bR_thick 41 = .ok (.ifCond .lt 7, 3) := by decide +kernel
theorem dR_thick_44 : decode bR_thick 44 = .ok (.iconst 1, 1) := by decide +kernel
theorem dR_thick_45 : decode bR_thick 45 = .ok (.goto 4, 3) := by decide +kernel
theorem dR_thick_48 : decode bR_thick 48 = .ok (.iconst 0, 1) := by decide +kernel
theorem dR_thick_49 : decode bR_thick 49 = .ok (.ireturn, 1) := by decide +kernel
theorem dR_hole_0 : decode bR_hole 0 = .ok (.aload_n 0, 1) := by decide +kernel
theorem dR_hole_1 : decode bR_hole 1 = .ok (.iload_n 1, 1) := by decide +kernel
theorem dR_hole_2 : decode bR_hole 2 = .ok (.invokestatic 93, 3) := by decide +kernel
theorem dR_hole_5 : decode bR_hole 5 = .ok (.ifCond .eq 7, 3) := by decide +kernel
theorem dR_hole_8 : decode bR_hole 8 = .ok (.iconst 0, 1) := by decide +kernel
theorem dR_hole_9 : decode bR_hole 9 = .ok (.goto 4, 3) := by decide +kernel
theorem dR_hole_12 : decode bR_hole 12 = .ok (.iconst 1, 1) := by decide +kernel
theorem dR_hole_13 : decode bR_hole 13 = .ok (.putfield 52, 3) := by decide +kernel
theorem dR_hole_16 : decode bR_hole 16 = .ok (.aload_n 0, 1) := by decide +kernel
theorem dR_hole_17 : decode bR_hole 17 = .ok (.getfield 52, 3) := by decide +kernel
theorem dR_hole_20 : decode bR_hole 20 = .ok (.ifCond .le 5, 3) := by decide +kernel
theorem dR_hole_23 : decode bR_hole 23 = .ok (.iconst 0, 1) := by decide +kernel
theorem dR_hole_24 : decode bR_hole 24 = .ok (.ireturn, 1) := by decide +kernel
theorem dR_hole_25 : decode bR_hole 25 = .ok (.aload_n 0, 1) := by decide +kernel
theorem dR_hole_26 : decode bR_hole 26 = .ok (.getfield 16, 3) := by decide +kernel
theorem dR_hole_29 : decode bR_hole 29 = .ok (.bipush 7, 2) := by decide +kernel
theorem dR_hole_31 : decode bR_hole 31 = .ok (.iload_n 1, 1) := by decide +kernel
theorem dR_hole_32 : decode bR_hole 32 = .ok (.imul, 1) := by decide +kernel
theorem dR_hole_33 : decode bR_hole 33 = .ok (.iaload, 1) := by decide +kernel
theorem dR_hole_34 : decode bR_hole 34 = .ok (.istore_n 2, 1) := by decide +kernel
theorem dR_hole_35 : decode bR_hole 35 = .ok (.iload_n 1, 1) := by decide +kernel
theorem dR_hole_36 : decode bR_hole 36 = .ok (.iconst 3, 1) := by decide +kernel
theorem dR_hole_37 : decode bR_hole 37 = .ok (.if_icmp .ne 7, 3) := by decide +kernel
theorem dR_hole_40 : decode bR_hole 40 = .ok (.iload_n 2, 1) := by decide +kernel
theorem dR_hole_41 : decode bR_hole 41 = .ok (.goto 37, 3) := by decide +kernel
theorem dR_hole_44 : decode bR_hole 44 = .ok (.iload_n 1, 1) := by decide +kernel
theorem dR_hole_45 : decode bR_hole 45 = .ok (.iconst 2, 1) := by decide +kernel
theorem dR_hole_46 : decode bR_hole 46 = .ok (.if_icmp .ne 10, 3) := by decide +kernel
theorem dR_hole_49 : decode bR_hole 49 = .ok (.iload_n 2, 1) := by decide +kernel
theorem dR_hole_50 : decode bR_hole 50 = .ok (.bipush 10, 2) := by decide +kernel
theorem dR_hole_52 : decode bR_hole 52 = .ok (.iadd, 1) := by decide +kernel
theorem dR_hole_53 : decode bR_hole 53 = .ok (.goto 25, 3) := by decide +kernel
theorem dR_hole_56 : decode bR_hole 56 = .ok (.iload_n 1, 1) := by decide +kernel
theorem dR_hole_57 : decode bR_hole 57 = .ok (.iconst 1, 1) := by decide +kernel
theorem dR_hole_58 : decode bR_hole 58 = .ok (.if_icmp .eq 9, 3) := by decide +kernel
theorem dR_hole_61 : decode bR_hole 61 = .ok (.iload_n 2, 1) := by decide +kernel
theorem dR_hole_62 : decode bR_hole 62 = .ok (.bipush 50, 2) := by decide +kernel
theorem dR_hole_64 : decode bR_hole 64 = .ok (.if_icmp .le 13, 3) := by decide +kernel
theorem dR_hole_67 : decode bR_hole 67 = .ok (.iload_n 2, 1) := by decide +kernel
theorem dR_hole_68 : decode bR_hole 68 = .ok (.bipush 7, 2) := by decide +kernel
theorem dR_hole_70 : decode bR_hole 70 = .ok (.imul, 1) := by decide +kernel
theorem dR_hole_71 : decode bR_hole 71 = .ok (.bipush 10, 2) := by decide +kernel
theorem dR_hole_73 : decode bR_hole 73 = .ok (.idiv, 1) := by decide +kernel
theorem dR_hole_74 : decode bR_hole 74 = .ok (.goto 4, 3) := by decide +kernel
theorem dR_hole_77 : decode bR_hole 77 = .ok (.iconst 0, 1) := by decide +kernel
theorem dR_hole_78 : decode bR_hole 78 = .ok (.ireturn, 1) := by decide +kernel
end
section
/-- the law's start: the tables' words, what the Statement gives, the classes' numbers, the array classes -/
def xb_Env (l : Launch) (s0 : State) (dC : Nat → ClassId) (dI : Nat → Nat → Nat) (tys : List (ClassId × FieldType)) : Prop :=
  l.flags = flags0 ∧ (∃ a0 : Array Value, (∀ w ∈ lw_tbl, w.before a0 s0 = true) ∧ (Jvm.Cond.and given_1 narrow_1).before a0 s0 = true) ∧ va_K (dC, dI) classes tys s0
abbrev xtys (cI cC cL : ClassId) : List (ClassId × FieldType) := [(cI, .int), (cC, .char), (cL, .long)]
/-- a state behind the law's start: warmer tables; what was there is as it was -/
def xb_At (s0 U : State) : Prop := s0.WarmedH U.vm ∧ s0.heap.size ≤ U.heap.size ∧ ∀ q : Nat, q < s0.heap.size → U.heap[q]? = s0.heap[q]?
theorem xb_hts {l : Launch} {s0 U : State} {dC : Nat → ClassId} {dI : Nat → Nat → Nat} {tys : List (ClassId × FieldType)} (E : xb_Env l s0 dC dI tys) (h : xb_At s0 U) (a : Array Value) : ∀ w ∈ lw_gd, w.before a U = true := by
  obtain ⟨-, ⟨a0, h1, -⟩, -⟩ := E
  intro w hw
  obtain ⟨hm, hg⟩ := List.mem_filter.mp hw
  exact word_at h.1 (good_of_word hg) (h1 w hm)
theorem xb_K {l : Launch} {s0 U : State} {dC : Nat → ClassId} {dI : Nat → Nat → Nat} {tys : List (ClassId × FieldType)} (E : xb_Env l s0 dC dI tys) (h : xb_At s0 U) : va_K (dC, dI) classes tys U := va_K.moved h.1.alike E.2.2
theorem xb_nest {l : Launch} {s0 U : State} {dC : Nat → ClassId} {dI : Nat → Nat → Nat} {tys : List (ClassId × FieldType)} (E : xb_Env l s0 dC dI tys) (h : xb_At s0 U) {a : String} {i : Nat} {x : MethodName} {b : String} (hw : Cond.methodLinkNest a i x b ∈ lw_tbl) : va_Nw (.methodLinkNest a i x b) U := by
  obtain ⟨-, ⟨a0, h1, -⟩, -⟩ := E
  exact va_Nw.warmM h.1 (va_Nw.of rfl (h1 _ hw))
theorem xb_at0 {s0 s U : State} (h : xb_At s0 s) (hU : U.heap = s.heap) (hW : s.WarmedH U.vm) : xb_At s0 U :=
  ⟨State.WarmedH.trans h.1 hW, by rw [hU]; exact h.2.1, fun q hq => by rw [hU]; exact h.2.2 q hq⟩
theorem xb_atS {s0 s U : State} {A : Nat → Prop} {H : Heap} {locs : List Loc} (h : xb_At s0 s) (hS : va_S A s.heap H locs) (hA : ∀ q, A q → s0.heap.size ≤ q) (hU : U.heap = H) (hW : s.WarmedH U.vm) : xb_At s0 U :=
  ⟨State.WarmedH.trans h.1 hW, by rw [hU]; exact Nat.le_trans h.2.1 hS.1, fun q hq => by
    rw [hU, hS.2.1 q (Nat.lt_of_lt_of_le hq h.2.1) (fun a => absurd (hA q a) (Nat.not_le.mpr hq))]
    exact h.2.2 q hq⟩
/-- an end that answers v and leaves the heap -/
def xb_R (v : Option Value) : Array Value → State → Outcome → State → Prop := fun _ st o t => o = .returned v ∧ t.heap = st.heap
def xb_bi (b : Bool) : Int32 := if b then 1 else 0
theorem xb_bi_n (b : Bool) : narrow .boolean (.int (xb_bi b)) = .int (xb_bi b) := by cases b <;> rfl
theorem xb_bi_f {b : Bool} : xb_bi b = 0 ↔ ¬ b = true := by cases b <;> decide
theorem xb_bi_t {b : Bool} : ¬ xb_bi b = 0 ↔ b = true := by cases b <;> decide
section XB
variable {p : Program} {l : Launch} {e : Env} {R : Room} {s : State} {m : MethodId} {args : Array Value} {below : List Frame} {meth : Method} {c : Code} {H : Heap} {locs : List Loc} {cells slots : Nat} {Q : State → Prop} {pc : Nat} {ls : Array Slot} {rest st0 : List Value} {a : Array Value}
theorem xb_rd {v : Option Value} (hr : CallRun p l e R s m args below meth c H locs cells slots 0 0 (F0 m pc ls st0) rest (xb_R v a) (fun _ => False))
    (kk : W p l e R s m args below meth c H locs cells slots Q (F0 m (pc + 3) ls (v.toList ++ rest))) : W p l e R s m args below meth c H locs cells slots Q (F0 m pc ls st0) := by
  intro T hT X
  obtain ⟨w, st₀, t, T', L, h0, X', hL, e1, ⟨hv, hh⟩, st⟩ := hr T hT X
  cases hv
  obtain ⟨t2, a1, b1⟩ := kk T' (by rw [e1, hh, h0]) (Stand.forget X' (fun q h => (hL q h).elim))
  exact ⟨t2, st t2 a1, b1⟩
theorem xb_rdN {v : Option Value} (hr : va_Run p l e R s m args below meth c H locs cells slots 0 0 (F0 m pc ls st0) rest (xb_R v a) (fun _ => False))
    (kk : W p l e R s m args below meth c H locs cells slots Q (F0 m (pc + 3) ls (v.toList ++ rest))) : W p l e R s m args below meth c H locs cells slots Q (F0 m pc ls st0) := by
  intro T hT X
  obtain ⟨w, st₀, t, T', L, h0, X', hL, e1, e2, ⟨hv, hh⟩, st⟩ := hr T hT X
  cases hv
  obtain ⟨t2, a1, b1⟩ := kk T' (by rw [e1, hh, h0]) (Stand.forget X' (fun q h => (hL q h).elim))
  exact ⟨t2, st t2 a1, b1⟩
end XB
end
section
/-! writing methods: the world before, the world behind -/
def xb_W (D : va_G) (P : Option Value → va_W → Prop) (A : Nat → Prop) : Array Value → State → Outcome → State → Prop := fun _ st o t => ∃ (v : Option Value) (w1 : va_W), o = .returned v ∧ P v w1 ∧ va_P D classes w1 t.heap ∧ va_D A w1 ∧ va_F A st t
theorem xb_A0 {s0 s : State} {ws : va_W} (h : xb_At s0 s) (hD : va_D (fun q => s0.heap.size ≤ q) ws) : ∀ q, va_A ws s.heap.size q → s0.heap.size ≤ q := by
  intro q hq
  rcases hq with ⟨k, e, hk⟩ | hq
  · exact hD.2 k _ hk
  · exact Nat.le_trans h.2.1 hq
section XW
variable {p : Program} {l : Launch} {e : Env} {R : Room} {s : State} {m : MethodId} {args : Array Value} {below : List Frame} {meth : Method} {c : Code} {H : Heap} {locs : List Loc} {cells slots : Nat} {Q : State → Prop} {pc : Nat} {ls : Array Slot} {rest st0 : List Value} {a : Array Value} {mc ms : Nat} {D : va_G} {A : Nat → Prop} {H0 : Heap}
theorem xb_wr {P : Option Value → va_W → Prop} {ws wc wr : va_W} (hr : va_Run p l e R s m args below meth c H locs cells slots mc ms (F0 m pc ls st0) rest (xb_W D P (va_A wc H.size) a) (va_A wc H.size))
    (hP : va_P D classes ws H) (hD : va_D A ws) (hS : va_S A H0 H locs) (hA : ∀ q, H0.size ≤ q → A q) (isC isR : List Nat) (hC : isC.map (fun i => ws[i]?) = wc.map some) (hR : isR.map (fun i => ws[i]?) = wr.map some) (hn : va_nd isR = true) (hdis : ∀ i ∈ isR, i ∉ isC)
    (kk : ∀ (v : Option Value) (w1 : va_W) (H1 : Heap) (locs1 : List Loc), P v w1 → va_P D classes (wr ++ w1) H1 → va_D A (wr ++ w1) → va_S A H0 H1 locs1 → W p l e R s m args below meth c H1 locs1 (cells + mc) (slots + ms) Q (F0 m (pc + 3) ls (v.toList ++ rest))) : W p l e R s m args below meth c H locs cells slots Q (F0 m pc ls st0) := by
  have hF := va_free hD hS hA isC hC
  intro T hT X
  obtain ⟨v, st₀, t, T', L, h0, X', hL, e1, e2, ⟨v', w1, hv, hp, hP1, hD1, hz, hk⟩, st⟩ := hr T hT X
  cases hv
  rw [h0] at hz hk
  rw [← e1] at hP1 hz hk
  obtain ⟨hPj, hDj⟩ := va_join hP hD isC isR hC hR hn hdis hk hF hP1 hD1
  obtain ⟨t2, a1, b1⟩ := kk v w1 T'.heap (locs ++ L) hp hPj hDj ⟨Nat.le_trans hS.1 hz, fun q h1 h2 => by
      rw [hk q (Nat.lt_of_lt_of_le h1 hS.1) (fun z => h2 (hF q z))]; exact hS.2.1 q h1 h2, fun q hq => by
      rcases List.mem_append.mp hq with h | h
      · exact hS.2.2 q h
      · exact hF _ (hL q h)⟩ T' rfl X'
  exact ⟨t2, st t2 a1, b1⟩
end XW
end
section
/-! throwing: a contract of a method that throws an object of class C, made new, all else as it was -/
theorem xt_ls {s0 U : State} {a0 a : Array Value} {C n d : String} (h : xb_At s0 U) (hl : (Cond.laysStatic C n d).before a0 s0 = true) : (Cond.laysStatic C n d).before a U = true := by
  obtain ⟨c, k, i, f, q, cell, hc, hi, hst, ha, hcell, hs, hcls, hlt, hty⟩ := Cond.laysStatic_spec hl
  obtain ⟨k', hi', hek⟩ := State.fieldFound?_setVm h.1.alike hi
  have hlt' : q < s0.heap.size := (Array.getElem?_eq_some_iff.mp hcell).1
  exact Cond.laysStatic_of (s := U) (by rw [h.1.alike.findClass]; exact hc) hi' hst (by rw [hek]; exact ha) (by rw [h.2.2 q hlt']; exact hcell) hs hcls hlt (by rw [hek]; exact hty)
theorem xt_rs {s0 U : State} {a0 a : Array Value} {C n d : String} (h : xb_At s0 U) (hl : (Cond.laysStatic C n d).before a0 s0 = true) (hini : (Cond.initialized C).before a0 s0 = true) (hr : (Cond.isRef (.static C n d)).before a0 s0 = true) : (Cond.isRef (.static C n d)).before a U = true := by
  have hz : va_Zq C n d (fun q => s0.heap.size ≤ q) s0 s0.heap := va_Zqof hl hini hr (fun a h => Nat.not_le.mpr h)
  have hz2 := (va_Zq.moved h.1.alike hz).kept (H1 := U.heap) (fun q hq _ => h.2.2 q hq)
  rcases hz2 with ⟨cf, kf, fi, f, q, cell, h1, h2, h3, h4, h5, h6, h7, h8⟩ | ⟨t, cf, kf, fi, f, q, cell, h1, h2, h3, h4, h5, h6, h7, h8⟩
  · have ev : (Term.static C n d).eval a U none [] U = some .null := by
      simp [Term.eval, State.fieldNamed?, h1, h2, h4, h5, h6, h7]
    simp [Cond.before, Cond.holds, Cond.value, ev]
  · have ev : (Term.static C n d).eval a U none [] U = some (.ref t) := by
      simp [Term.eval, State.fieldNamed?, h1, h2, h4, h5, h6, h7]
    simp [Cond.before, Cond.holds, Cond.value, ev]
def xt_End (first : State) (o : Outcome) (t : State) : Prop :=
  (∃ x, o = .threw x) ∧ first.WarmedH t.vm ∧ first.sameButNew ({ t with vm := first.vm } : State) [] 1 6
def xt_Q (C : String) : Array Value → State → Outcome → State → Prop := fun _ st o t =>
  ∃ (x : Addr) (ce : Cell), o = .threw x ∧ t.heap[x]? = some ce ∧ st.vm.findClass C = some ce.cls ∧ ce.vm = .none ∧ st.heap.size ≤ x ∧ st.heap.size ≤ t.heap.size ∧ ∀ q : Nat, q < st.heap.size → t.heap[q]? = st.heap[q]?
def xt_Met (l : Launch) (y : MethodName) (ws : List Cond) (rm : Room) (Pc : Array Value → State → Prop) (C : String) : Prop :=
  MetFree l y (headSpec ws rm) Pc (fun _ _ _ _ _ => True) (fun a st o t => xt_Q C a st o t ∧ xt_End st o t)
def xt_MQ (below : List Frame) (C : String) (a : Array Value) (s : State) : State → Prop := fun t =>
  ∃ o, t.status = .running ∧ Ended t below o ∧ xt_Q C a s o t ∧ xt_End s o t
theorem xt_Met.ofW {l : Launch} {y : MethodName} {ws ws' : List Cond} {rm : Room} {Pc : Array Value → State → Prop} {C : String} {cc : ByteArray} {maxL : Nat} {ret : Option FieldType}
    (hy : plainName y.cls = true) (hw : ws = Cond.code y cc maxL ret :: ws')
    (body : ∀ p e s m args below meth c s₁, BodyLoose p l y (headSpec ws rm) cc maxL ret e s m args below meth c s₁ → c.maxLocals = maxL → c.exceptionTable.isEmpty = true → Pc args s →
      W p l e (headSpec ws rm).room s m args below meth c s.heap [] 0 0 (xt_MQ below C args s) (entryFrame m args maxL)) : xt_Met l y ws rm Pc C := by
  refine MetFree.of_bodyS (code := cc) (maxLocals := maxL) (ret := ret) hy ?_ ?_
  · intro args s m h hn
    obtain ⟨meth, c, h1, h2, h3, h4, h5, h6, -, -⟩ := Cond.code_spec hn (atoms_spec (ws := ws) h _ (by rw [hw]; exact List.mem_cons_self))
    exact ⟨meth, c, h1, h2, h3, h4, h5, h6⟩
  · intro p e s m args below meth c s₁ B hml hP _
    have hh0 : s₁.heap = s.heap := by rw [B.state]; rfl
    have hex := B.noHandlers (atoms_spec (ws := ws) B.pre _ (by rw [hw]; exact List.mem_cons_self))
    obtain ⟨t, a1, o, b1, b2, b3⟩ := body p e s m args below meth c s₁ B hml hex hP s₁ hh0 (Stand.of_body B)
    exact ⟨t, o, a1, b1, b2, b3⟩
theorem xt_out {c : Code} (h : c.exceptionTable.isEmpty = true) (pc : Nat) : ∀ x ∈ c.exceptionTable.toList, covers x pc = false := by
  intro x hx
  have : c.exceptionTable = #[] := by simpa using h
  rw [this] at hx
  simp at hx
section XT
variable {p : Program} {l : Launch} {e : Env} {R : Room} {s : State} {m : MethodId} {args : Array Value} {below : List Frame} {meth : Method} {c : Code} {pc : Nat} {ls : Array Slot}
/-- new, dup, ldc, <init>(String), athrow -/
theorem xt_throw {cc : ByteArray} {own C tx : String} {names : List String} {ik ic it q : Nat} (hx : p.tables.exec = Jvm.exec) (hb : c.code = cc) (hml : c.maxLocals = ls.size) (hfl : l.flags = flags0) (hown : s.vm.findClass own = some m.cls) (hlocks : meth.locks = false) (hex : c.exceptionTable.isEmpty = true)
    (hcls : Bundle.fit C = true) (hnames : ∀ n ∈ names, Bundle.fit n = true) (h : ∀ a ∈ Bundle.ownAtoms own ic C names, a.before args s = true)
    (hcl : (Cond.classLink own ik C).before args s = true) (hini : (Cond.initialized C).before args s = true) (hZ : vk_R own it tx q s)
    (d0 : decode cc pc = .ok (.new ik, 3)) (d3 : decode cc (pc + 3) = .ok (.dup, 1)) (d4 : decode cc (pc + 4) = .ok (.ldc it, 2)) (d6 : decode cc (pc + 6) = .ok (.invokespecial ic, 3)) (d9 : decode cc (pc + 9) = .ok (.athrow, 1))
    (hRc : 1 ≤ R.cells) (hRs : 6 ≤ R.slots) (hRf : names.length + 3 < R.frames) (hRl : 1 + (13 * (names.length + 1) + 42) ≤ R.locals) :
    W p l e R s m args below meth c s.heap [] 0 0 (xt_MQ below C args s) (F0 m pc ls []) := by
  have hins : (Cond.instantiable C 6).before args s = true := h _ (by simp [Bundle.ownAtoms])
  obtain ⟨cX, kX, hfc, hkX, -⟩ := Cond.instantiable_spec hins
  refine W.newcK hx hb hown hcl hins hini rfl d0 (by omega) (by omega) hfc rfl fun H1 kC hkC e1 z1 o1 => ?_
  refine lv_dup hx hb d3 rfl ?_
  refine va_ldcS hx hb hown hZ d4 ?_
  intro T hT X
  have htr := Launch.traces_off hfl X.admits
  obtain ⟨U, h1, h2, h3, h4, h5, ce, h6, h7⟩ := X.ctorThrowS hx htr (own := own) (cls := C) (names := names) (ic := ic) hown hcls hnames h (fun x hx => by cases hx) (a := s.heap.size) hfc hkC (by rw [hT]; exact e1) (Nat.le_refl _) (msg := .ref q) rfl (g := F0 m (pc + 6) ls [.ref q, .ref s.heap.size, .ref s.heap.size]) rfl hml.symm rfl rfl (rest := []) rfl (by rw [hb]; exact d6) (by rw [hb]; exact d9) (xt_out hex _) hRf (by simpa [Value.category] using hRl)
  refine ⟨U, h1, .threw s.heap.size, h2, h3, ⟨s.heap.size, ce, rfl, h6, h7.cls, h7.vm, Nat.le_refl _, ?_, ?_⟩, ⟨_, rfl⟩, h4, ?_⟩
  · exact h5.2.1
  · intro q hq
    have h9 : ∀ c0, s.heap[q]? = some c0 → U.heap[q]? = some c0 := fun c0 hc0 => h5.old_cell hc0
    rw [Array.getElem?_eq_getElem hq] at h9 ⊢
    exact h9 _ rfl
  · simpa using h5
/-- a call that throws: the callee's frames gone, the note over the caller's frame -/
def xt_Run (p : Program) (l : Launch) (e : Env) (R : Room) (s : State) (m : MethodId) (args : Array Value) (below : List Frame) (meth : Method) (c : Code) (H : Heap) (locs : List Loc) (cells slots : Nat) (g : JFrame) (rest : List Value) (C : String) : Prop :=
  ∀ T : State, T.heap = H → Stand p l e R s m args below meth c T locs cells slots → ∃ (x : Addr) (ce : Cell) (T' : State), Stand p l e R s m args below meth c T' locs (cells + 1) (slots + 6) ∧ T'.heap[x]? = some ce ∧ s.vm.findClass C = some ce.cls ∧ ce.vm = .none ∧ H.size ≤ x ∧ H.size ≤ T'.heap.size ∧ (∀ q : Nat, q < H.size → T'.heap[q]? = H[q]?) ∧
    ∀ target, Steps p.tables e below ((T'.setTop { g with stack := rest }).pushFrame (.throwing x)) target → Steps p.tables e below (T.setTop g) target
theorem xt_back {U : State} {locs : List Loc} {cells slots : Nat} {y : MethodName} {ws : List Cond} {rm : Room} {Pc : Array Value → State → Prop} {C : String} {bytes : ByteArray} {maxL W len : Nat} {ret : Option FieldType} (hM : xt_Met l y ws rm Pc C) (hbl : FrameBlind Pc) (hrc : rm.cells = 1) (hrs : rm.slots = 6) (hframes : rm.frames + 1 ≤ R.frames) (hlocals : W + (maxL + 11) + rm.locals ≤ R.locals)
    (hws : ∀ w ∈ ws, ∀ a' U, s.WarmedH U.vm → w.before a' U = true) (hcode : Cond.code y bytes maxL ret ∈ ws) (hinit : ∀ a' U, s.WarmedH U.vm → (Cond.initialized y.cls).before a' U = true)
    (X : Stand p l e R s m args below meth c U locs cells slots) {g : JFrame} (hg : g.method = m) (hsize : g.locals.size = c.maxLocals) {ig : Instr} (hdg : decode c.code g.pc = .ok (ig, len)) (hW : 2 * g.monitorRoom + (g.stack.map fun v => v.category).sum ≤ W) {mk : MethodId} (hn : U.methodNamed? y = some mk) (hc1 : cells + 1 ≤ R.cells) (hs6 : slots + 6 ≤ R.slots) {a : Array Value} (hPc : Pc a U) :
    ∃ (x : Addr) (ce : Cell) (T' : State), Stand p l e R s m args below meth c T' locs (cells + 1) (slots + 6) ∧ T'.heap[x]? = some ce ∧ s.vm.findClass C = some ce.cls ∧ ce.vm = .none ∧ U.heap.size ≤ x ∧ U.heap.size ≤ T'.heap.size ∧ (∀ q : Nat, q < U.heap.size → T'.heap[q]? = U.heap[q]?) ∧
      Steps p.tables e below (doInvoke e (U.setTop g) [] mk a).1 ((T'.setTop g).pushFrame (.throwing x)) := by
  have h2 := hws _ hcode a U X.warmed
  obtain ⟨methY, cY, hmY, hcY, -, hlY, -, -, -, -⟩ := Cond.code_spec hn h2
  obtain ⟨kY, hkY, -⟩ := className_of_methodNamed hn
  have hinitY : kY.init = .initialized := Cond.initialized_spec (findClass_of_methodNamed hn) hkY (hinit a U X.warmed)
  have h : At U g.method c below := by rw [hg]; exact X.here
  have happ : (headSpec ws rm).appliesLoose y e.platform (U.calling g mk a) = true :=
    Spec.appliesLoose_calling (g := g) h hdg hn hkY hinitY
      (X.room_calling (g := g) (R' := rm) hsize hmY hcY hframes (by rw [hlY]; omega) (by rw [hrc]; exact hc1) (by rw [hrs]; exact hs6)) (atoms_intro fun w hw => hws w hw _ _ X.warmed)
  obtain ⟨mid, hmid⟩ := h.above
  have hfr : (U.setTop g).frames = (.java g :: mid) ++ below := by rw [State.frames_setTop' g h.top, hmid]; rfl
  obtain ⟨o, s₂, hsteps, -, hend, hq, hE⟩ := Steps.callFree hM p X.admits X.cas X.clock (acts := []) hfr happ (hbl _ _ g mk hPc) trivial
  rw [State.frames_setTop' g h.top] at hend
  have hE : xt_End (U.calling g mk a) o s₂ := hE
  have hq : xt_Q C a (U.calling g mk a) o s₂ := hq
  obtain ⟨⟨v, rfl⟩, hW₂, e2, q2, q3, q4, q5, q6⟩ := hE
  obtain ⟨x, ce, hx1, hx2, hx3, hx4, hx5, hx6, hx7⟩ := hq
  cases hx1
  have hW' : U.WarmedH s₂.vm := hW₂
  have hf₂ : s₂.frames = .throwing v :: .java g :: U.frames.tail := hend
  obtain ⟨g₀, hg0⟩ := Option.isSome_iff_exists.mp h.top
  obtain ⟨r, hr⟩ := State.topJava?_eq_some.mp hg0
  have e3 : s₂ = ({ (U.calling g mk a).setFrames s₂.frames with heap := s₂.heap, slotsUsed := s₂.slotsUsed } : State).setVm s₂.vm := by
    have e4 : s₂ = ({ s₂ with vm := (U.calling g mk a).vm } : State).setVm s₂.vm := rfl
    rw [e2] at e4
    exact e4
  have hs₂ : s₂ = ((({ U with heap := s₂.heap, slotsUsed := s₂.slotsUsed } : State).setVm s₂.vm).setTop g).pushFrame (.throwing v) := by
    have hr' : (({ U with heap := s₂.heap, slotsUsed := s₂.slotsUsed } : State).setVm s₂.vm).frames = .java g₀ :: r := hr
    refine e3.trans ?_
    rw [hf₂, State.calling_eq h.top, State.setFrames_setFrames, State.pushFrame, State.frames_setTop _ hr', State.setTop_of_frames _ hr', State.setFrames_setFrames, hr]
    rfl
  have hsame : U.sameButNew ({ U with heap := s₂.heap, slotsUsed := s₂.slotsUsed } : State) [] 1 6 := by
    refine ⟨?_, q2, q3, q4, q5, q6⟩
    obtain ⟨t, ht, -⟩ := State.frames_cons hr
    show ({ U with heap := s₂.heap, slotsUsed := s₂.slotsUsed } : State) = { U.setFrames U.frames with heap := s₂.heap, slotsUsed := s₂.slotsUsed }
    rw [State.setFrames_self ht]
  have hfC : s.vm.findClass C = some ce.cls := by rw [← X.warmed.alike.findClass]; exact hx3
  subst hg
  refine ⟨v, ce, (({ U with heap := s₂.heap, slotsUsed := s₂.slotsUsed } : State).setVm s₂.vm), ?_, hx2, hfC, hx4, hx5, hx6, hx7, ?_⟩
  · have := X.same.trans (hsame.setVm s.vm)
    rw [List.append_nil] at this
    exact ⟨X.admits, X.cas, X.clock, X.frames, X.room, X.hears, X.method, X.code, (X.here.setHeapUsed s₂.heap s₂.slotsUsed).setVm hW'.alike, X.tail, State.WarmedH.trans X.warmed hW', X.limits, X.bytes, this⟩
  · rw [← hs₂]
    exact hsteps
/-- 'invokestatic' of a method of the own class that throws -/
theorem xt_runS {H : Heap} {locs : List Loc} {cells slots : Nat} {y : MethodName} {ws : List Cond} {rm : Room} {Pc : Array Value → State → Prop} {C : String} {bytes cc : ByteArray} {maxL nL n index : Nat} {ret : Option FieldType} {Ts : List Cond} {own : String} {As rest : List Value} {g : JFrame}
    (S : CallFix p m c cc nL s args Ts own) (hM : xt_Met l y ws rm Pc C) (cw : CallB R s args own index y bytes maxL ret ws rm 1 6 n ∧ (Cond.static y).before args s = true) (hp : PreS s H Pc As)
    (hg : g.method = m) (hn : As.length = n) (hsize : g.locals.size = nL) (hstack : g.stack = As.reverse ++ rest) (hW : 2 * g.monitorRoom + (rest.map fun v => v.category).sum ≤ 8) (hdg : decode cc g.pc = .ok (.invokestatic index, 3)) (hf : cells + 1 ≤ R.cells ∧ slots + 6 ≤ R.slots) :
    xt_Run p l e R s m args below meth c H locs cells slots g rest C := by
  obtain ⟨⟨hrc, hrs, hfr, hlo, hws, hcw, hcode, hini, hy, hlen, hl⟩, hstt⟩ := cw
  obtain ⟨hx, hb, hml, ho, -⟩ := S
  intro T hT X
  obtain ⟨mk, hnamed⟩ := Cond.code_named hcode
  obtain ⟨methM, cM, hmethM, -, -, -, -, -, -, hsigM⟩ := Cond.code_spec hnamed hcode
  have hstatic : methM.isStatic = true := Cond.static_spec hnamed hmethM hstt
  obtain ⟨kP, hkP, -⟩ := className_of_methodNamed hnamed
  have hinitP : kP.init = .initialized := Cond.initialized_spec (findClass_of_methodNamed hnamed) hkP hini
  obtain ⟨vm₁, X₁, hstep₁⟩ := X.invokestatic hx ho hl hnamed hmethM hstatic hkP hinitP hy (g := g) hg (argsL := As) (rest := rest) (hn.trans (hlen _ hsigM)) hstack (by rw [hb]; exact hdg)
  obtain ⟨x, ce, T', X', k1, k2, k3, k4, k5, k6, st⟩ := xt_back (bytes := bytes) (maxL := maxL) (ret := ret) hM hp.1 hrc hrs hfr hlo hws hcw (fun a' U hW => word_at hW (Or.inl (by first | rfl | simp [Cond.onTables, Cond.keeps, Cond.steady])) hini) X₁ (g := { g with stack := rest }) hg (hsize.trans hml.symm) (ig := .invokestatic index) (by rw [hb]; exact hdg) hW (X₁.named hnamed) hf.1 hf.2 (hp.2 (T.setVm vm₁) hT X₁.warmed)
  have hh : (T.setVm vm₁).heap = H := hT
  rw [hh] at k4 k5 k6
  exact ⟨x, ce, T', X', k1, k2, k3, k4, k5, k6, fun target h => hstep₁ _ fun acts => by rw [doInvoke_state]; exact st.trans h⟩
/-- 'invokevirtual' of a method that throws -/
theorem xt_runV {H : Heap} {locs : List Loc} {cells slots : Nat} {y : MethodName} {ws : List Cond} {rm : Room} {Pc : Array Value → State → Prop} {C Cr : String} {bytes cc : ByteArray} {maxL nL n index : Nat} {ret : Option FieldType} {Ts : List Cond} {own : String} {b : Addr} {As rest : List Value} {g : JFrame}
    (S : CallFix p m c cc nL s args Ts own) (hM : xt_Met l y ws rm Pc C) (cw : CallW R s args own Cr index y bytes maxL ret ws rm 1 6 n) (hp : PreV s H Cr b Pc As)
    (hg : g.method = m) (hn : As.length = n) (hsize : g.locals.size = nL) (hstack : g.stack = As.reverse ++ .ref b :: rest) (hW : 2 * g.monitorRoom + (rest.map fun v => v.category).sum ≤ 8) (hdg : decode cc g.pc = .ok (.invokevirtual index, 3)) (hf : cells + 1 ≤ R.cells ∧ slots + 6 ≤ R.slots) :
    xt_Run p l e R s m args below meth c H locs cells slots g rest C := by
  obtain ⟨⟨hrc, hrs, hfr, hlo, hws, hcw, hcode, hini, hy, hlen, hl⟩, hin, hse⟩ := cw
  obtain ⟨hx, hb, hml, ho, -⟩ := S
  obtain ⟨hbl, ⟨cellB, hcB, hoB, hclB⟩, hPc⟩ := hp
  intro T hT X
  obtain ⟨mk, methM, hnamed, hmethM, hstM, habM⟩ := Cond.instanceMethod_spec hin
  obtain ⟨methM', cM, hmethM', -, -, -, -, -, -, hsigM⟩ := Cond.code_spec hnamed hcode
  cases hmethM.symm.trans hmethM'
  obtain ⟨c2, r2, m2, q1, q2, q3, q4, kP, hkP, hkPi⟩ := Cond.selects_spec hse
  cases hclB.symm.trans q1
  cases (State.methodFound?_of_named hnamed hy).symm.trans q2
  cases hnamed.symm.trans q3
  have hselP : selectMethod e.platform s.vm cellB.cls mk = .method mk := by rw [Launch.admits_selectMethod X.admits]; exact q4
  obtain ⟨vm₁, X₁, hstep₁⟩ := X.invokevirtual hx ho hl hnamed hmethM hstM hkP hkPi hy (a := b) (cell := cellB) (by rw [hT]; exact hcB)
    (fun z h => by rw [h] at hoB; cases hoB) hselP hmethM habM hkP hkPi (g := g) hg (argsL := As) (rest := rest) (hn.trans (hlen _ hsigM)) hstack (by rw [hb]; exact hdg)
  obtain ⟨x, ce, T', X', k1, k2, k3, k4, k5, k6, st⟩ := xt_back (bytes := bytes) (maxL := maxL) (ret := ret) hM hbl hrc hrs hfr hlo hws hcw (fun a' U hW => word_at hW (Or.inl (by first | rfl | simp [Cond.onTables, Cond.keeps, Cond.steady])) hini) X₁ (g := { g with stack := rest }) hg (hsize.trans hml.symm) (ig := .invokevirtual index) (by rw [hb]; exact hdg) hW (X₁.named hnamed) hf.1 hf.2 (hPc (T.setVm vm₁) hT X₁.warmed)
  have hh : (T.setVm vm₁).heap = H := hT
  rw [hh] at k4 k5 k6
  exact ⟨x, ce, T', X', k1, k2, k3, k4, k5, k6, fun target h => hstep₁ _ fun acts => by rw [doInvoke_state]; exact st.trans h⟩
/-- what the callee threw goes on to the caller's caller -/
theorem xt_pass {C : String} {st0 rest : List Value} (hlocks : meth.locks = false) (hex : c.exceptionTable.isEmpty = true) (hr : xt_Run p l e R s m args below meth c s.heap [] 0 0 (F0 m pc ls st0) rest C) : W p l e R s m args below meth c s.heap [] 0 0 (xt_MQ below C args s) (F0 m pc ls st0) := by
  intro T hT X
  obtain ⟨x, ce, T', X', k1, k2, k3, k4, k5, k6, st⟩ := hr T hT X
  obtain ⟨h1, h2, h3, h4, h5⟩ := X'.leaveThrown x (g := { F0 m pc ls st0 with stack := rest }) rfl rfl rfl (xt_out hex _) hlocks
  exact ⟨_, st _ h1, .threw x, h2, h3, ⟨x, ce, rfl, k1, k2, k3, k4, k5, k6⟩, ⟨_, rfl⟩, h4, h5⟩
end XT
end
section
/-! catching: the search through the own method's table, the catch types cold or warm -/
def xc_To (e : Env) (s : State) (f : JFrame) (a : Addr) (h : Handler) (vm' : Vm) : Prop :=
  ∀ (Q : Handler → Pre) (E : CtlPost) (d : Bool) (acts : List Action), wp (findHandler f a) Q E e d acts s ↔ Q h d acts (s.setVm vm')
theorem xc_go {Q : Handler → Pre} {E : CtlPost} {e : Env} {d : Bool} {acts : List Action} {s : State} {f : JFrame} {a : Addr} {x : ExceptionTableEntry} {t : List ExceptionTableEntry} {c : ClassId} {cell : Cell} (hx : covers x f.pc = true) (h0 : x.catchType ≠ 0)
    (hl : s.vm.ClassLinks e.platform f.method.cls x.catchType c) (hcell : s.heap[a]? = some cell) (hobj : ∀ k, cell.vm ≠ .statics k) (hk : ∃ k, s.vm.classes[cell.cls]? = some k) (hc : ∃ k, s.vm.classes[c]? = some k) :
    wp (findHandler.go f a (x :: t)) Q E e d acts s ↔ if s.vm.assignable cell.cls c = true then Q (.found x.handlerPc) d acts (s.setVm (s.vm.noted f.method.cls x.catchType (.cls c))) else wp (findHandler.go f a t) Q E e d acts (s.setVm (s.vm.noted f.method.cls x.catchType (.cls c))) := by
  simp only [covers] at hx
  obtain ⟨ha, ht⟩ := (resolveClass_links e.toSetting hl).op (op := VmOp.resolveClass f.method.cls x.catchType) rfl
  have hal : s.vm.Alike (s.vm.noted f.method.cls x.catchType (.cls c)) := (Vm.Alike.refl s.vm).noted _ _ _
  obtain ⟨k1, hk1⟩ := hk
  obtain ⟨k2, hk2⟩ := hc
  obtain ⟨k1', hk1', -⟩ := hal.2.2 _ _ hk1
  obtain ⟨k2', hk2', -⟩ := hal.2.2 _ _ hk2
  have hasg : (s.vm.noted f.method.cls x.catchType (.cls c)).assignable cell.cls c = s.vm.assignable cell.cls c := by rw [hal.assignable]
  by_cases hf : s.vm.assignable cell.cls c = true
  · rw [if_pos hf]
    simp [findHandler.go, hx, h0, ha, ht, hcell, hobj, hk1', hk2', hasg, hf, VmOp.dirties, VmOp.acts]
  · rw [if_neg hf]
    simp only [Bool.not_eq_true] at hf
    simp [findHandler.go, hx, h0, ha, ht, hcell, hobj, hk1', hk2', hasg, hf, VmOp.dirties, VmOp.acts]
theorem xc_step {e : Env} {s : State} {a : Addr} {f : JFrame} {r : List Frame} {pc : Nat} {vm' : Vm} (hfind : xc_To e s f a (.found pc) vm') :
    (stepThrowing e s a (.java f :: r)).Is ((s.setVm vm').setFrames (.java { f with pc := pc, stack := [.ref a] } :: r)) [] := by
  simp only [stepThrowing, searchFrame, vmDo]
  generalize hr : Sem.go _ e false [] s = res
  obtain ⟨as, rfl, ha⟩ := Sem.eq_ok_of hr (a := Handler.found pc) (s' := s.setVm vm') (acts' := []) (by simp [hfind _ _ _ _])
  exact ⟨rfl, ha⟩
theorem xc_frames (u : State) (vm' : Vm) (F G : List Frame) : ((u.setFrames F).setVm vm').setFrames G = (u.setVm vm').setFrames G := by
  have h1 : (u.setFrames F).setVm vm' = (u.setVm vm').setFrames F := rfl
  rw [h1, State.setFrames_setFrames]
theorem xc_steps {tb : Tables} {e : Env} {s target : State} {g : JFrame} {c : Code} {below : List Frame} {a : Addr} (h : At s g.method c below) {pc : Nat} {vm' : Vm}
    (hfind : xc_To e ((s.setTop g).pushFrame (.throwing a)) g a (.found pc) vm') (hrest : Steps tb e below ((s.setVm vm').setTop { g with pc := pc, stack := [.ref a] }) target) :
    Steps tb e below ((s.setTop g).pushFrame (.throwing a)) target := by
  obtain ⟨hgo, hw⟩ := h.throwing a
  refine Steps.head hgo hw ?_
  rw [stepThread_throwing (frames_entered h.top _), (xc_step (s := (s.setTop g).pushFrame (.throwing a)) hfind).1]
  obtain ⟨g₀, hg⟩ := Option.isSome_iff_exists.mp h.top
  obtain ⟨r, hr⟩ := State.topJava?_eq_some.mp hg
  have hr' : (s.setVm vm').frames = .java g₀ :: r := hr
  rw [State.setTop_of_frames _ hr'] at hrest
  rw [hr, List.tail_cons, State.pushFrame, xc_frames, State.setTop_of_frames _ hr, xc_frames]
  exact hrest
section XC
variable {p : Program} {l : Launch} {e : Env} {R : Room} {s : State} {m : MethodId} {args : Array Value} {below : List Frame} {meth : Method} {c : Code} {T : State} {locs : List Loc} {cells slots : Nat}
/-- the first entry catches -/
theorem xc_one (X : Stand p l e R s m args below meth c T locs cells slots) (a : Addr) {g : JFrame} (hg : g.method = m) {own name : String} (hown : s.vm.findClass own = some m.cls)
    {x : ExceptionTableEntry} {rest : List ExceptionTableEntry} (hsplit : c.exceptionTable.toList = x :: rest) (hx : covers x g.pc = true) (h0 : x.catchType ≠ 0)
    (hlink : (Cond.classLink own x.catchType name).before args s = true) {cell : Cell} {k0 : Class} (hk0 : s.vm.classes[cell.cls]? = some k0) (hcell : T.heap[a]? = some cell) (hobj : cell.vm = .none) {cT : ClassId} (hcT : s.vm.findClass name = some cT) (hfit : s.vm.assignable cell.cls cT = true) :
    ∃ vm', Stand p l e R s m args below meth c (T.setVm vm') locs cells slots ∧
      ∀ target, Steps p.tables e below ((T.setVm vm').setTop { g with pc := x.handlerPc, stack := [.ref a] }) target → Steps p.tables e below ((T.setTop g).pushFrame (.throwing a)) target := by
  have hpl : e.platform.magicAccessors = ({} : Platform).magicAccessors := by rw [X.admits.platform]
  obtain ⟨c', hc', hcl⟩ := Cond.classLink_spec hown hlink e.platform hpl
  cases hcT.symm.trans hc'
  obtain ⟨dk, _, _, kt, hd, _, _, _, _, hkt, _, hopen⟩ := hcl.here
  have hcl₀ := X.warmed.classLinks hcl
  have hW' : s.WarmedH (T.vm.noted m.cls x.catchType (.cls cT)) := X.warmed.noted hd hopen (State.rightAt_cls hcl)
  have hal := X.warmed.alike
  obtain ⟨kt', hkt', -⟩ := hal.2.2 _ _ hkt
  obtain ⟨k0', hk0', -⟩ := hal.2.2 _ _ hk0
  have hfit' : T.vm.assignable cell.cls cT = true := by rw [hal.assignable]; exact hfit
  refine ⟨_, X.noted hW', fun target hrest => ?_⟩
  subst hg
  refine xc_steps X.here ?_ hrest
  intro Q E d acts
  rw [W.findHandler_eq (s := (T.setTop g).pushFrame (.throwing a)) (meth := meth) (code := c) X.method' X.code, hsplit]
  rw [xc_go (s := (T.setTop g).pushFrame (.throwing a)) (c := cT) (cell := cell) hx h0 hcl₀ hcell (fun k hk => by rw [hobj] at hk; cases hk) ⟨k0', hk0'⟩ ⟨kt', hkt'⟩]
  exact Iff.of_eq (if_pos hfit')
/-- the first entry lets it by, the second catches -/
theorem xc_two (X : Stand p l e R s m args below meth c T locs cells slots) (a : Addr) {g : JFrame} (hg : g.method = m) {own n1 n2 : String} (hown : s.vm.findClass own = some m.cls)
    {x1 x2 : ExceptionTableEntry} {rest : List ExceptionTableEntry} (hsplit : c.exceptionTable.toList = x1 :: x2 :: rest) (hx1 : covers x1 g.pc = true) (h01 : x1.catchType ≠ 0) (hx2 : covers x2 g.pc = true) (h02 : x2.catchType ≠ 0)
    (hlink1 : (Cond.classLink own x1.catchType n1).before args s = true) (hlink2 : (Cond.classLink own x2.catchType n2).before args s = true) {cell : Cell} {k0 : Class} (hk0 : s.vm.classes[cell.cls]? = some k0) (hcell : T.heap[a]? = some cell) (hobj : cell.vm = .none) {c1 c2 : ClassId} (hc1 : s.vm.findClass n1 = some c1) (hno : s.vm.assignable cell.cls c1 = false) (hc2 : s.vm.findClass n2 = some c2) (hfit : s.vm.assignable cell.cls c2 = true) :
    ∃ vm', Stand p l e R s m args below meth c (T.setVm vm') locs cells slots ∧
      ∀ target, Steps p.tables e below ((T.setVm vm').setTop { g with pc := x2.handlerPc, stack := [.ref a] }) target → Steps p.tables e below ((T.setTop g).pushFrame (.throwing a)) target := by
  have hpl : e.platform.magicAccessors = ({} : Platform).magicAccessors := by rw [X.admits.platform]
  obtain ⟨c1', hc1', hcl1⟩ := Cond.classLink_spec hown hlink1 e.platform hpl
  cases hc1.symm.trans hc1'
  obtain ⟨c2', hc2', hcl2⟩ := Cond.classLink_spec hown hlink2 e.platform hpl
  cases hc2.symm.trans hc2'
  obtain ⟨dk1, _, _, kt1, hd1, _, _, _, _, hkt1, _, hopen1⟩ := hcl1.here
  obtain ⟨dk2, _, _, kt2, hd2, _, _, _, _, hkt2, _, hopen2⟩ := hcl2.here
  have hl1 := X.warmed.classLinks hcl1
  have hW1 : s.WarmedH (T.vm.noted m.cls x1.catchType (.cls c1)) := X.warmed.noted hd1 hopen1 (State.rightAt_cls hcl1)
  have hl2 := hW1.classLinks hcl2
  have hW2 : s.WarmedH ((T.vm.noted m.cls x1.catchType (.cls c1)).noted m.cls x2.catchType (.cls c2)) := hW1.noted hd2 hopen2 (State.rightAt_cls hcl2)
  obtain ⟨kt1', hkt1', -⟩ := X.warmed.alike.2.2 _ _ hkt1
  obtain ⟨k0', hk0', -⟩ := X.warmed.alike.2.2 _ _ hk0
  obtain ⟨kt2', hkt2', -⟩ := hW1.alike.2.2 _ _ hkt2
  obtain ⟨k0'', hk0'', -⟩ := hW1.alike.2.2 _ _ hk0
  have hno' : ¬ T.vm.assignable cell.cls c1 = true := by rw [X.warmed.alike.assignable, hno]; decide
  have hfit' : (T.vm.noted m.cls x1.catchType (.cls c1)).assignable cell.cls c2 = true := by rw [hW1.alike.assignable]; exact hfit
  refine ⟨_, X.noted hW2, fun target hrest => ?_⟩
  subst hg
  refine xc_steps X.here ?_ hrest
  intro Q E d acts
  rw [W.findHandler_eq (s := (T.setTop g).pushFrame (.throwing a)) (meth := meth) (code := c) X.method' X.code, hsplit]
  rw [xc_go (s := (T.setTop g).pushFrame (.throwing a)) (c := c1) (cell := cell) hx1 h01 hl1 hcell (fun k hk => by rw [hobj] at hk; cases hk) ⟨k0', hk0'⟩ ⟨kt1', hkt1'⟩]
  refine (Iff.of_eq (if_neg hno')).trans ?_
  refine (xc_go (s := ((T.setTop g).pushFrame (.throwing a)).setVm (T.vm.noted g.method.cls x1.catchType (.cls c1))) (c := c2) (cell := cell) hx2 h02 hl2 hcell (fun k hk => by rw [hobj] at hk; cases hk) ⟨k0'', hk0''⟩ ⟨kt2', hkt2'⟩).trans ?_
  exact Iff.of_eq (if_pos hfit')
end XC
end
section
def xt_odd (w : Cond) : Bool := match w with
  | .declares x => decide (Cond.declares x ∈ lw_tbl)
  | .castable a b => decide (Cond.castable a b ∈ lw_tbl)
  | .laysStatic a b d => decide (Cond.laysStatic a b d ∈ lw_tbl)
  | .isRef (.static a b d) => decide (a = "java/lang/Throwable" ∧ ((b = "UNASSIGNED_STACK" ∧ d = "[Ljava/lang/StackTraceElement;") ∨ (b = "SUPPRESSED_SENTINEL" ∧ d = "Ljava/util/List;")))
  | _ => false
def xt_names : List String := ["java/lang/RuntimeException", "java/lang/Exception"]
theorem xt_a1 : (Bundle.ownAtoms "NailRules" 164 "java/lang/IndexOutOfBoundsException" xt_names).all (fun w => decide (w ∈ lw_gd) || xt_odd w) = true := by decide +kernel
theorem xt_a2 : (Bundle.ownAtoms "NailRules" 133 "java/lang/IllegalArgumentException" xt_names).all (fun w => decide (w ∈ lw_gd) || xt_odd w) = true := by decide +kernel
theorem xt_a3 : (Bundle.ownAtoms "NailRules" 113 "java/lang/IllegalStateException" xt_names).all (fun w => decide (w ∈ lw_gd) || xt_odd w) = true := by decide +kernel
abbrev xt_nar : List Cond := flatC (Jvm.Cond.and given_1 narrow_1)
theorem xt_n1 : (Cond.isRef (.static "java/lang/Throwable" "UNASSIGNED_STACK" "[Ljava/lang/StackTraceElement;")) ∈ xt_nar := by decide +kernel
theorem xt_n2 : (Cond.isRef (.static "java/lang/Throwable" "SUPPRESSED_SENTINEL" "Ljava/util/List;")) ∈ xt_nar := by decide +kernel
theorem xt_l1 : (Cond.laysStatic "java/lang/Throwable" "UNASSIGNED_STACK" "[Ljava/lang/StackTraceElement;") ∈ lw_tbl := by decide +kernel
theorem xt_l2 : (Cond.laysStatic "java/lang/Throwable" "SUPPRESSED_SENTINEL" "Ljava/util/List;") ∈ lw_tbl := by decide +kernel
theorem xt_l3 : (Cond.initialized "java/lang/Throwable") ∈ lw_tbl := by decide +kernel
theorem xt_atoms {l : Launch} {s0 U : State} {dC : Nat → ClassId} {dI : Nat → Nat → Nat} {tys : List (ClassId × FieldType)} (E : xb_Env l s0 dC dI tys) (h : xb_At s0 U) (a : Array Value) {ws : List Cond} (hall : ws.all (fun w => decide (w ∈ lw_gd) || xt_odd w) = true) : ∀ w ∈ ws, w.before a U = true := by
  intro w hw
  have h1 := List.all_eq_true.mp hall w hw
  rw [Bool.or_eq_true] at h1
  rcases h1 with h1 | h1
  · exact xb_hts E h a w (of_decide_eq_true h1)
  · obtain ⟨-, ⟨a0, hw0, hn0⟩, -⟩ := E
    unfold xt_odd at h1
    split at h1
    · exact va_Nw.use rfl (va_Nw.warmD h.1 (va_Nw.of rfl (hw0 _ (of_decide_eq_true h1))))
    · exact va_Nw.use rfl (va_Nw.warmC h.1 (va_Nw.of rfl (hw0 _ (of_decide_eq_true h1))))
    · exact xt_ls h (hw0 _ (of_decide_eq_true h1))
    · have h2 := of_decide_eq_true h1
      obtain ⟨rfl, ⟨rfl, rfl⟩ | ⟨rfl, rfl⟩⟩ := h2
      · exact xt_rs h (hw0 _ xt_l1) (hw0 _ xt_l3) (flat_of_before _ hn0 _ xt_n1)
      · exact xt_rs h (hw0 _ xt_l2) (hw0 _ xt_l3) (flat_of_before _ hn0 _ xt_n2)
    · cases h1
theorem xt_str {l : Launch} {s0 U : State} {dC : Nat → ClassId} {dI : Nat → Nat → Nat} {tys : List (ClassId × FieldType)} (E : xb_Env l s0 dC dI tys) (h : xb_At s0 U) {own tx : String} {k : Nat} (hw : Cond.stringRef own k tx ∈ lw_tbl) (hn : Cond.exactly (.string own k) "java/lang/String" ∈ xt_nar) : ∃ q, vk_R own k tx q U := by
  obtain ⟨-, ⟨a0, hw0, hn0⟩, -⟩ := E
  have h1 := flat_of_before _ hn0 _ hn
  obtain ⟨q, cc, cell, k1, h2, -⟩ := Cond.exactly_spec h1
  exact ⟨q, vk_R.warm h.1 (vk_R.of (hw0 _ hw) h2)⟩
end
section
theorem xp_ne0 {g : Int32} (h : 1 ≤ g) : ¬ g = 0 := fun q => absurd (q ▸ h) (by decide)
theorem xp_look {i len : Int32} (h0 : ¬ i < 0) (h1 : ¬ len ≤ i) (h2 : len ≤ 200) : vp_in i 200 := by
  rw [vp_in_iff]
  simp only [Int32.lt_iff_toInt_lt, Int32.le_iff_toInt_le] at h0 h1 h2
  have e0 : (0 : Int32).toInt = 0 := by decide
  have e2 : (200 : Int32).toInt = 200 := by decide
  omega
theorem xp_now {i len : Int32} (h0 : 0 ≤ i) (h2 : len ≤ 200) (h1 : ¬ len ≤ i) : vp_in i 200 := by
  rw [vp_in_iff]
  simp only [Int32.le_iff_toInt_le] at h0 h1 h2
  have e0 : (0 : Int32).toInt = 0 := by decide
  have e2 : (200 : Int32).toInt = 200 := by decide
  omega
def fT_isDigit (u : Int32) : Bool := if u < 48 then (false) else (if 57 < u then (false) else (true))
set_option maxHeartbeats 4000000 in
set_option maxRecDepth 100000 in
theorem cT_isDigit (l : Launch) {s0 : State} {dC : Nat → ClassId} {dI : Nat → Nat → Nat} {cI cC cL : ClassId} (E : xb_Env l s0 dC dI (xtys cI cC cL)) (u : Int32) : Met l yT_isDigit [.code yT_isDigit bT_isDigit 1 (some (.boolean))] ({ frames := 0, cells := 0, slots := 0, locals := 0 }) (va_Pc [.int u] (fun U => xb_At s0 U ∧ va_P (dC, dI) classes [] U.heap)) (xb_R (some (.int (xb_bi (fT_isDigit u))))) 0 0 (fun _ => False) := by
  refine Met.ofW (cc := bT_isDigit) (maxL := 1) (ret := (some (.boolean))) (by decide) rfl ?_
  intro p e s m args below meth c s₁ B hml hv
  obtain ⟨rfl, hAt, hP⟩ := hv
  have hx := B.exec
  have hb := B.bytes
  have hr := B.returns
  have hts := xb_hts E hAt ([.int u] : List Value).toArray
  have hown : s.vm.findClass "NailRules$Text" = some m.cls := findClass_of_methodNamed B.named
  have hlocks := B.notSynchronized
  have hK := xb_K E hAt
  have hl := lv_entry ([.int u]) (n := 1) (Nat.le_of_ble_eq_true rfl)
  rw [lg_entry_eq]
  generalize (lg_sl ([.int u]) ++ List.replicate (1 - (lg_sl ([.int u])).length) Slot.unset).toArray = ls at hl ⊢
  have hl : lv_has ls 1 [(0, .int u)] := hl
  refine lv_iload_n hx hb dT_isDigit_0 rfl (lv_at hl 0 rfl) ?_
  refine lv_bipush (v := 48) hx hb dT_isDigit_1 (by decide) ?_
  refine lv_icmp_lt (tgt := 16) hx hb dT_isDigit_3 (by decide) (fun c_1 => ?_) (fun c_1 => ?_)
  · refine lv_iconst (v := 0) hx hb dT_isDigit_16 (by decide) ?_
    have e_f : fT_isDigit u = false := (if_pos c_1).trans (rfl)
    exact W.zret (v := 0) hx hb hr (by decide) (fun t ht hW => ⟨by rw [e_f]; try rfl, ht⟩) (fun _ h => by cases h) dT_isDigit_17
  · refine lv_iload_n hx hb dT_isDigit_6 rfl (lv_at hl 0 rfl) ?_
    refine lv_bipush (v := 57) hx hb dT_isDigit_7 (by decide) ?_
    refine lv_icmp_gt (tgt := 16) hx hb dT_isDigit_9 (by decide) (fun c_2 => ?_) (fun c_2 => ?_)
    · refine lv_iconst (v := 0) hx hb dT_isDigit_16 (by decide) ?_
      have e_f : fT_isDigit u = false := (if_neg c_1).trans ((if_pos c_2).trans (rfl))
      exact W.zret (v := 0) hx hb hr (by decide) (fun t ht hW => ⟨by rw [e_f]; try rfl, ht⟩) (fun _ h => by cases h) dT_isDigit_17
    · refine lv_iconst (v := 1) hx hb dT_isDigit_12 (by decide) ?_
      refine lv_goto (tgt := 17) hx hb dT_isDigit_13 (by decide) ?_
      have e_f : fT_isDigit u = true := (if_neg c_1).trans ((if_neg c_2).trans (rfl))
      exact W.zret (v := 1) hx hb hr (by decide) (fun t ht hW => ⟨by rw [e_f]; try rfl, ht⟩) (fun _ h => by cases h) dT_isDigit_17

def fT_kindOf (u : Int32) : Int32 := if u = 98 then (2) else (if u = 100 then (3) else (if u = 110 then (0) else (if u = 115 then (1) else ((-1)))))
set_option maxHeartbeats 4000000 in
set_option maxRecDepth 100000 in
theorem cT_kindOf (l : Launch) {s0 : State} {dC : Nat → ClassId} {dI : Nat → Nat → Nat} {cI cC cL : ClassId} (E : xb_Env l s0 dC dI (xtys cI cC cL)) (u : Int32) : Met l yT_kindOf [.code yT_kindOf bT_kindOf 1 (some (.int))] ({ frames := 0, cells := 0, slots := 0, locals := 0 }) (va_Pc [.int u] (fun U => xb_At s0 U ∧ va_P (dC, dI) classes [] U.heap)) (xb_R (some (.int (fT_kindOf u)))) 0 0 (fun _ => False) := by
  refine Met.ofW (cc := bT_kindOf) (maxL := 1) (ret := (some (.int))) (by decide) rfl ?_
  intro p e s m args below meth c s₁ B hml hv
  obtain ⟨rfl, hAt, hP⟩ := hv
  have hx := B.exec
  have hb := B.bytes
  have hr := B.returns
  have hts := xb_hts E hAt ([.int u] : List Value).toArray
  have hown : s.vm.findClass "NailRules$Text" = some m.cls := findClass_of_methodNamed B.named
  have hlocks := B.notSynchronized
  have hK := xb_K E hAt
  have hl := lv_entry ([.int u]) (n := 1) (Nat.le_of_ble_eq_true rfl)
  rw [lg_entry_eq]
  generalize (lg_sl ([.int u]) ++ List.replicate (1 - (lg_sl ([.int u])).length) Slot.unset).toArray = ls at hl ⊢
  have hl : lv_has ls 1 [(0, .int u)] := hl
  refine lv_iload_n hx hb dT_kindOf_0 rfl (lv_at hl 0 rfl) ?_
  by_cases c_1 : u = 98
  · refine lv_lookup (off := 47) (tgt := 48) hx hb dT_kindOf_1 (by decide) (by rw [c_1]; decide) (by decide) ?_
    refine lv_iconst (v := 2) hx hb dT_kindOf_48 (by decide) ?_
    have e_f : fT_kindOf u = 2 := (if_pos c_1).trans (rfl)
    exact W.iret (v := 2) hx hb hr (fun t ht hW => ⟨by rw [e_f], ht⟩) (fun _ h => by cases h) dT_kindOf_49
  by_cases c_2 : u = 100
  · refine lv_lookup (off := 49) (tgt := 50) hx hb dT_kindOf_1 (by decide) (by rw [c_2]; decide) (by decide) ?_
    refine lv_iconst (v := 3) hx hb dT_kindOf_50 (by decide) ?_
    have e_f : fT_kindOf u = 3 := (if_neg c_1).trans ((if_pos c_2).trans (rfl))
    exact W.iret (v := 3) hx hb hr (fun t ht hW => ⟨by rw [e_f], ht⟩) (fun _ h => by cases h) dT_kindOf_51
  by_cases c_3 : u = 110
  · refine lv_lookup (off := 43) (tgt := 44) hx hb dT_kindOf_1 (by decide) (by rw [c_3]; decide) (by decide) ?_
    refine lv_iconst (v := 0) hx hb dT_kindOf_44 (by decide) ?_
    have e_f : fT_kindOf u = 0 := (if_neg c_1).trans ((if_neg c_2).trans ((if_pos c_3).trans (rfl)))
    exact W.iret (v := 0) hx hb hr (fun t ht hW => ⟨by rw [e_f], ht⟩) (fun _ h => by cases h) dT_kindOf_45
  by_cases c_4 : u = 115
  · refine lv_lookup (off := 45) (tgt := 46) hx hb dT_kindOf_1 (by decide) (by rw [c_4]; decide) (by decide) ?_
    refine lv_iconst (v := 1) hx hb dT_kindOf_46 (by decide) ?_
    have e_f : fT_kindOf u = 1 := (if_neg c_1).trans ((if_neg c_2).trans ((if_neg c_3).trans ((if_pos c_4).trans (rfl))))
    exact W.iret (v := 1) hx hb hr (fun t ht hW => ⟨by rw [e_f], ht⟩) (fun _ h => by cases h) dT_kindOf_47
  refine lv_lookup (off := 51) (tgt := 52) hx hb dT_kindOf_1 (by decide) (by refine (lv_osw c_1 (by decide)).trans ?_; refine (lv_osw c_2 (by decide)).trans ?_; refine (lv_osw c_3 (by decide)).trans ?_; refine (lv_osw c_4 (by decide)).trans ?_; rfl) (by decide) ?_
  refine lv_iconst (v := (-1)) hx hb dT_kindOf_52 (by decide) ?_
  have e_f : fT_kindOf u = (-1) := (if_neg c_1).trans ((if_neg c_2).trans ((if_neg c_3).trans ((if_neg c_4).trans (rfl))))
  exact W.iret (v := (-1)) hx hb hr (fun t ht hW => ⟨by rw [e_f], ht⟩) (fun _ h => by cases h) dT_kindOf_53

def fT_look (uf : Nat → Int32) (len : Int32) (i : Int32) : Int32 := if i < 0 then ((-1)) else (if len ≤ i then ((-1)) else (uf i.toNatClampNeg))
set_option maxHeartbeats 4000000 in
set_option maxRecDepth 100000 in
theorem cT_look (l : Launch) {s0 : State} {dC : Nat → ClassId} {dI : Nat → Nat → Nat} {cI cC cL : ClassId} (E : xb_Env l s0 dC dI (xtys cI cC cL)) (h0 : Nat) (fs : List Value) (ua : Nat) (uf : Nat → Int32) (len : Int32) (i : Int32) (hf0 : fs[0]? = some (.ref ua)) (hf1 : fs[1]? = some (.int len)) (hlen : len ≤ 200) : Met l yT_look [.code yT_look bT_look 2 (some (.int))] ({ frames := 0, cells := 0, slots := 0, locals := 0 }) (va_Pc [.ref h0, .int i] (fun U => xb_At s0 U ∧ va_P (dC, dI) classes [(h0, .inr (1, fs)), (ua, .inl (cC, 200, .inl uf))] U.heap)) (xb_R (some (.int (fT_look uf len i)))) 0 0 (fun _ => False) := by
  refine Met.ofW (cc := bT_look) (maxL := 2) (ret := (some (.int))) (by decide) rfl ?_
  intro p e s m args below meth c s₁ B hml hv
  obtain ⟨rfl, hAt, hP⟩ := hv
  have hx := B.exec
  have hb := B.bytes
  have hr := B.returns
  have hts := xb_hts E hAt ([.ref h0, .int i] : List Value).toArray
  have hown : s.vm.findClass "NailRules$Text" = some m.cls := findClass_of_methodNamed B.named
  have hlocks := B.notSynchronized
  have hK := xb_K E hAt
  have hl := lv_entry ([.ref h0, .int i]) (n := 2) (Nat.le_of_ble_eq_true rfl)
  rw [lg_entry_eq]
  generalize (lg_sl ([.ref h0, .int i]) ++ List.replicate (2 - (lg_sl ([.ref h0, .int i])).length) Slot.unset).toArray = ls at hl ⊢
  have hl : lv_has ls 2 [(0, .ref h0), (1, .int i)] := hl
  refine lv_iload_n hx hb dT_look_0 rfl (lv_at hl 1 rfl) ?_
  refine lv_if_lt (tgt := 21) hx hb dT_look_1 (by decide) (fun c_1 => ?_) (fun c_1 => ?_)
  · refine lv_iconst (v := (-1)) hx hb dT_look_21 (by decide) ?_
    have e_f : fT_look uf len i = (-1) := (if_pos c_1).trans (rfl)
    exact W.iret (v := (-1)) hx hb hr (fun t ht hW => ⟨by rw [e_f], ht⟩) (fun _ h => by cases h) dT_look_22
  · refine lv_iload_n hx hb dT_look_4 rfl (lv_at hl 1 rfl) ?_
    refine lv_aload_n hx hb dT_look_5 rfl (lv_at hl 0 rfl) ?_
    refine va_get (D := (dC, dI)) (ci := 1) (v := .int len) (C := xR_T) (T := xF_T) (N := 3) hx hb hts xi_T hown hK hP 0 rfl rfl 1 (by decide) (hts _ xk_77) (fun _ h9 => h9) hf1 dT_look_6 ?_
    refine lv_icmp_ge (tgt := 21) hx hb dT_look_9 (by decide) (fun c_2 => ?_) (fun c_2 => ?_)
    · refine lv_iconst (v := (-1)) hx hb dT_look_21 (by decide) ?_
      have e_f : fT_look uf len i = (-1) := (if_neg c_1).trans ((if_pos c_2).trans (rfl))
      exact W.iret (v := (-1)) hx hb hr (fun t ht hW => ⟨by rw [e_f], ht⟩) (fun _ h => by cases h) dT_look_22
    · refine lv_aload_n hx hb dT_look_12 rfl (lv_at hl 0 rfl) ?_
      refine va_get (D := (dC, dI)) (ci := 1) (v := .ref ua) (C := xR_T) (T := xF_T) (N := 3) hx hb hts xi_T hown hK hP 0 rfl rfl 0 (by decide) (hts _ xk_76) (fun _ h9 => h9) hf0 dT_look_13 ?_
      refine lv_iload_n hx hb dT_look_16 rfl (lv_at hl 1 rfl) ?_
      have o_3 : vp_in i 200 := by exact xp_look (by assumption) (by assumption) hlen
      refine va_cald hx hb hK hP 1 1 rfl rfl o_3 dT_look_17 ?_
      refine lv_goto (tgt := 22) hx hb dT_look_18 (by decide) ?_
      have e_f : fT_look uf len i = uf i.toNatClampNeg := (if_neg c_1).trans ((if_neg c_2).trans (rfl))
      exact W.iret (v := (uf i.toNatClampNeg)) hx hb hr (fun t ht hW => ⟨by rw [e_f], ht⟩) (fun _ h => by cases h) dT_look_22

def fT_ended (len : Int32) (nx : Int32) : Bool := if nx < len then (false) else (true)
set_option maxHeartbeats 4000000 in
set_option maxRecDepth 100000 in
theorem cT_ended (l : Launch) {s0 : State} {dC : Nat → ClassId} {dI : Nat → Nat → Nat} {cI cC cL : ClassId} (E : xb_Env l s0 dC dI (xtys cI cC cL)) (h0 : Nat) (fs : List Value) (len : Int32) (nx : Int32) (hf1 : fs[1]? = some (.int len)) (hf2 : fs[2]? = some (.int nx)) : Met l yT_ended [.code yT_ended bT_ended 1 (some (.boolean))] ({ frames := 0, cells := 0, slots := 0, locals := 0 }) (va_Pc [.ref h0] (fun U => xb_At s0 U ∧ va_P (dC, dI) classes [(h0, .inr (1, fs))] U.heap)) (xb_R (some (.int (xb_bi (fT_ended len nx))))) 0 0 (fun _ => False) := by
  refine Met.ofW (cc := bT_ended) (maxL := 1) (ret := (some (.boolean))) (by decide) rfl ?_
  intro p e s m args below meth c s₁ B hml hv
  obtain ⟨rfl, hAt, hP⟩ := hv
  have hx := B.exec
  have hb := B.bytes
  have hr := B.returns
  have hts := xb_hts E hAt ([.ref h0] : List Value).toArray
  have hown : s.vm.findClass "NailRules$Text" = some m.cls := findClass_of_methodNamed B.named
  have hlocks := B.notSynchronized
  have hK := xb_K E hAt
  have hl := lv_entry ([.ref h0]) (n := 1) (Nat.le_of_ble_eq_true rfl)
  rw [lg_entry_eq]
  generalize (lg_sl ([.ref h0]) ++ List.replicate (1 - (lg_sl ([.ref h0])).length) Slot.unset).toArray = ls at hl ⊢
  have hl : lv_has ls 1 [(0, .ref h0)] := hl
  refine lv_aload_n hx hb dT_ended_0 rfl (lv_at hl 0 rfl) ?_
  refine va_get (D := (dC, dI)) (ci := 1) (v := .int nx) (C := xR_T) (T := xF_T) (N := 3) hx hb hts xi_T hown hK hP 0 rfl rfl 2 (by decide) (hts _ xk_78) (fun _ h9 => h9) hf2 dT_ended_1 ?_
  refine lv_aload_n hx hb dT_ended_4 rfl (lv_at hl 0 rfl) ?_
  refine va_get (D := (dC, dI)) (ci := 1) (v := .int len) (C := xR_T) (T := xF_T) (N := 3) hx hb hts xi_T hown hK hP 0 rfl rfl 1 (by decide) (hts _ xk_77) (fun _ h9 => h9) hf1 dT_ended_5 ?_
  refine lv_icmp_lt (tgt := 15) hx hb dT_ended_8 (by decide) (fun c_1 => ?_) (fun c_1 => ?_)
  · refine lv_iconst (v := 0) hx hb dT_ended_15 (by decide) ?_
    have e_f : fT_ended len nx = false := (if_pos c_1).trans (rfl)
    exact W.zret (v := 0) hx hb hr (by decide) (fun t ht hW => ⟨by rw [e_f]; try rfl, ht⟩) (fun _ h => by cases h) dT_ended_16
  · refine lv_iconst (v := 1) hx hb dT_ended_11 (by decide) ?_
    refine lv_goto (tgt := 16) hx hb dT_ended_12 (by decide) ?_
    have e_f : fT_ended len nx = true := (if_neg c_1).trans (rfl)
    exact W.zret (v := 1) hx hb hr (by decide) (fun t ht hW => ⟨by rw [e_f]; try rfl, ht⟩) (fun _ h => by cases h) dT_ended_16

def fT_fault (nx : Int32) : Int32 := (-1) - nx
set_option maxHeartbeats 4000000 in
set_option maxRecDepth 100000 in
theorem cT_fault (l : Launch) {s0 : State} {dC : Nat → ClassId} {dI : Nat → Nat → Nat} {cI cC cL : ClassId} (E : xb_Env l s0 dC dI (xtys cI cC cL)) (h0 : Nat) (fs : List Value) (nx : Int32) (hf2 : fs[2]? = some (.int nx)) : Met l yT_fault [.code yT_fault bT_fault 1 (some (.int))] ({ frames := 0, cells := 0, slots := 0, locals := 0 }) (va_Pc [.ref h0] (fun U => xb_At s0 U ∧ va_P (dC, dI) classes [(h0, .inr (1, fs))] U.heap)) (xb_R (some (.int (fT_fault nx)))) 0 0 (fun _ => False) := by
  refine Met.ofW (cc := bT_fault) (maxL := 1) (ret := (some (.int))) (by decide) rfl ?_
  intro p e s m args below meth c s₁ B hml hv
  obtain ⟨rfl, hAt, hP⟩ := hv
  have hx := B.exec
  have hb := B.bytes
  have hr := B.returns
  have hts := xb_hts E hAt ([.ref h0] : List Value).toArray
  have hown : s.vm.findClass "NailRules$Text" = some m.cls := findClass_of_methodNamed B.named
  have hlocks := B.notSynchronized
  have hK := xb_K E hAt
  have hl := lv_entry ([.ref h0]) (n := 1) (Nat.le_of_ble_eq_true rfl)
  rw [lg_entry_eq]
  generalize (lg_sl ([.ref h0]) ++ List.replicate (1 - (lg_sl ([.ref h0])).length) Slot.unset).toArray = ls at hl ⊢
  have hl : lv_has ls 1 [(0, .ref h0)] := hl
  refine lv_iconst (v := (-1)) hx hb dT_fault_0 (by decide) ?_
  refine lv_aload_n hx hb dT_fault_1 rfl (lv_at hl 0 rfl) ?_
  refine va_get (D := (dC, dI)) (ci := 1) (v := .int nx) (C := xR_T) (T := xF_T) (N := 3) hx hb hts xi_T hown hK hP 0 rfl rfl 2 (by decide) (hts _ xk_78) (fun _ h9 => h9) hf2 dT_fault_2 ?_
  refine lv_isub hx hb dT_fault_5 ?_
  have e_f : fT_fault nx = (-1) - nx := rfl
  exact W.iret (v := ((-1) - nx)) hx hb hr (fun t ht hW => ⟨by rw [e_f], ht⟩) (fun _ h => by cases h) dT_fault_6

def fN_told (rf : Nat → Int32) (kind : Int32) (what : Int32) : Int32 := rf ((kind * 7) + what).toNatClampNeg
set_option maxHeartbeats 4000000 in
set_option maxRecDepth 100000 in
theorem cN_told (l : Launch) {s0 : State} {dC : Nat → ClassId} {dI : Nat → Nat → Nat} {cI cC cL : ClassId} (E : xb_Env l s0 dC dI (xtys cI cC cL)) (h0 : Nat) (fs : List Value) (ra : Nat) (rf : Nat → Int32) (kind : Int32) (what : Int32) (hf1 : fs[1]? = some (.ref ra)) (hk : vp_in (kind * 7 + what) 28) : Met l yN_told [.code yN_told bN_told 3 (some (.int))] ({ frames := 0, cells := 0, slots := 0, locals := 0 }) (va_Pc [.ref h0, .int kind, .int what] (fun U => xb_At s0 U ∧ va_P (dC, dI) classes [(h0, .inr (0, fs)), (ra, .inl (cI, 28, .inl rf))] U.heap)) (xb_R (some (.int (fN_told rf kind what)))) 0 0 (fun _ => False) := by
  refine Met.ofW (cc := bN_told) (maxL := 3) (ret := (some (.int))) (by decide) rfl ?_
  intro p e s m args below meth c s₁ B hml hv
  obtain ⟨rfl, hAt, hP⟩ := hv
  have hx := B.exec
  have hb := B.bytes
  have hr := B.returns
  have hts := xb_hts E hAt ([.ref h0, .int kind, .int what] : List Value).toArray
  have hown : s.vm.findClass "NailRules" = some m.cls := findClass_of_methodNamed B.named
  have hlocks := B.notSynchronized
  have hK := xb_K E hAt
  have hl := lv_entry ([.ref h0, .int kind, .int what]) (n := 3) (Nat.le_of_ble_eq_true rfl)
  rw [lg_entry_eq]
  generalize (lg_sl ([.ref h0, .int kind, .int what]) ++ List.replicate (3 - (lg_sl ([.ref h0, .int kind, .int what])).length) Slot.unset).toArray = ls at hl ⊢
  have hl : lv_has ls 3 [(0, .ref h0), (1, .int kind), (2, .int what)] := hl
  refine lv_aload_n hx hb dN_told_0 rfl (lv_at hl 0 rfl) ?_
  refine va_get (D := (dC, dI)) (ci := 0) (v := .ref ra) (C := xR_N) (T := xF_N) (N := 11) hx hb hts xi_N hown hK hP 0 rfl rfl 1 (by decide) (hts _ xk_115) (fun _ h9 => h9) hf1 dN_told_1 ?_
  refine lv_iload_n hx hb dN_told_4 rfl (lv_at hl 1 rfl) ?_
  refine lv_bipush (v := 7) hx hb dN_told_5 (by decide) ?_
  refine lv_imul hx hb dN_told_7 ?_
  refine lv_iload_n hx hb dN_told_8 rfl (lv_at hl 2 rfl) ?_
  refine lv_iadd hx hb dN_told_9 ?_
  have o_1 : vp_in ((kind * 7) + what) 28 := by assumption
  refine va_iald hx hb hK hP 1 0 rfl rfl o_1 dN_told_10 ?_
  have e_f : fN_told rf kind what = rf ((kind * 7) + what).toNatClampNeg := rfl
  exact W.iret (v := (rf ((kind * 7) + what).toNatClampNeg)) hx hb hr (fun t ht hW => ⟨by rw [e_f], ht⟩) (fun _ h => by cases h) dN_told_11

def fN_space (rf : Nat → Int32) (kind : Int32) (what : Int32) : Int32 := (fN_told rf kind what) * (fN_told rf kind (0))
set_option maxHeartbeats 4000000 in
set_option maxRecDepth 100000 in
theorem cN_space (l : Launch) {s0 : State} {dC : Nat → ClassId} {dI : Nat → Nat → Nat} {cI cC cL : ClassId} (E : xb_Env l s0 dC dI (xtys cI cC cL)) (h0 : Nat) (fs : List Value) (ra : Nat) (rf : Nat → Int32) (kind : Int32) (what : Int32) (hf1 : fs[1]? = some (.ref ra)) (hk : vp_in (kind * 7 + what) 28) (hz : vp_in (kind * 7 + 0) 28) : Met l yN_space [.code yN_space bN_space 3 (some (.int))] ({ frames := 1, cells := 0, slots := 0, locals := 22 }) (va_Pc [.ref h0, .int kind, .int what] (fun U => xb_At s0 U ∧ va_P (dC, dI) classes [(h0, .inr (0, fs)), (ra, .inl (cI, 28, .inl rf))] U.heap)) (xb_R (some (.int (fN_space rf kind what)))) 0 0 (fun _ => False) := by
  refine Met.ofW (cc := bN_space) (maxL := 3) (ret := (some (.int))) (by decide) rfl ?_
  intro p e s m args below meth c s₁ B hml hv
  obtain ⟨rfl, hAt, hP⟩ := hv
  have hx := B.exec
  have hb := B.bytes
  have hr := B.returns
  have hts := xb_hts E hAt ([.ref h0, .int kind, .int what] : List Value).toArray
  have hown : s.vm.findClass "NailRules" = some m.cls := findClass_of_methodNamed B.named
  have hlocks := B.notSynchronized
  have hK := xb_K E hAt
  have hl := lv_entry ([.ref h0, .int kind, .int what]) (n := 3) (Nat.le_of_ble_eq_true rfl)
  rw [lg_entry_eq]
  generalize (lg_sl ([.ref h0, .int kind, .int what]) ++ List.replicate (3 - (lg_sl ([.ref h0, .int kind, .int what])).length) Slot.unset).toArray = ls at hl ⊢
  have hl : lv_has ls 3 [(0, .ref h0), (1, .int kind), (2, .int what)] := hl
  refine lv_aload_n hx hb dN_space_0 rfl (lv_at hl 0 rfl) ?_
  refine lv_iload_n hx hb dN_space_1 rfl (lv_at hl 1 rfl) ?_
  refine lv_iload_n hx hb dN_space_2 rfl (lv_at hl 2 rfl) ?_
  refine xb_rd (W.runV (C := "NailRules") (As := [.int kind, .int what]) (rest := []) ⟨hx, hb, hml, hown, hts⟩ (cN_told l E h0 fs ra rf kind what hf1 (by assumption)) (cwV 2 hts (xb_gi (List.forall_mem_cons.mpr ⟨xk_358, List.forall_mem_cons.mpr ⟨xk_360, List.forall_mem_cons.mpr ⟨xk_14, List.forall_mem_cons.mpr ⟨xk_40, List.forall_mem_cons.mpr ⟨xk_361, fun _ h => absurd h List.not_mem_nil⟩⟩⟩⟩⟩)) rfl rfl rfl (by decide +kernel) ⟨Nat.le_of_ble_eq_true rfl, Nat.le_of_ble_eq_true rfl⟩) ⟨fun _ _ _ _ q => q, va_recv hK hP (ci := 0) (q0 := 0) rfl rfl, fun U hU hW => ⟨rfl, xb_at0 hAt hU hW, by rw [hU]; exact hP.sub (ws' := [(h0, .inr (0, fs)), (ra, .inl (cI, 28, .inl rf))]) [0, 1] rfl⟩⟩ rfl rfl hl.1 rfl (lv_room (Nat.le_of_ble_eq_true rfl)) dN_space_3 ⟨Nat.zero_le _, Nat.zero_le _⟩) ?_
  refine lv_aload_n hx hb dN_space_6 rfl (lv_at hl 0 rfl) ?_
  refine lv_iload_n hx hb dN_space_7 rfl (lv_at hl 1 rfl) ?_
  refine lv_iconst (v := 0) hx hb dN_space_8 (by decide) ?_
  refine xb_rd (W.runV (C := "NailRules") (As := [.int kind, .int 0]) (rest := [.int (fN_told rf kind what)]) ⟨hx, hb, hml, hown, hts⟩ (cN_told l E h0 fs ra rf kind 0 hf1 (by assumption)) (cwV 2 hts (xb_gi (List.forall_mem_cons.mpr ⟨xk_358, List.forall_mem_cons.mpr ⟨xk_360, List.forall_mem_cons.mpr ⟨xk_14, List.forall_mem_cons.mpr ⟨xk_40, List.forall_mem_cons.mpr ⟨xk_361, fun _ h => absurd h List.not_mem_nil⟩⟩⟩⟩⟩)) rfl rfl rfl (by decide +kernel) ⟨Nat.le_of_ble_eq_true rfl, Nat.le_of_ble_eq_true rfl⟩) ⟨fun _ _ _ _ q => q, va_recv hK hP (ci := 0) (q0 := 0) rfl rfl, fun U hU hW => ⟨rfl, xb_at0 hAt hU hW, by rw [hU]; exact hP.sub (ws' := [(h0, .inr (0, fs)), (ra, .inl (cI, 28, .inl rf))]) [0, 1] rfl⟩⟩ rfl rfl hl.1 rfl (lv_room (Nat.le_of_ble_eq_true rfl)) dN_space_9 ⟨Nat.zero_le _, Nat.zero_le _⟩) ?_
  refine lv_imul hx hb dN_space_12 ?_
  have e_f : fN_space rf kind what = (fN_told rf kind what) * (fN_told rf kind (0)) := rfl
  exact W.iret (v := ((fN_told rf kind what) * (fN_told rf kind (0)))) hx hb hr (fun t ht hW => ⟨by rw [e_f], ht⟩) (fun _ h => by cases h) dN_space_13

def fN_formula (rf : Nat → Int32) (which : Int32) (kind : Int32) (a : Int32) (b : Int32) : Int64 := if which = 0 then ((((fN_told rf kind (1)).toInt64) * a.toInt64) * ((fN_told rf kind (0)).toInt64)) else (if which = 1 then ((((fN_told rf kind (1)).toInt64) * b.toInt64) * ((fN_told rf kind (0)).toInt64)) else (if which = 2 then (((((fN_told rf kind (1)).toInt64) * ((a + b).toInt64)) * ((fN_told rf kind (0)).toInt64)) / 2) else (((((fN_told rf kind (1)).toInt64) * ((fN_told rf kind (0)).toInt64)) * ((fN_told rf kind (0)).toInt64)) * 4)))
set_option maxHeartbeats 4000000 in
set_option maxRecDepth 100000 in
theorem cN_formula (l : Launch) {s0 : State} {dC : Nat → ClassId} {dI : Nat → Nat → Nat} {cI cC cL : ClassId} (E : xb_Env l s0 dC dI (xtys cI cC cL)) (h0 : Nat) (fs : List Value) (ra : Nat) (rf : Nat → Int32) (which : Int32) (kind : Int32) (a : Int32) (b : Int32) (hf1 : fs[1]? = some (.ref ra)) (hz : vp_in (kind * 7 + 0) 28) (ho : vp_in (kind * 7 + 1) 28) : Met l yN_formula [.code yN_formula bN_formula 9 (some (.long))] ({ frames := 1, cells := 0, slots := 0, locals := 22 }) (va_Pc [.ref h0, .int which, .int kind, .int a, .int b] (fun U => xb_At s0 U ∧ va_P (dC, dI) classes [(h0, .inr (0, fs)), (ra, .inl (cI, 28, .inl rf))] U.heap)) (xb_R (some (.long (fN_formula rf which kind a b)))) 0 0 (fun _ => False) := by
  refine Met.ofW (cc := bN_formula) (maxL := 9) (ret := (some (.long))) (by decide) rfl ?_
  intro p e s m args below meth c s₁ B hml hv
  obtain ⟨rfl, hAt, hP⟩ := hv
  have hx := B.exec
  have hb := B.bytes
  have hr := B.returns
  have hts := xb_hts E hAt ([.ref h0, .int which, .int kind, .int a, .int b] : List Value).toArray
  have hown : s.vm.findClass "NailRules" = some m.cls := findClass_of_methodNamed B.named
  have hlocks := B.notSynchronized
  have hK := xb_K E hAt
  have hl := lv_entry ([.ref h0, .int which, .int kind, .int a, .int b]) (n := 9) (Nat.le_of_ble_eq_true rfl)
  rw [lg_entry_eq]
  generalize (lg_sl ([.ref h0, .int which, .int kind, .int a, .int b]) ++ List.replicate (9 - (lg_sl ([.ref h0, .int which, .int kind, .int a, .int b])).length) Slot.unset).toArray = ls at hl ⊢
  have hl : lv_has ls 9 [(0, .ref h0), (1, .int which), (2, .int kind), (3, .int a), (4, .int b)] := hl
  refine lv_aload_n hx hb dN_formula_0 rfl (lv_at hl 0 rfl) ?_
  refine lv_iload_n hx hb dN_formula_1 rfl (lv_at hl 2 rfl) ?_
  refine lv_iconst (v := 0) hx hb dN_formula_2 (by decide) ?_
  refine xb_rd (W.runV (C := "NailRules") (As := [.int kind, .int 0]) (rest := []) ⟨hx, hb, hml, hown, hts⟩ (cN_told l E h0 fs ra rf kind 0 hf1 (by assumption)) (cwV 2 hts (xb_gi (List.forall_mem_cons.mpr ⟨xk_358, List.forall_mem_cons.mpr ⟨xk_360, List.forall_mem_cons.mpr ⟨xk_14, List.forall_mem_cons.mpr ⟨xk_40, List.forall_mem_cons.mpr ⟨xk_361, fun _ h => absurd h List.not_mem_nil⟩⟩⟩⟩⟩)) rfl rfl rfl (by decide +kernel) ⟨Nat.le_of_ble_eq_true rfl, Nat.le_of_ble_eq_true rfl⟩) ⟨fun _ _ _ _ q => q, va_recv hK hP (ci := 0) (q0 := 0) rfl rfl, fun U hU hW => ⟨rfl, xb_at0 hAt hU hW, by rw [hU]; exact hP.sub (ws' := [(h0, .inr (0, fs)), (ra, .inl (cI, 28, .inl rf))]) [0, 1] rfl⟩⟩ rfl rfl hl.1 rfl (lv_room (Nat.le_of_ble_eq_true rfl)) dN_formula_3 ⟨Nat.zero_le _, Nat.zero_le _⟩) ?_
  refine lv_i2l hx hb dN_formula_6 rfl ?_
  refine lv_lstore (lv' := [(5, .long ((fN_told rf kind (0)).toInt64)), (0, .ref h0), (1, .int which), (2, .int kind), (3, .int a), (4, .int b)]) hx hb dN_formula_7 hl (by decide) rfl (fun ls hl => ?_)
  refine lv_aload_n hx hb dN_formula_9 rfl (lv_at hl 1 rfl) ?_
  refine lv_iload_n hx hb dN_formula_10 rfl (lv_at hl 3 rfl) ?_
  refine lv_iconst (v := 1) hx hb dN_formula_11 (by decide) ?_
  refine xb_rd (W.runV (C := "NailRules") (As := [.int kind, .int 1]) (rest := []) ⟨hx, hb, hml, hown, hts⟩ (cN_told l E h0 fs ra rf kind 1 hf1 (by assumption)) (cwV 2 hts (xb_gi (List.forall_mem_cons.mpr ⟨xk_358, List.forall_mem_cons.mpr ⟨xk_360, List.forall_mem_cons.mpr ⟨xk_14, List.forall_mem_cons.mpr ⟨xk_40, List.forall_mem_cons.mpr ⟨xk_361, fun _ h => absurd h List.not_mem_nil⟩⟩⟩⟩⟩)) rfl rfl rfl (by decide +kernel) ⟨Nat.le_of_ble_eq_true rfl, Nat.le_of_ble_eq_true rfl⟩) ⟨fun _ _ _ _ q => q, va_recv hK hP (ci := 0) (q0 := 0) rfl rfl, fun U hU hW => ⟨rfl, xb_at0 hAt hU hW, by rw [hU]; exact hP.sub (ws' := [(h0, .inr (0, fs)), (ra, .inl (cI, 28, .inl rf))]) [0, 1] rfl⟩⟩ rfl rfl hl.1 rfl (lv_room (Nat.le_of_ble_eq_true rfl)) dN_formula_12 ⟨Nat.zero_le _, Nat.zero_le _⟩) ?_
  refine lv_i2l hx hb dN_formula_15 rfl ?_
  refine lv_lstore (lv' := [(7, .long ((fN_told rf kind (1)).toInt64)), (5, .long ((fN_told rf kind (0)).toInt64)), (0, .ref h0), (1, .int which), (2, .int kind), (3, .int a), (4, .int b)]) hx hb dN_formula_16 hl (by decide) rfl (fun ls hl => ?_)
  refine lv_iload_n hx hb dN_formula_18 rfl (lv_at hl 3 rfl) ?_
  by_cases c_3 : which = 0
  · refine lv_tableIn (off := 25) (tgt := 44) hx hb dN_formula_19 (by rw [c_3]; decide) (by rw [c_3]; decide) (by rw [c_3]; rfl) (by decide) ?_
    refine lv_lload hx hb dN_formula_44 (lv_at hl 0 rfl) ?_
    refine lv_iload_n hx hb dN_formula_46 rfl (lv_at hl 5 rfl) ?_
    refine lv_i2l hx hb dN_formula_47 rfl ?_
    refine lv_lmul hx hb dN_formula_48 ?_
    refine lv_lload hx hb dN_formula_49 (lv_at hl 1 rfl) ?_
    refine lv_lmul hx hb dN_formula_51 ?_
    have e_f : fN_formula rf which kind a b = (((fN_told rf kind (1)).toInt64) * a.toInt64) * ((fN_told rf kind (0)).toInt64) := (if_pos c_3).trans (rfl)
    exact W.lret (v := ((((fN_told rf kind (1)).toInt64) * a.toInt64) * ((fN_told rf kind (0)).toInt64))) hx hb hr (fun t ht hW => ⟨by rw [e_f], ht⟩) (fun _ h => by cases h) dN_formula_52
  by_cases c_4 : which = 1
  · refine lv_tableIn (off := 34) (tgt := 53) hx hb dN_formula_19 (by rw [c_4]; decide) (by rw [c_4]; decide) (by rw [c_4]; rfl) (by decide) ?_
    refine lv_lload hx hb dN_formula_53 (lv_at hl 0 rfl) ?_
    refine lv_iload hx hb dN_formula_55 (lv_at hl 6 rfl) ?_
    refine lv_i2l hx hb dN_formula_57 rfl ?_
    refine lv_lmul hx hb dN_formula_58 ?_
    refine lv_lload hx hb dN_formula_59 (lv_at hl 1 rfl) ?_
    refine lv_lmul hx hb dN_formula_61 ?_
    have e_f : fN_formula rf which kind a b = (((fN_told rf kind (1)).toInt64) * b.toInt64) * ((fN_told rf kind (0)).toInt64) := (if_neg c_3).trans ((if_pos c_4).trans (rfl))
    exact W.lret (v := ((((fN_told rf kind (1)).toInt64) * b.toInt64) * ((fN_told rf kind (0)).toInt64))) hx hb hr (fun t ht hW => ⟨by rw [e_f], ht⟩) (fun _ h => by cases h) dN_formula_62
  by_cases c_5 : which = 2
  · refine lv_tableIn (off := 44) (tgt := 63) hx hb dN_formula_19 (by rw [c_5]; decide) (by rw [c_5]; decide) (by rw [c_5]; rfl) (by decide) ?_
    refine lv_lload hx hb dN_formula_63 (lv_at hl 0 rfl) ?_
    refine lv_iload_n hx hb dN_formula_65 rfl (lv_at hl 5 rfl) ?_
    refine lv_iload hx hb dN_formula_66 (lv_at hl 6 rfl) ?_
    refine lv_iadd hx hb dN_formula_68 ?_
    refine lv_i2l hx hb dN_formula_69 rfl ?_
    refine lv_lmul hx hb dN_formula_70 ?_
    refine lv_lload hx hb dN_formula_71 (lv_at hl 1 rfl) ?_
    refine lv_lmul hx hb dN_formula_73 ?_
    refine lv_ldc2 (v := 2) hx hb hown (hts _ xk_407) dN_formula_74 ?_
    refine lv_ldiv hx hb dN_formula_77 (by decide) ?_
    have e_f : fN_formula rf which kind a b = ((((fN_told rf kind (1)).toInt64) * ((a + b).toInt64)) * ((fN_told rf kind (0)).toInt64)) / 2 := (if_neg c_3).trans ((if_neg c_4).trans ((if_pos c_5).trans (rfl)))
    exact W.lret (v := (((((fN_told rf kind (1)).toInt64) * ((a + b).toInt64)) * ((fN_told rf kind (0)).toInt64)) / 2)) hx hb hr (fun t ht hW => ⟨by rw [e_f], ht⟩) (fun _ h => by cases h) dN_formula_78
  refine lv_tableOut (tgt := 79) hx hb dN_formula_19 (by have q0 := lv_neT c_3 (a := 0) (by decide); have q1 := lv_neT c_4 (a := 1) (by decide); have q2 := lv_neT c_5 (a := 2) (by decide); omega) (by decide) ?_
  refine lv_lload hx hb dN_formula_79 (lv_at hl 0 rfl) ?_
  refine lv_lload hx hb dN_formula_81 (lv_at hl 1 rfl) ?_
  refine lv_lmul hx hb dN_formula_83 ?_
  refine lv_lload hx hb dN_formula_84 (lv_at hl 1 rfl) ?_
  refine lv_lmul hx hb dN_formula_86 ?_
  refine lv_ldc2 (v := 4) hx hb hown (hts _ xk_408) dN_formula_87 ?_
  refine lv_lmul hx hb dN_formula_90 ?_
  have e_f : fN_formula rf which kind a b = ((((fN_told rf kind (1)).toInt64) * ((fN_told rf kind (0)).toInt64)) * ((fN_told rf kind (0)).toInt64)) * 4 := (if_neg c_3).trans ((if_neg c_4).trans ((if_neg c_5).trans (rfl)))
  exact W.lret (v := (((((fN_told rf kind (1)).toInt64) * ((fN_told rf kind (0)).toInt64)) * ((fN_told rf kind (0)).toInt64)) * 4)) hx hb hr (fun t ht hW => ⟨by rw [e_f], ht⟩) (fun _ h => by cases h) dN_formula_91

def fN_heldByRow (less : Int32) (n : Int32) (one : Int64) : Int64 := ((n.toInt64 * one) * ((if 50 < (100 - (less * (n - 1))) then (100 - (less * (n - 1))) else 50).toInt64)) / 100
set_option maxHeartbeats 4000000 in
set_option maxRecDepth 100000 in
theorem cN_heldByRow (l : Launch) {s0 : State} {dC : Nat → ClassId} {dI : Nat → Nat → Nat} {cI cC cL : ClassId} (E : xb_Env l s0 dC dI (xtys cI cC cL)) (h0 : Nat) (fs : List Value) (less : Int32) (n : Int32) (one : Int64) (hf3 : fs[3]? = some (.int less)) : Met l yN_heldByRow [.code yN_heldByRow bN_heldByRow 5 (some (.long))] ({ frames := 1, cells := 0, slots := 0, locals := 13 }) (va_Pc [.ref h0, .int n, .long one] (fun U => xb_At s0 U ∧ va_P (dC, dI) classes [(h0, .inr (0, fs))] U.heap)) (xb_R (some (.long (fN_heldByRow less n one)))) 0 0 (fun _ => False) := by
  refine Met.ofW (cc := bN_heldByRow) (maxL := 5) (ret := (some (.long))) (by decide) rfl ?_
  intro p e s m args below meth c s₁ B hml hv
  obtain ⟨rfl, hAt, hP⟩ := hv
  have hx := B.exec
  have hb := B.bytes
  have hr := B.returns
  have hts := xb_hts E hAt ([.ref h0, .int n, .long one] : List Value).toArray
  have hown : s.vm.findClass "NailRules" = some m.cls := findClass_of_methodNamed B.named
  have hlocks := B.notSynchronized
  have hK := xb_K E hAt
  have hl := lv_entry ([.ref h0, .int n, .long one]) (n := 5) (Nat.le_of_ble_eq_true rfl)
  rw [lg_entry_eq]
  generalize (lg_sl ([.ref h0, .int n, .long one]) ++ List.replicate (5 - (lg_sl ([.ref h0, .int n, .long one])).length) Slot.unset).toArray = ls at hl ⊢
  have hl : lv_has ls 5 [(0, .ref h0), (1, .int n), (2, .long one)] := hl
  refine lv_bipush (v := 50) hx hb dN_heldByRow_0 (by decide) ?_
  refine lv_bipush (v := 100) hx hb dN_heldByRow_2 (by decide) ?_
  refine lv_aload_n hx hb dN_heldByRow_4 rfl (lv_at hl 0 rfl) ?_
  refine va_get (D := (dC, dI)) (ci := 0) (v := .int less) (C := xR_N) (T := xF_N) (N := 11) hx hb hts xi_N hown hK hP 0 rfl rfl 3 (by decide) (hts _ xk_117) (fun _ h9 => h9) hf3 dN_heldByRow_5 ?_
  refine lv_iload_n hx hb dN_heldByRow_8 rfl (lv_at hl 1 rfl) ?_
  refine lv_iconst (v := 1) hx hb dN_heldByRow_9 (by decide) ?_
  refine lv_isub hx hb dN_heldByRow_10 ?_
  refine lv_imul hx hb dN_heldByRow_11 ?_
  refine lv_isub hx hb dN_heldByRow_12 ?_
  refine va_mmax hx hb (hml.trans hl.1.symm) hown (hts _ xk_422) (hts _ xk_254) (hts _ xk_50) (hts _ xk_255) (by decide) (by decide) (by decide) (by decide) dN_heldByRow_13 ?_
  refine lv_istore (lv' := [(4, .int (if 50 < (100 - (less * (n - 1))) then (100 - (less * (n - 1))) else 50)), (0, .ref h0), (1, .int n), (2, .long one)]) hx hb dN_heldByRow_16 hl (by decide) rfl (fun ls hl => ?_)
  refine lv_iload_n hx hb dN_heldByRow_18 rfl (lv_at hl 2 rfl) ?_
  refine lv_i2l hx hb dN_heldByRow_19 rfl ?_
  refine lv_lload_n hx hb dN_heldByRow_20 rfl (lv_at hl 3 rfl) ?_
  refine lv_lmul hx hb dN_heldByRow_21 ?_
  refine lv_iload hx hb dN_heldByRow_22 (lv_at hl 0 rfl) ?_
  refine lv_i2l hx hb dN_heldByRow_24 rfl ?_
  refine lv_lmul hx hb dN_heldByRow_25 ?_
  refine lv_ldc2 (v := 100) hx hb hown (hts _ xk_370) dN_heldByRow_26 ?_
  refine lv_ldiv hx hb dN_heldByRow_29 (by decide) ?_
  have e_f : fN_heldByRow less n one = ((n.toInt64 * one) * ((if 50 < (100 - (less * (n - 1))) then (100 - (less * (n - 1))) else 50).toInt64)) / 100 := rfl
  exact W.lret (v := (((n.toInt64 * one) * ((if 50 < (100 - (less * (n - 1))) then (100 - (less * (n - 1))) else 50).toInt64)) / 100)) hx hb hr (fun t ht hW => ⟨by rw [e_f], ht⟩) (fun _ h => by cases h) dN_heldByRow_30

def fN_fitting (length : Int32) (margin : Int32) (gap : Int32) : Int32 := if (length - (2 * margin)) < 0 then (0) else (if 1 ≤ gap then (((length - (2 * margin)) / gap) + 1) else (0))
set_option maxHeartbeats 4000000 in
set_option maxRecDepth 100000 in
theorem cN_fitting (l : Launch) {s0 : State} {dC : Nat → ClassId} {dI : Nat → Nat → Nat} {cI cC cL : ClassId} (E : xb_Env l s0 dC dI (xtys cI cC cL)) (length : Int32) (margin : Int32) (gap : Int32) : Met l yN_fitting [.code yN_fitting bN_fitting 4 (some (.int))] ({ frames := 0, cells := 0, slots := 0, locals := 0 }) (va_Pc [.int length, .int margin, .int gap] (fun U => xb_At s0 U ∧ va_P (dC, dI) classes [] U.heap)) (xb_R (some (.int (fN_fitting length margin gap)))) 0 0 (fun _ => False) := by
  refine Met.ofW (cc := bN_fitting) (maxL := 4) (ret := (some (.int))) (by decide) rfl ?_
  intro p e s m args below meth c s₁ B hml hv
  obtain ⟨rfl, hAt, hP⟩ := hv
  have hx := B.exec
  have hb := B.bytes
  have hr := B.returns
  have hts := xb_hts E hAt ([.int length, .int margin, .int gap] : List Value).toArray
  have hown : s.vm.findClass "NailRules" = some m.cls := findClass_of_methodNamed B.named
  have hlocks := B.notSynchronized
  have hK := xb_K E hAt
  have hl := lv_entry ([.int length, .int margin, .int gap]) (n := 4) (Nat.le_of_ble_eq_true rfl)
  rw [lg_entry_eq]
  generalize (lg_sl ([.int length, .int margin, .int gap]) ++ List.replicate (4 - (lg_sl ([.int length, .int margin, .int gap])).length) Slot.unset).toArray = ls at hl ⊢
  have hl : lv_has ls 4 [(0, .int length), (1, .int margin), (2, .int gap)] := hl
  refine lv_iload_n hx hb dN_fitting_0 rfl (lv_at hl 0 rfl) ?_
  refine lv_iconst (v := 2) hx hb dN_fitting_1 (by decide) ?_
  refine lv_iload_n hx hb dN_fitting_2 rfl (lv_at hl 1 rfl) ?_
  refine lv_imul hx hb dN_fitting_3 ?_
  refine lv_isub hx hb dN_fitting_4 ?_
  refine lv_istore_n (lv' := [(3, .int (length - (2 * margin))), (0, .int length), (1, .int margin), (2, .int gap)]) hx hb dN_fitting_5 rfl hl (by decide) rfl (fun ls hl => ?_)
  refine lv_iload_n hx hb dN_fitting_6 rfl (lv_at hl 0 rfl) ?_
  refine lv_if_lt (tgt := 15) hx hb dN_fitting_7 (by decide) (fun c_2 => ?_) (fun c_2 => ?_)
  · refine lv_iconst (v := 0) hx hb dN_fitting_15 (by decide) ?_
    have e_f : fN_fitting length margin gap = 0 := (if_pos c_2).trans (rfl)
    exact W.iret (v := 0) hx hb hr (fun t ht hW => ⟨by rw [e_f], ht⟩) (fun _ h => by cases h) dN_fitting_16
  · refine lv_iload_n hx hb dN_fitting_10 rfl (lv_at hl 3 rfl) ?_
    refine lv_iconst (v := 1) hx hb dN_fitting_11 (by decide) ?_
    refine lv_icmp_ge (tgt := 17) hx hb dN_fitting_12 (by decide) (fun c_3 => ?_) (fun c_3 => ?_)
    · refine lv_iload_n hx hb dN_fitting_17 rfl (lv_at hl 0 rfl) ?_
      refine lv_iload_n hx hb dN_fitting_18 rfl (lv_at hl 3 rfl) ?_
      refine lv_idiv hx hb dN_fitting_19 (xp_ne0 (by assumption)) ?_
      refine lv_iconst (v := 1) hx hb dN_fitting_20 (by decide) ?_
      refine lv_iadd hx hb dN_fitting_21 ?_
      have e_f : fN_fitting length margin gap = ((length - (2 * margin)) / gap) + 1 := (if_neg c_2).trans ((if_pos c_3).trans (rfl))
      exact W.iret (v := (((length - (2 * margin)) / gap) + 1)) hx hb hr (fun t ht hW => ⟨by rw [e_f], ht⟩) (fun _ h => by cases h) dN_fitting_22
    · refine lv_iconst (v := 0) hx hb dN_fitting_15 (by decide) ?_
      have e_f : fN_fitting length margin gap = 0 := (if_neg c_2).trans ((if_neg c_3).trans (rfl))
      exact W.iret (v := 0) hx hb hr (fun t ht hW => ⟨by rw [e_f], ht⟩) (fun _ h => by cases h) dN_fitting_16

def fN_squareBetween (xf : Nat → Int32) (yf : Nat → Int32) (a : Int32) (b : Int32) : Int64 := ((((xf a.toNatClampNeg) - (xf b.toNatClampNeg)).toInt64) * (((xf a.toNatClampNeg) - (xf b.toNatClampNeg)).toInt64)) + ((((yf a.toNatClampNeg) - (yf b.toNatClampNeg)).toInt64) * (((yf a.toNatClampNeg) - (yf b.toNatClampNeg)).toInt64))
set_option maxHeartbeats 4000000 in
set_option maxRecDepth 100000 in
theorem cN_squareBetween (l : Launch) {s0 : State} {dC : Nat → ClassId} {dI : Nat → Nat → Nat} {cI cC cL : ClassId} (E : xb_Env l s0 dC dI (xtys cI cC cL)) (h0 : Nat) (fs : List Value) (qx : Nat) (xf : Nat → Int32) (qy : Nat) (yf : Nat → Int32) (a : Int32) (b : Int32) (hf7 : fs[7]? = some (.ref qx)) (hf8 : fs[8]? = some (.ref qy)) (ha : vp_in a 32) (hb2 : vp_in b 32) : Met l yN_squareBetween [.code yN_squareBetween bN_squareBetween 7 (some (.long))] ({ frames := 0, cells := 0, slots := 0, locals := 0 }) (va_Pc [.ref h0, .int a, .int b] (fun U => xb_At s0 U ∧ va_P (dC, dI) classes [(h0, .inr (0, fs)), (qx, .inl (cI, 32, .inl xf)), (qy, .inl (cI, 32, .inl yf))] U.heap)) (xb_R (some (.long (fN_squareBetween xf yf a b)))) 0 0 (fun _ => False) := by
  refine Met.ofW (cc := bN_squareBetween) (maxL := 7) (ret := (some (.long))) (by decide) rfl ?_
  intro p e s m args below meth c s₁ B hml hv
  obtain ⟨rfl, hAt, hP⟩ := hv
  have hx := B.exec
  have hb := B.bytes
  have hr := B.returns
  have hts := xb_hts E hAt ([.ref h0, .int a, .int b] : List Value).toArray
  have hown : s.vm.findClass "NailRules" = some m.cls := findClass_of_methodNamed B.named
  have hlocks := B.notSynchronized
  have hK := xb_K E hAt
  have hl := lv_entry ([.ref h0, .int a, .int b]) (n := 7) (Nat.le_of_ble_eq_true rfl)
  rw [lg_entry_eq]
  generalize (lg_sl ([.ref h0, .int a, .int b]) ++ List.replicate (7 - (lg_sl ([.ref h0, .int a, .int b])).length) Slot.unset).toArray = ls at hl ⊢
  have hl : lv_has ls 7 [(0, .ref h0), (1, .int a), (2, .int b)] := hl
  refine lv_aload_n hx hb dN_squareBetween_0 rfl (lv_at hl 0 rfl) ?_
  refine va_get (D := (dC, dI)) (ci := 0) (v := .ref qx) (C := xR_N) (T := xF_N) (N := 11) hx hb hts xi_N hown hK hP 0 rfl rfl 7 (by decide) (hts _ xk_121) (fun _ h9 => h9) hf7 dN_squareBetween_1 ?_
  refine lv_iload_n hx hb dN_squareBetween_4 rfl (lv_at hl 1 rfl) ?_
  have o_1 : vp_in a 32 := by assumption
  refine va_iald hx hb hK hP 1 0 rfl rfl o_1 dN_squareBetween_5 ?_
  refine lv_aload_n hx hb dN_squareBetween_6 rfl (lv_at hl 0 rfl) ?_
  refine va_get (D := (dC, dI)) (ci := 0) (v := .ref qx) (C := xR_N) (T := xF_N) (N := 11) hx hb hts xi_N hown hK hP 0 rfl rfl 7 (by decide) (hts _ xk_121) (fun _ h9 => h9) hf7 dN_squareBetween_7 ?_
  refine lv_iload_n hx hb dN_squareBetween_10 rfl (lv_at hl 2 rfl) ?_
  have o_2 : vp_in b 32 := by assumption
  refine va_iald hx hb hK hP 1 0 rfl rfl o_2 dN_squareBetween_11 ?_
  refine lv_isub hx hb dN_squareBetween_12 ?_
  refine lv_i2l hx hb dN_squareBetween_13 rfl ?_
  refine lv_lstore_n (lv' := [(3, .long (((xf a.toNatClampNeg) - (xf b.toNatClampNeg)).toInt64)), (0, .ref h0), (1, .int a), (2, .int b)]) hx hb dN_squareBetween_14 rfl hl (by decide) rfl (fun ls hl => ?_)
  refine lv_aload_n hx hb dN_squareBetween_15 rfl (lv_at hl 1 rfl) ?_
  refine va_get (D := (dC, dI)) (ci := 0) (v := .ref qy) (C := xR_N) (T := xF_N) (N := 11) hx hb hts xi_N hown hK hP 0 rfl rfl 8 (by decide) (hts _ xk_122) (fun _ h9 => h9) hf8 dN_squareBetween_16 ?_
  refine lv_iload_n hx hb dN_squareBetween_19 rfl (lv_at hl 2 rfl) ?_
  have o_4 : vp_in a 32 := by assumption
  refine va_iald hx hb hK hP 2 0 rfl rfl o_4 dN_squareBetween_20 ?_
  refine lv_aload_n hx hb dN_squareBetween_21 rfl (lv_at hl 1 rfl) ?_
  refine va_get (D := (dC, dI)) (ci := 0) (v := .ref qy) (C := xR_N) (T := xF_N) (N := 11) hx hb hts xi_N hown hK hP 0 rfl rfl 8 (by decide) (hts _ xk_122) (fun _ h9 => h9) hf8 dN_squareBetween_22 ?_
  refine lv_iload_n hx hb dN_squareBetween_25 rfl (lv_at hl 3 rfl) ?_
  have o_5 : vp_in b 32 := by assumption
  refine va_iald hx hb hK hP 2 0 rfl rfl o_5 dN_squareBetween_26 ?_
  refine lv_isub hx hb dN_squareBetween_27 ?_
  refine lv_i2l hx hb dN_squareBetween_28 rfl ?_
  refine lv_lstore (lv' := [(5, .long (((yf a.toNatClampNeg) - (yf b.toNatClampNeg)).toInt64)), (3, .long (((xf a.toNatClampNeg) - (xf b.toNatClampNeg)).toInt64)), (0, .ref h0), (1, .int a), (2, .int b)]) hx hb dN_squareBetween_29 hl (by decide) rfl (fun ls hl => ?_)
  refine lv_lload_n hx hb dN_squareBetween_31 rfl (lv_at hl 1 rfl) ?_
  refine lv_lload_n hx hb dN_squareBetween_32 rfl (lv_at hl 1 rfl) ?_
  refine lv_lmul hx hb dN_squareBetween_33 ?_
  refine lv_lload hx hb dN_squareBetween_34 (lv_at hl 0 rfl) ?_
  refine lv_lload hx hb dN_squareBetween_36 (lv_at hl 0 rfl) ?_
  refine lv_lmul hx hb dN_squareBetween_38 ?_
  refine lv_ladd hx hb dN_squareBetween_39 ?_
  have e_f : fN_squareBetween xf yf a b = ((((xf a.toNatClampNeg) - (xf b.toNatClampNeg)).toInt64) * (((xf a.toNatClampNeg) - (xf b.toNatClampNeg)).toInt64)) + ((((yf a.toNatClampNeg) - (yf b.toNatClampNeg)).toInt64) * (((yf a.toNatClampNeg) - (yf b.toNatClampNeg)).toInt64)) := rfl
  exact W.lret (v := (((((xf a.toNatClampNeg) - (xf b.toNatClampNeg)).toInt64) * (((xf a.toNatClampNeg) - (xf b.toNatClampNeg)).toInt64)) + ((((yf a.toNatClampNeg) - (yf b.toNatClampNeg)).toInt64) * (((yf a.toNatClampNeg) - (yf b.toNatClampNeg)).toInt64)))) hx hb hr (fun t ht hW => ⟨by rw [e_f], ht⟩) (fun _ h => by cases h) dN_squareBetween_40

def fM_grips (x0 : Int64) (y0 : Int64) (ax : Int64) (ay : Int64) (wd : Int64) (x : Int32) (y : Int32) : Bool := if ((ax * (x.toInt64 - x0)) + (ay * (y.toInt64 - y0))) < 0 then (false) else (if ((ax * (x.toInt64 - x0)) + (ay * (y.toInt64 - y0))) ≤ ((ax * ax) + (ay * ay)) then (if ((wd * wd) * ((ax * ax) + (ay * ay))) < ((4 * ((ax * (y.toInt64 - y0)) - (ay * (x.toInt64 - x0)))) * ((ax * (y.toInt64 - y0)) - (ay * (x.toInt64 - x0)))) then (false) else (true)) else (false))
set_option maxHeartbeats 4000000 in
set_option maxRecDepth 100000 in
theorem cM_grips (l : Launch) {s0 : State} {dC : Nat → ClassId} {dI : Nat → Nat → Nat} {cI cC cL : ClassId} (E : xb_Env l s0 dC dI (xtys cI cC cL)) (h0 : Nat) (fs : List Value) (x0 : Int64) (y0 : Int64) (ax : Int64) (ay : Int64) (wd : Int64) (x : Int32) (y : Int32) (hf0 : fs[0]? = some (.long x0)) (hf1 : fs[1]? = some (.long y0)) (hf2 : fs[2]? = some (.long ax)) (hf3 : fs[3]? = some (.long ay)) (hf4 : fs[4]? = some (.long wd)) : Met l yM_grips [.code yM_grips bM_grips 13 (some (.boolean))] ({ frames := 0, cells := 0, slots := 0, locals := 0 }) (va_Pc [.ref h0, .int x, .int y] (fun U => xb_At s0 U ∧ va_P (dC, dI) classes [(h0, .inr (2, fs))] U.heap)) (xb_R (some (.int (xb_bi (fM_grips x0 y0 ax ay wd x y))))) 0 0 (fun _ => False) := by
  refine Met.ofW (cc := bM_grips) (maxL := 13) (ret := (some (.boolean))) (by decide) rfl ?_
  intro p e s m args below meth c s₁ B hml hv
  obtain ⟨rfl, hAt, hP⟩ := hv
  have hx := B.exec
  have hb := B.bytes
  have hr := B.returns
  have hts := xb_hts E hAt ([.ref h0, .int x, .int y] : List Value).toArray
  have hown : s.vm.findClass "NailRules$Member" = some m.cls := findClass_of_methodNamed B.named
  have hlocks := B.notSynchronized
  have hK := xb_K E hAt
  have hl := lv_entry ([.ref h0, .int x, .int y]) (n := 13) (Nat.le_of_ble_eq_true rfl)
  rw [lg_entry_eq]
  generalize (lg_sl ([.ref h0, .int x, .int y]) ++ List.replicate (13 - (lg_sl ([.ref h0, .int x, .int y])).length) Slot.unset).toArray = ls at hl ⊢
  have hl : lv_has ls 13 [(0, .ref h0), (1, .int x), (2, .int y)] := hl
  refine lv_iload_n hx hb dM_grips_0 rfl (lv_at hl 1 rfl) ?_
  refine lv_i2l hx hb dM_grips_1 rfl ?_
  refine lv_aload_n hx hb dM_grips_2 rfl (lv_at hl 0 rfl) ?_
  refine va_get (D := (dC, dI)) (ci := 2) (v := .long x0) (C := xR_M) (T := xF_M) (N := 5) hx hb hts xi_M hown hK hP 0 rfl rfl 0 (by decide) (hts _ xk_524) (fun _ h9 => h9) hf0 dM_grips_3 ?_
  refine lv_lsub hx hb dM_grips_6 ?_
  refine lv_lstore_n (lv' := [(3, .long (x.toInt64 - x0)), (0, .ref h0), (1, .int x), (2, .int y)]) hx hb dM_grips_7 rfl hl (by decide) rfl (fun ls hl => ?_)
  refine lv_iload_n hx hb dM_grips_8 rfl (lv_at hl 3 rfl) ?_
  refine lv_i2l hx hb dM_grips_9 rfl ?_
  refine lv_aload_n hx hb dM_grips_10 rfl (lv_at hl 1 rfl) ?_
  refine va_get (D := (dC, dI)) (ci := 2) (v := .long y0) (C := xR_M) (T := xF_M) (N := 5) hx hb hts xi_M hown hK hP 0 rfl rfl 1 (by decide) (hts _ xk_525) (fun _ h9 => h9) hf1 dM_grips_11 ?_
  refine lv_lsub hx hb dM_grips_14 ?_
  refine lv_lstore (lv' := [(5, .long (y.toInt64 - y0)), (3, .long (x.toInt64 - x0)), (0, .ref h0), (1, .int x), (2, .int y)]) hx hb dM_grips_15 hl (by decide) rfl (fun ls hl => ?_)
  refine lv_aload_n hx hb dM_grips_17 rfl (lv_at hl 2 rfl) ?_
  refine va_get (D := (dC, dI)) (ci := 2) (v := .long ax) (C := xR_M) (T := xF_M) (N := 5) hx hb hts xi_M hown hK hP 0 rfl rfl 2 (by decide) (hts _ xk_526) (fun _ h9 => h9) hf2 dM_grips_18 ?_
  refine lv_aload_n hx hb dM_grips_21 rfl (lv_at hl 2 rfl) ?_
  refine va_get (D := (dC, dI)) (ci := 2) (v := .long ax) (C := xR_M) (T := xF_M) (N := 5) hx hb hts xi_M hown hK hP 0 rfl rfl 2 (by decide) (hts _ xk_526) (fun _ h9 => h9) hf2 dM_grips_22 ?_
  refine lv_lmul hx hb dM_grips_25 ?_
  refine lv_aload_n hx hb dM_grips_26 rfl (lv_at hl 2 rfl) ?_
  refine va_get (D := (dC, dI)) (ci := 2) (v := .long ay) (C := xR_M) (T := xF_M) (N := 5) hx hb hts xi_M hown hK hP 0 rfl rfl 3 (by decide) (hts _ xk_527) (fun _ h9 => h9) hf3 dM_grips_27 ?_
  refine lv_aload_n hx hb dM_grips_30 rfl (lv_at hl 2 rfl) ?_
  refine va_get (D := (dC, dI)) (ci := 2) (v := .long ay) (C := xR_M) (T := xF_M) (N := 5) hx hb hts xi_M hown hK hP 0 rfl rfl 3 (by decide) (hts _ xk_527) (fun _ h9 => h9) hf3 dM_grips_31 ?_
  refine lv_lmul hx hb dM_grips_34 ?_
  refine lv_ladd hx hb dM_grips_35 ?_
  refine lv_lstore (lv' := [(7, .long ((ax * ax) + (ay * ay))), (5, .long (y.toInt64 - y0)), (3, .long (x.toInt64 - x0)), (0, .ref h0), (1, .int x), (2, .int y)]) hx hb dM_grips_36 hl (by decide) rfl (fun ls hl => ?_)
  refine lv_aload_n hx hb dM_grips_38 rfl (lv_at hl 3 rfl) ?_
  refine va_get (D := (dC, dI)) (ci := 2) (v := .long ax) (C := xR_M) (T := xF_M) (N := 5) hx hb hts xi_M hown hK hP 0 rfl rfl 2 (by decide) (hts _ xk_526) (fun _ h9 => h9) hf2 dM_grips_39 ?_
  refine lv_lload_n hx hb dM_grips_42 rfl (lv_at hl 2 rfl) ?_
  refine lv_lmul hx hb dM_grips_43 ?_
  refine lv_aload_n hx hb dM_grips_44 rfl (lv_at hl 3 rfl) ?_
  refine va_get (D := (dC, dI)) (ci := 2) (v := .long ay) (C := xR_M) (T := xF_M) (N := 5) hx hb hts xi_M hown hK hP 0 rfl rfl 3 (by decide) (hts _ xk_527) (fun _ h9 => h9) hf3 dM_grips_45 ?_
  refine lv_lload hx hb dM_grips_48 (lv_at hl 1 rfl) ?_
  refine lv_lmul hx hb dM_grips_50 ?_
  refine lv_ladd hx hb dM_grips_51 ?_
  refine lv_lstore (lv' := [(9, .long ((ax * (x.toInt64 - x0)) + (ay * (y.toInt64 - y0)))), (7, .long ((ax * ax) + (ay * ay))), (5, .long (y.toInt64 - y0)), (3, .long (x.toInt64 - x0)), (0, .ref h0), (1, .int x), (2, .int y)]) hx hb dM_grips_52 hl (by decide) rfl (fun ls hl => ?_)
  refine lv_lload hx hb dM_grips_54 (lv_at hl 0 rfl) ?_
  refine lv_lconst (v := 0) hx hb dM_grips_56 (by decide) ?_
  refine W.lcmp hx hb dM_grips_57 ?_
  refine lv_if_lt (tgt := 69) hx hb dM_grips_58 (by decide) (fun c_5 => ?_) (fun c_5 => ?_)
  · have c_5 := (lg_cmp_lt _ _).mp c_5
    refine lv_iconst (v := 0) hx hb dM_grips_69 (by decide) ?_
    have e_f : fM_grips x0 y0 ax ay wd x y = false := (if_pos c_5).trans (rfl)
    exact W.zret (v := 0) hx hb hr (by decide) (fun t ht hW => ⟨by rw [e_f]; try rfl, ht⟩) (fun _ h => by cases h) dM_grips_70
  · have c_5 := fun q => c_5 ((lg_cmp_lt _ _).mpr q)
    refine lv_lload hx hb dM_grips_61 (lv_at hl 0 rfl) ?_
    refine lv_lload hx hb dM_grips_63 (lv_at hl 1 rfl) ?_
    refine W.lcmp hx hb dM_grips_65 ?_
    refine lv_if_le (tgt := 71) hx hb dM_grips_66 (by decide) (fun c_6 => ?_) (fun c_6 => ?_)
    · have c_6 := (lg_cmp_le _ _).mp c_6
      refine lv_aload_n hx hb dM_grips_71 rfl (lv_at hl 4 rfl) ?_
      refine va_get (D := (dC, dI)) (ci := 2) (v := .long ax) (C := xR_M) (T := xF_M) (N := 5) hx hb hts xi_M hown hK hP 0 rfl rfl 2 (by decide) (hts _ xk_526) (fun _ h9 => h9) hf2 dM_grips_72 ?_
      refine lv_lload hx hb dM_grips_75 (lv_at hl 2 rfl) ?_
      refine lv_lmul hx hb dM_grips_77 ?_
      refine lv_aload_n hx hb dM_grips_78 rfl (lv_at hl 4 rfl) ?_
      refine va_get (D := (dC, dI)) (ci := 2) (v := .long ay) (C := xR_M) (T := xF_M) (N := 5) hx hb hts xi_M hown hK hP 0 rfl rfl 3 (by decide) (hts _ xk_527) (fun _ h9 => h9) hf3 dM_grips_79 ?_
      refine lv_lload_n hx hb dM_grips_82 rfl (lv_at hl 3 rfl) ?_
      refine lv_lmul hx hb dM_grips_83 ?_
      refine lv_lsub hx hb dM_grips_84 ?_
      refine lv_lstore (lv' := [(11, .long ((ax * (y.toInt64 - y0)) - (ay * (x.toInt64 - x0)))), (9, .long ((ax * (x.toInt64 - x0)) + (ay * (y.toInt64 - y0)))), (7, .long ((ax * ax) + (ay * ay))), (5, .long (y.toInt64 - y0)), (3, .long (x.toInt64 - x0)), (0, .ref h0), (1, .int x), (2, .int y)]) hx hb dM_grips_85 hl (by decide) rfl (fun ls hl => ?_)
      refine lv_ldc2 (v := 4) hx hb hown (hts _ xk_614) dM_grips_87 ?_
      refine lv_lload hx hb dM_grips_90 (lv_at hl 0 rfl) ?_
      refine lv_lmul hx hb dM_grips_92 ?_
      refine lv_lload hx hb dM_grips_93 (lv_at hl 0 rfl) ?_
      refine lv_lmul hx hb dM_grips_95 ?_
      refine lv_aload_n hx hb dM_grips_96 rfl (lv_at hl 5 rfl) ?_
      refine va_get (D := (dC, dI)) (ci := 2) (v := .long wd) (C := xR_M) (T := xF_M) (N := 5) hx hb hts xi_M hown hK hP 0 rfl rfl 4 (by decide) (hts _ xk_528) (fun _ h9 => h9) hf4 dM_grips_97 ?_
      refine lv_aload_n hx hb dM_grips_100 rfl (lv_at hl 5 rfl) ?_
      refine va_get (D := (dC, dI)) (ci := 2) (v := .long wd) (C := xR_M) (T := xF_M) (N := 5) hx hb hts xi_M hown hK hP 0 rfl rfl 4 (by decide) (hts _ xk_528) (fun _ h9 => h9) hf4 dM_grips_101 ?_
      refine lv_lmul hx hb dM_grips_104 ?_
      refine lv_lload hx hb dM_grips_105 (lv_at hl 2 rfl) ?_
      refine lv_lmul hx hb dM_grips_107 ?_
      refine W.lcmp hx hb dM_grips_108 ?_
      refine lv_if_gt (tgt := 116) hx hb dM_grips_109 (by decide) (fun c_8 => ?_) (fun c_8 => ?_)
      · have c_8 := (lg_cmp_gt _ _).mp c_8
        refine lv_iconst (v := 0) hx hb dM_grips_116 (by decide) ?_
        have e_f : fM_grips x0 y0 ax ay wd x y = false := (if_neg c_5).trans ((if_pos c_6).trans ((if_pos c_8).trans (rfl)))
        exact W.zret (v := 0) hx hb hr (by decide) (fun t ht hW => ⟨by rw [e_f]; try rfl, ht⟩) (fun _ h => by cases h) dM_grips_117
      · have c_8 := fun q => c_8 ((lg_cmp_gt _ _).mpr q)
        refine lv_iconst (v := 1) hx hb dM_grips_112 (by decide) ?_
        refine lv_goto (tgt := 117) hx hb dM_grips_113 (by decide) ?_
        have e_f : fM_grips x0 y0 ax ay wd x y = true := (if_neg c_5).trans ((if_pos c_6).trans ((if_neg c_8).trans (rfl)))
        exact W.zret (v := 1) hx hb hr (by decide) (fun t ht hW => ⟨by rw [e_f]; try rfl, ht⟩) (fun _ h => by cases h) dM_grips_117
    · have c_6 := fun q => c_6 ((lg_cmp_le _ _).mpr q)
      refine lv_iconst (v := 0) hx hb dM_grips_69 (by decide) ?_
      have e_f : fM_grips x0 y0 ax ay wd x y = false := (if_neg c_5).trans ((if_neg c_6).trans (rfl))
      exact W.zret (v := 0) hx hb hr (by decide) (fun t ht hW => ⟨by rw [e_f]; try rfl, ht⟩) (fun _ h => by cases h) dM_grips_70

def fR_isIn (v : Int64) (lo : Int64) (hi : Int64) : Bool := if v < lo then (false) else (if hi < v then (false) else (true))
set_option maxHeartbeats 4000000 in
set_option maxRecDepth 100000 in
theorem cR_isIn (l : Launch) {s0 : State} {dC : Nat → ClassId} {dI : Nat → Nat → Nat} {cI cC cL : ClassId} (E : xb_Env l s0 dC dI (xtys cI cC cL)) (v : Int64) (lo : Int64) (hi : Int64) : Met l yR_isIn [.code yR_isIn bR_isIn 6 (some (.boolean))] ({ frames := 0, cells := 0, slots := 0, locals := 0 }) (va_Pc [.long v, .long lo, .long hi] (fun U => xb_At s0 U ∧ va_P (dC, dI) classes [] U.heap)) (xb_R (some (.int (xb_bi (fR_isIn v lo hi))))) 0 0 (fun _ => False) := by
  refine Met.ofW (cc := bR_isIn) (maxL := 6) (ret := (some (.boolean))) (by decide) rfl ?_
  intro p e s m args below meth c s₁ B hml hv
  obtain ⟨rfl, hAt, hP⟩ := hv
  have hx := B.exec
  have hb := B.bytes
  have hr := B.returns
  have hts := xb_hts E hAt ([.long v, .long lo, .long hi] : List Value).toArray
  have hown : s.vm.findClass "NailRulesModel" = some m.cls := findClass_of_methodNamed B.named
  have hlocks := B.notSynchronized
  have hK := xb_K E hAt
  have hl := lv_entry ([.long v, .long lo, .long hi]) (n := 6) (Nat.le_of_ble_eq_true rfl)
  rw [lg_entry_eq]
  generalize (lg_sl ([.long v, .long lo, .long hi]) ++ List.replicate (6 - (lg_sl ([.long v, .long lo, .long hi])).length) Slot.unset).toArray = ls at hl ⊢
  have hl : lv_has ls 6 [(0, .long v), (2, .long lo), (4, .long hi)] := hl
  refine lv_lload_n hx hb dR_isIn_0 rfl (lv_at hl 0 rfl) ?_
  refine lv_lload_n hx hb dR_isIn_1 rfl (lv_at hl 1 rfl) ?_
  refine W.lcmp hx hb dR_isIn_2 ?_
  refine lv_if_lt (tgt := 17) hx hb dR_isIn_3 (by decide) (fun c_1 => ?_) (fun c_1 => ?_)
  · have c_1 := (lg_cmp_lt _ _).mp c_1
    refine lv_iconst (v := 0) hx hb dR_isIn_17 (by decide) ?_
    have e_f : fR_isIn v lo hi = false := (if_pos c_1).trans (rfl)
    exact W.zret (v := 0) hx hb hr (by decide) (fun t ht hW => ⟨by rw [e_f]; try rfl, ht⟩) (fun _ h => by cases h) dR_isIn_18
  · have c_1 := fun q => c_1 ((lg_cmp_lt _ _).mpr q)
    refine lv_lload_n hx hb dR_isIn_6 rfl (lv_at hl 0 rfl) ?_
    refine lv_lload hx hb dR_isIn_7 (lv_at hl 2 rfl) ?_
    refine W.lcmp hx hb dR_isIn_9 ?_
    refine lv_if_gt (tgt := 17) hx hb dR_isIn_10 (by decide) (fun c_2 => ?_) (fun c_2 => ?_)
    · have c_2 := (lg_cmp_gt _ _).mp c_2
      refine lv_iconst (v := 0) hx hb dR_isIn_17 (by decide) ?_
      have e_f : fR_isIn v lo hi = false := (if_neg c_1).trans ((if_pos c_2).trans (rfl))
      exact W.zret (v := 0) hx hb hr (by decide) (fun t ht hW => ⟨by rw [e_f]; try rfl, ht⟩) (fun _ h => by cases h) dR_isIn_18
    · have c_2 := fun q => c_2 ((lg_cmp_gt _ _).mpr q)
      refine lv_iconst (v := 1) hx hb dR_isIn_13 (by decide) ?_
      refine lv_goto (tgt := 18) hx hb dR_isIn_14 (by decide) ?_
      have e_f : fR_isIn v lo hi = true := (if_neg c_1).trans ((if_neg c_2).trans (rfl))
      exact W.zret (v := 1) hx hb hr (by decide) (fun t ht hW => ⟨by rw [e_f]; try rfl, ht⟩) (fun _ h => by cases h) dR_isIn_18

def fR_isFour (k : Int32) : Bool := if k < 0 then (false) else (if 4 ≤ k then (false) else (true))
set_option maxHeartbeats 4000000 in
set_option maxRecDepth 100000 in
theorem cR_isFour (l : Launch) {s0 : State} {dC : Nat → ClassId} {dI : Nat → Nat → Nat} {cI cC cL : ClassId} (E : xb_Env l s0 dC dI (xtys cI cC cL)) (k : Int32) : Met l yR_isFour [.code yR_isFour bR_isFour 1 (some (.boolean))] ({ frames := 0, cells := 0, slots := 0, locals := 0 }) (va_Pc [.int k] (fun U => xb_At s0 U ∧ va_P (dC, dI) classes [] U.heap)) (xb_R (some (.int (xb_bi (fR_isFour k))))) 0 0 (fun _ => False) := by
  refine Met.ofW (cc := bR_isFour) (maxL := 1) (ret := (some (.boolean))) (by decide) rfl ?_
  intro p e s m args below meth c s₁ B hml hv
  obtain ⟨rfl, hAt, hP⟩ := hv
  have hx := B.exec
  have hb := B.bytes
  have hr := B.returns
  have hts := xb_hts E hAt ([.int k] : List Value).toArray
  have hown : s.vm.findClass "NailRulesModel" = some m.cls := findClass_of_methodNamed B.named
  have hlocks := B.notSynchronized
  have hK := xb_K E hAt
  have hl := lv_entry ([.int k]) (n := 1) (Nat.le_of_ble_eq_true rfl)
  rw [lg_entry_eq]
  generalize (lg_sl ([.int k]) ++ List.replicate (1 - (lg_sl ([.int k])).length) Slot.unset).toArray = ls at hl ⊢
  have hl : lv_has ls 1 [(0, .int k)] := hl
  refine lv_iload_n hx hb dR_isFour_0 rfl (lv_at hl 0 rfl) ?_
  refine lv_if_lt (tgt := 13) hx hb dR_isFour_1 (by decide) (fun c_1 => ?_) (fun c_1 => ?_)
  · refine lv_iconst (v := 0) hx hb dR_isFour_13 (by decide) ?_
    have e_f : fR_isFour k = false := (if_pos c_1).trans (rfl)
    exact W.zret (v := 0) hx hb hr (by decide) (fun t ht hW => ⟨by rw [e_f]; try rfl, ht⟩) (fun _ h => by cases h) dR_isFour_14
  · refine lv_iload_n hx hb dR_isFour_4 rfl (lv_at hl 0 rfl) ?_
    refine lv_iconst (v := 4) hx hb dR_isFour_5 (by decide) ?_
    refine lv_icmp_ge (tgt := 13) hx hb dR_isFour_6 (by decide) (fun c_2 => ?_) (fun c_2 => ?_)
    · refine lv_iconst (v := 0) hx hb dR_isFour_13 (by decide) ?_
      have e_f : fR_isFour k = false := (if_neg c_1).trans ((if_pos c_2).trans (rfl))
      exact W.zret (v := 0) hx hb hr (by decide) (fun t ht hW => ⟨by rw [e_f]; try rfl, ht⟩) (fun _ h => by cases h) dR_isFour_14
    · refine lv_iconst (v := 1) hx hb dR_isFour_9 (by decide) ?_
      refine lv_goto (tgt := 14) hx hb dR_isFour_10 (by decide) ?_
      have e_f : fR_isFour k = true := (if_neg c_1).trans ((if_neg c_2).trans (rfl))
      exact W.zret (v := 1) hx hb hr (by decide) (fun t ht hW => ⟨by rw [e_f]; try rfl, ht⟩) (fun _ h => by cases h) dR_isFour_14

def fR_isPlace (v : Int32) : Bool := (fR_isIn v.toInt64 ((-10000)) (10000))
set_option maxHeartbeats 4000000 in
set_option maxRecDepth 100000 in
theorem cR_isPlace (l : Launch) {s0 : State} {dC : Nat → ClassId} {dI : Nat → Nat → Nat} {cI cC cL : ClassId} (E : xb_Env l s0 dC dI (xtys cI cC cL)) (v : Int32) : Met l yR_isPlace [.code yR_isPlace bR_isPlace 1 (some (.boolean))] ({ frames := 1, cells := 0, slots := 0, locals := 25 }) (va_Pc [.int v] (fun U => xb_At s0 U ∧ va_P (dC, dI) classes [] U.heap)) (xb_R (some (.int (xb_bi (fR_isPlace v))))) 0 0 (fun _ => False) := by
  refine Met.ofW (cc := bR_isPlace) (maxL := 1) (ret := (some (.boolean))) (by decide) rfl ?_
  intro p e s m args below meth c s₁ B hml hv
  obtain ⟨rfl, hAt, hP⟩ := hv
  have hx := B.exec
  have hb := B.bytes
  have hr := B.returns
  have hts := xb_hts E hAt ([.int v] : List Value).toArray
  have hown : s.vm.findClass "NailRulesModel" = some m.cls := findClass_of_methodNamed B.named
  have hlocks := B.notSynchronized
  have hK := xb_K E hAt
  have hl := lv_entry ([.int v]) (n := 1) (Nat.le_of_ble_eq_true rfl)
  rw [lg_entry_eq]
  generalize (lg_sl ([.int v]) ++ List.replicate (1 - (lg_sl ([.int v])).length) Slot.unset).toArray = ls at hl ⊢
  have hl : lv_has ls 1 [(0, .int v)] := hl
  refine lv_iload_n hx hb dR_isPlace_0 rfl (lv_at hl 0 rfl) ?_
  refine lv_i2l hx hb dR_isPlace_1 rfl ?_
  refine lv_ldc2 (v := (-10000)) hx hb hown (hts _ xk_822) dR_isPlace_2 ?_
  refine lv_ldc2 (v := 10000) hx hb hown (hts _ xk_823) dR_isPlace_5 ?_
  refine xb_rd (W.runS (As := [.long v.toInt64, .long (-10000), .long 10000]) (rest := []) ⟨hx, hb, hml, hown, hts⟩ (cR_isIn l E v.toInt64 (-10000) 10000) (cwS 3 hts (xb_gi (List.forall_mem_cons.mpr ⟨xk_754, List.forall_mem_cons.mpr ⟨xk_755, List.forall_mem_cons.mpr ⟨xk_45, List.forall_mem_cons.mpr ⟨xk_756, fun _ h => absurd h List.not_mem_nil⟩⟩⟩⟩)) rfl rfl rfl (by decide +kernel) ⟨Nat.le_of_ble_eq_true rfl, Nat.le_of_ble_eq_true rfl⟩) ⟨fun _ _ _ _ q => q, fun U hU hW => ⟨rfl, xb_at0 hAt hU hW, fun k q h => by simp at h⟩⟩ rfl rfl hl.1 rfl (lv_room (Nat.le_of_ble_eq_true rfl)) dR_isPlace_8 ⟨Nat.zero_le _, Nat.zero_le _⟩) ?_
  have e_f : fR_isPlace v = (fR_isIn v.toInt64 ((-10000)) (10000)) := rfl
  exact W.zret (v := (xb_bi (fR_isIn v.toInt64 ((-10000)) (10000)))) hx hb hr (xb_bi_n _) (fun t ht hW => ⟨by rw [e_f]; try rfl, ht⟩) (fun _ h => by cases h) dR_isPlace_11

def fR_kindOf (c1 : Int32) : Int32 := if c1 = 110 then (0) else (if c1 = 115 then (1) else (if c1 = 98 then (2) else (if c1 = 100 then (3) else ((-1)))))
set_option maxHeartbeats 4000000 in
set_option maxRecDepth 100000 in
theorem cR_kindOf (l : Launch) {s0 : State} {dC : Nat → ClassId} {dI : Nat → Nat → Nat} {cI cC cL : ClassId} (E : xb_Env l s0 dC dI (xtys cI cC cL)) (c1 : Int32) : Met l yR_kindOf [.code yR_kindOf bR_kindOf 1 (some (.int))] ({ frames := 0, cells := 0, slots := 0, locals := 0 }) (va_Pc [.int c1] (fun U => xb_At s0 U ∧ va_P (dC, dI) classes [] U.heap)) (xb_R (some (.int (fR_kindOf c1)))) 0 0 (fun _ => False) := by
  refine Met.ofW (cc := bR_kindOf) (maxL := 1) (ret := (some (.int))) (by decide) rfl ?_
  intro p e s m args below meth c s₁ B hml hv
  obtain ⟨rfl, hAt, hP⟩ := hv
  have hx := B.exec
  have hb := B.bytes
  have hr := B.returns
  have hts := xb_hts E hAt ([.int c1] : List Value).toArray
  have hown : s.vm.findClass "NailRulesModel" = some m.cls := findClass_of_methodNamed B.named
  have hlocks := B.notSynchronized
  have hK := xb_K E hAt
  have hl := lv_entry ([.int c1]) (n := 1) (Nat.le_of_ble_eq_true rfl)
  rw [lg_entry_eq]
  generalize (lg_sl ([.int c1]) ++ List.replicate (1 - (lg_sl ([.int c1])).length) Slot.unset).toArray = ls at hl ⊢
  have hl : lv_has ls 1 [(0, .int c1)] := hl
  refine lv_iload_n hx hb dR_kindOf_0 rfl (lv_at hl 0 rfl) ?_
  refine lv_bipush (v := 110) hx hb dR_kindOf_1 (by decide) ?_
  refine lv_icmp_ne (tgt := 10) hx hb dR_kindOf_3 (by decide) (fun c_1 => ?_) (fun c_1 => ?_)
  · refine lv_iload_n hx hb dR_kindOf_10 rfl (lv_at hl 0 rfl) ?_
    refine lv_bipush (v := 115) hx hb dR_kindOf_11 (by decide) ?_
    refine lv_icmp_ne (tgt := 20) hx hb dR_kindOf_13 (by decide) (fun c_2 => ?_) (fun c_2 => ?_)
    · refine lv_iload_n hx hb dR_kindOf_20 rfl (lv_at hl 0 rfl) ?_
      refine lv_bipush (v := 98) hx hb dR_kindOf_21 (by decide) ?_
      refine lv_icmp_ne (tgt := 30) hx hb dR_kindOf_23 (by decide) (fun c_3 => ?_) (fun c_3 => ?_)
      · refine lv_iload_n hx hb dR_kindOf_30 rfl (lv_at hl 0 rfl) ?_
        refine lv_bipush (v := 100) hx hb dR_kindOf_31 (by decide) ?_
        refine lv_icmp_ne (tgt := 40) hx hb dR_kindOf_33 (by decide) (fun c_4 => ?_) (fun c_4 => ?_)
        · refine lv_iconst (v := (-1)) hx hb dR_kindOf_40 (by decide) ?_
          have e_f : fR_kindOf c1 = (-1) := (if_neg c_1).trans ((if_neg c_2).trans ((if_neg c_3).trans ((if_neg c_4).trans (rfl))))
          exact W.iret (v := (-1)) hx hb hr (fun t ht hW => ⟨by rw [e_f], ht⟩) (fun _ h => by cases h) dR_kindOf_41
        · refine lv_iconst (v := 3) hx hb dR_kindOf_36 (by decide) ?_
          refine lv_goto (tgt := 41) hx hb dR_kindOf_37 (by decide) ?_
          have e_f : fR_kindOf c1 = 3 := (if_neg c_1).trans ((if_neg c_2).trans ((if_neg c_3).trans ((if_pos c_4).trans (rfl))))
          exact W.iret (v := 3) hx hb hr (fun t ht hW => ⟨by rw [e_f], ht⟩) (fun _ h => by cases h) dR_kindOf_41
      · refine lv_iconst (v := 2) hx hb dR_kindOf_26 (by decide) ?_
        refine lv_goto (tgt := 41) hx hb dR_kindOf_27 (by decide) ?_
        have e_f : fR_kindOf c1 = 2 := (if_neg c_1).trans ((if_neg c_2).trans ((if_pos c_3).trans (rfl)))
        exact W.iret (v := 2) hx hb hr (fun t ht hW => ⟨by rw [e_f], ht⟩) (fun _ h => by cases h) dR_kindOf_41
    · refine lv_iconst (v := 1) hx hb dR_kindOf_16 (by decide) ?_
      refine lv_goto (tgt := 41) hx hb dR_kindOf_17 (by decide) ?_
      have e_f : fR_kindOf c1 = 1 := (if_neg c_1).trans ((if_pos c_2).trans (rfl))
      exact W.iret (v := 1) hx hb hr (fun t ht hW => ⟨by rw [e_f], ht⟩) (fun _ h => by cases h) dR_kindOf_41
  · refine lv_iconst (v := 0) hx hb dR_kindOf_6 (by decide) ?_
    refine lv_goto (tgt := 41) hx hb dR_kindOf_7 (by decide) ?_
    have e_f : fR_kindOf c1 = 0 := (if_pos c_1).trans (rfl)
    exact W.iret (v := 0) hx hb hr (fun t ht hW => ⟨by rw [e_f], ht⟩) (fun _ h => by cases h) dR_kindOf_41

def fR_fits (al : Int64) (ed : Int64) (st : Int64) : Int64 := if (0 : Int64) ≤ (al - (2 * ed)) then (((al - (2 * ed)) / st) + 1) else (0)
set_option maxHeartbeats 4000000 in
set_option maxRecDepth 100000 in
theorem cR_fits (l : Launch) {s0 : State} {dC : Nat → ClassId} {dI : Nat → Nat → Nat} {cI cC cL : ClassId} (E : xb_Env l s0 dC dI (xtys cI cC cL)) (al : Int64) (ed : Int64) (st : Int64) (hs : ¬ st = 0) : Met l yR_fits [.code yR_fits bR_fits 8 (some (.long))] ({ frames := 0, cells := 0, slots := 0, locals := 0 }) (va_Pc [.long al, .long ed, .long st] (fun U => xb_At s0 U ∧ va_P (dC, dI) classes [] U.heap)) (xb_R (some (.long (fR_fits al ed st)))) 0 0 (fun _ => False) := by
  refine Met.ofW (cc := bR_fits) (maxL := 8) (ret := (some (.long))) (by decide) rfl ?_
  intro p e s m args below meth c s₁ B hml hv
  obtain ⟨rfl, hAt, hP⟩ := hv
  have hx := B.exec
  have hb := B.bytes
  have hr := B.returns
  have hts := xb_hts E hAt ([.long al, .long ed, .long st] : List Value).toArray
  have hown : s.vm.findClass "NailRulesModel" = some m.cls := findClass_of_methodNamed B.named
  have hlocks := B.notSynchronized
  have hK := xb_K E hAt
  have hl := lv_entry ([.long al, .long ed, .long st]) (n := 8) (Nat.le_of_ble_eq_true rfl)
  rw [lg_entry_eq]
  generalize (lg_sl ([.long al, .long ed, .long st]) ++ List.replicate (8 - (lg_sl ([.long al, .long ed, .long st])).length) Slot.unset).toArray = ls at hl ⊢
  have hl : lv_has ls 8 [(0, .long al), (2, .long ed), (4, .long st)] := hl
  refine lv_lload_n hx hb dR_fits_0 rfl (lv_at hl 0 rfl) ?_
  refine lv_ldc2 (v := 2) hx hb hown (hts _ xk_645) dR_fits_1 ?_
  refine lv_lload_n hx hb dR_fits_4 rfl (lv_at hl 1 rfl) ?_
  refine lv_lmul hx hb dR_fits_5 ?_
  refine lv_lsub hx hb dR_fits_6 ?_
  refine lv_lstore (lv' := [(6, .long (al - (2 * ed))), (0, .long al), (2, .long ed), (4, .long st)]) hx hb dR_fits_7 hl (by decide) rfl (fun ls hl => ?_)
  refine lv_lload hx hb dR_fits_9 (lv_at hl 0 rfl) ?_
  refine lv_lconst (v := 0) hx hb dR_fits_11 (by decide) ?_
  refine W.lcmp hx hb dR_fits_12 ?_
  refine lv_if_ge (tgt := 20) hx hb dR_fits_13 (by decide) (fun c_2 => ?_) (fun c_2 => ?_)
  · have c_2 := (lg_cmp_ge _ _).mp c_2
    refine lv_lload hx hb dR_fits_20 (lv_at hl 0 rfl) ?_
    refine lv_lload hx hb dR_fits_22 (lv_at hl 3 rfl) ?_
    refine lv_ldiv hx hb dR_fits_24 (by assumption) ?_
    refine lv_lconst (v := 1) hx hb dR_fits_25 (by decide) ?_
    refine lv_ladd hx hb dR_fits_26 ?_
    have e_f : fR_fits al ed st = ((al - (2 * ed)) / st) + 1 := (if_pos c_2).trans (rfl)
    exact W.lret (v := (((al - (2 * ed)) / st) + 1)) hx hb hr (fun t ht hW => ⟨by rw [e_f], ht⟩) (fun _ h => by cases h) dR_fits_27
  · have c_2 := fun q => c_2 ((lg_cmp_ge _ _).mpr q)
    refine lv_lconst (v := 0) hx hb dR_fits_16 (by decide) ?_
    refine lv_goto (tgt := 27) hx hb dR_fits_17 (by decide) ?_
    have e_f : fR_fits al ed st = 0 := (if_neg c_2).trans (rfl)
    exact W.lret (v := 0) hx hb hr (fun t ht hW => ⟨by rw [e_f], ht⟩) (fun _ h => by cases h) dR_fits_27

def fR_all (less : Int64) (n : Int64) (one : Int64) : Int64 := if (50 : Int64) ≤ (100 - (less * (n - 1))) then (((n * one) * (100 - (less * (n - 1)))) / 100) else (((n * one) * 50) / 100)
set_option maxHeartbeats 4000000 in
set_option maxRecDepth 100000 in
theorem cR_all (l : Launch) {s0 : State} {dC : Nat → ClassId} {dI : Nat → Nat → Nat} {cI cC cL : ClassId} (E : xb_Env l s0 dC dI (xtys cI cC cL)) (h0 : Nat) (fs : List Value) (less : Int64) (n : Int64) (one : Int64) (hf9 : fs[9]? = some (.long less)) : Met l yR_all [.code yR_all bR_all 7 (some (.long))] ({ frames := 0, cells := 0, slots := 0, locals := 0 }) (va_Pc [.ref h0, .long n, .long one] (fun U => xb_At s0 U ∧ va_P (dC, dI) classes [(h0, .inr (3, fs))] U.heap)) (xb_R (some (.long (fR_all less n one)))) 0 0 (fun _ => False) := by
  refine Met.ofW (cc := bR_all) (maxL := 7) (ret := (some (.long))) (by decide) rfl ?_
  intro p e s m args below meth c s₁ B hml hv
  obtain ⟨rfl, hAt, hP⟩ := hv
  have hx := B.exec
  have hb := B.bytes
  have hr := B.returns
  have hts := xb_hts E hAt ([.ref h0, .long n, .long one] : List Value).toArray
  have hown : s.vm.findClass "NailRulesModel" = some m.cls := findClass_of_methodNamed B.named
  have hlocks := B.notSynchronized
  have hK := xb_K E hAt
  have hl := lv_entry ([.ref h0, .long n, .long one]) (n := 7) (Nat.le_of_ble_eq_true rfl)
  rw [lg_entry_eq]
  generalize (lg_sl ([.ref h0, .long n, .long one]) ++ List.replicate (7 - (lg_sl ([.ref h0, .long n, .long one])).length) Slot.unset).toArray = ls at hl ⊢
  have hl : lv_has ls 7 [(0, .ref h0), (1, .long n), (3, .long one)] := hl
  refine lv_ldc2 (v := 100) hx hb hown (hts _ xk_644) dR_all_0 ?_
  refine lv_aload_n hx hb dR_all_3 rfl (lv_at hl 0 rfl) ?_
  refine va_get (D := (dC, dI)) (ci := 3) (v := .long less) (C := xR_R) (T := xF_R) (N := 20) hx hb hts xi_R hown hK hP 0 rfl rfl 9 (by decide) (hts _ xk_655) (fun _ h9 => h9) hf9 dR_all_4 ?_
  refine lv_lload_n hx hb dR_all_7 rfl (lv_at hl 1 rfl) ?_
  refine lv_lconst (v := 1) hx hb dR_all_8 (by decide) ?_
  refine lv_lsub hx hb dR_all_9 ?_
  refine lv_lmul hx hb dR_all_10 ?_
  refine lv_lsub hx hb dR_all_11 ?_
  refine lv_lstore (lv' := [(5, .long (100 - (less * (n - 1)))), (0, .ref h0), (1, .long n), (3, .long one)]) hx hb dR_all_12 hl (by decide) rfl (fun ls hl => ?_)
  refine lv_lload hx hb dR_all_14 (lv_at hl 0 rfl) ?_
  refine lv_ldc2 (v := 50) hx hb hown (hts _ xk_782) dR_all_16 ?_
  refine W.lcmp hx hb dR_all_19 ?_
  refine lv_if_ge (tgt := 29) hx hb dR_all_20 (by decide) (fun c_2 => ?_) (fun c_2 => ?_)
  · have c_2 := (lg_cmp_ge _ _).mp c_2
    refine lv_lload hx hb dR_all_29 (lv_at hl 0 rfl) ?_
    refine lv_lstore (lv' := [(5, .long (100 - (less * (n - 1)))), (0, .ref h0), (1, .long n), (3, .long one)]) hx hb dR_all_31 hl (by decide) rfl (fun ls hl => ?_)
    refine lv_lload_n hx hb dR_all_33 rfl (lv_at hl 2 rfl) ?_
    refine lv_lload_n hx hb dR_all_34 rfl (lv_at hl 3 rfl) ?_
    refine lv_lmul hx hb dR_all_35 ?_
    refine lv_lload hx hb dR_all_36 (lv_at hl 0 rfl) ?_
    refine lv_lmul hx hb dR_all_38 ?_
    refine lv_ldc2 (v := 100) hx hb hown (hts _ xk_644) dR_all_39 ?_
    refine lv_ldiv hx hb dR_all_42 (by decide) ?_
    have e_f : fR_all less n one = ((n * one) * (100 - (less * (n - 1)))) / 100 := (if_pos c_2).trans (rfl)
    exact W.lret (v := (((n * one) * (100 - (less * (n - 1)))) / 100)) hx hb hr (fun t ht hW => ⟨by rw [e_f], ht⟩) (fun _ h => by cases h) dR_all_43
  · have c_2 := fun q => c_2 ((lg_cmp_ge _ _).mpr q)
    refine lv_ldc2 (v := 50) hx hb hown (hts _ xk_782) dR_all_23 ?_
    refine lv_goto (tgt := 31) hx hb dR_all_26 (by decide) ?_
    refine lv_lstore (lv' := [(5, .long 50), (0, .ref h0), (1, .long n), (3, .long one)]) hx hb dR_all_31 hl (by decide) rfl (fun ls hl => ?_)
    refine lv_lload_n hx hb dR_all_33 rfl (lv_at hl 2 rfl) ?_
    refine lv_lload_n hx hb dR_all_34 rfl (lv_at hl 3 rfl) ?_
    refine lv_lmul hx hb dR_all_35 ?_
    refine lv_lload hx hb dR_all_36 (lv_at hl 0 rfl) ?_
    refine lv_lmul hx hb dR_all_38 ?_
    refine lv_ldc2 (v := 100) hx hb hown (hts _ xk_644) dR_all_39 ?_
    refine lv_ldiv hx hb dR_all_42 (by decide) ?_
    have e_f : fR_all less n one = ((n * one) * 50) / 100 := (if_neg c_2).trans (rfl)
    exact W.lret (v := (((n * one) * 50) / 100)) hx hb hr (fun t ht hW => ⟨by rw [e_f], ht⟩) (fun _ h => by cases h) dR_all_43

def fR_formula (rf : Nat → Int32) (kind : Int32) (which : Int32) (a : Int64) (b : Int64) : Int64 := if which = 0 then ((((rf ((7 * kind) + 1).toNatClampNeg).toInt64) * a) * ((rf (7 * kind).toNatClampNeg).toInt64)) else (if which = 1 then ((((rf ((7 * kind) + 1).toNatClampNeg).toInt64) * b) * ((rf (7 * kind).toNatClampNeg).toInt64)) else (if which = 2 then (((((rf ((7 * kind) + 1).toNatClampNeg).toInt64) * (a + b)) * ((rf (7 * kind).toNatClampNeg).toInt64)) / 2) else (((((rf ((7 * kind) + 1).toNatClampNeg).toInt64) * ((rf (7 * kind).toNatClampNeg).toInt64)) * ((rf (7 * kind).toNatClampNeg).toInt64)) * 4)))
set_option maxHeartbeats 4000000 in
set_option maxRecDepth 100000 in
theorem cR_formula (l : Launch) {s0 : State} {dC : Nat → ClassId} {dI : Nat → Nat → Nat} {cI cC cL : ClassId} (E : xb_Env l s0 dC dI (xtys cI cC cL)) (h0 : Nat) (fs : List Value) (ra : Nat) (rf : Nat → Int32) (kind : Int32) (which : Int32) (a : Int64) (b : Int64) (hf6 : fs[6]? = some (.ref ra)) (hz : vp_in (7 * kind) 28) (ho : vp_in (7 * kind + 1) 28) : Met l yR_formula [.code yR_formula bR_formula 11 (some (.long))] ({ frames := 0, cells := 0, slots := 0, locals := 0 }) (va_Pc [.ref h0, .int kind, .int which, .long a, .long b] (fun U => xb_At s0 U ∧ va_P (dC, dI) classes [(h0, .inr (3, fs)), (ra, .inl (cI, 28, .inl rf))] U.heap)) (xb_R (some (.long (fR_formula rf kind which a b)))) 0 0 (fun _ => False) := by
  refine Met.ofW (cc := bR_formula) (maxL := 11) (ret := (some (.long))) (by decide) rfl ?_
  intro p e s m args below meth c s₁ B hml hv
  obtain ⟨rfl, hAt, hP⟩ := hv
  have hx := B.exec
  have hb := B.bytes
  have hr := B.returns
  have hts := xb_hts E hAt ([.ref h0, .int kind, .int which, .long a, .long b] : List Value).toArray
  have hown : s.vm.findClass "NailRulesModel" = some m.cls := findClass_of_methodNamed B.named
  have hlocks := B.notSynchronized
  have hK := xb_K E hAt
  have hl := lv_entry ([.ref h0, .int kind, .int which, .long a, .long b]) (n := 11) (Nat.le_of_ble_eq_true rfl)
  rw [lg_entry_eq]
  generalize (lg_sl ([.ref h0, .int kind, .int which, .long a, .long b]) ++ List.replicate (11 - (lg_sl ([.ref h0, .int kind, .int which, .long a, .long b])).length) Slot.unset).toArray = ls at hl ⊢
  have hl : lv_has ls 11 [(0, .ref h0), (1, .int kind), (2, .int which), (3, .long a), (5, .long b)] := hl
  refine lv_aload_n hx hb dR_formula_0 rfl (lv_at hl 0 rfl) ?_
  refine va_get (D := (dC, dI)) (ci := 3) (v := .ref ra) (C := xR_R) (T := xF_R) (N := 20) hx hb hts xi_R hown hK hP 0 rfl rfl 6 (by decide) (hts _ xk_652) (fun _ h9 => h9) hf6 dR_formula_1 ?_
  refine lv_bipush (v := 7) hx hb dR_formula_4 (by decide) ?_
  refine lv_iload_n hx hb dR_formula_6 rfl (lv_at hl 1 rfl) ?_
  refine lv_imul hx hb dR_formula_7 ?_
  have o_1 : vp_in (7 * kind) 28 := by assumption
  refine va_iald hx hb hK hP 1 0 rfl rfl o_1 dR_formula_8 ?_
  refine lv_i2l hx hb dR_formula_9 rfl ?_
  refine lv_lstore (lv' := [(7, .long ((rf (7 * kind).toNatClampNeg).toInt64)), (0, .ref h0), (1, .int kind), (2, .int which), (3, .long a), (5, .long b)]) hx hb dR_formula_10 hl (by decide) rfl (fun ls hl => ?_)
  refine lv_aload_n hx hb dR_formula_12 rfl (lv_at hl 1 rfl) ?_
  refine va_get (D := (dC, dI)) (ci := 3) (v := .ref ra) (C := xR_R) (T := xF_R) (N := 20) hx hb hts xi_R hown hK hP 0 rfl rfl 6 (by decide) (hts _ xk_652) (fun _ h9 => h9) hf6 dR_formula_13 ?_
  refine lv_bipush (v := 7) hx hb dR_formula_16 (by decide) ?_
  refine lv_iload_n hx hb dR_formula_18 rfl (lv_at hl 2 rfl) ?_
  refine lv_imul hx hb dR_formula_19 ?_
  refine lv_iconst (v := 1) hx hb dR_formula_20 (by decide) ?_
  refine lv_iadd hx hb dR_formula_21 ?_
  have o_3 : vp_in ((7 * kind) + 1) 28 := by assumption
  refine va_iald hx hb hK hP 1 0 rfl rfl o_3 dR_formula_22 ?_
  refine lv_i2l hx hb dR_formula_23 rfl ?_
  refine lv_lstore (lv' := [(9, .long ((rf ((7 * kind) + 1).toNatClampNeg).toInt64)), (7, .long ((rf (7 * kind).toNatClampNeg).toInt64)), (0, .ref h0), (1, .int kind), (2, .int which), (3, .long a), (5, .long b)]) hx hb dR_formula_24 hl (by decide) rfl (fun ls hl => ?_)
  refine lv_iload_n hx hb dR_formula_26 rfl (lv_at hl 4 rfl) ?_
  refine lv_if_ne (tgt := 40) hx hb dR_formula_27 (by decide) (fun c_5 => ?_) (fun c_5 => ?_)
  · refine lv_iload_n hx hb dR_formula_40 rfl (lv_at hl 4 rfl) ?_
    refine lv_iconst (v := 1) hx hb dR_formula_41 (by decide) ?_
    refine lv_icmp_ne (tgt := 56) hx hb dR_formula_42 (by decide) (fun c_6 => ?_) (fun c_6 => ?_)
    · refine lv_iload_n hx hb dR_formula_56 rfl (lv_at hl 4 rfl) ?_
      refine lv_iconst (v := 2) hx hb dR_formula_57 (by decide) ?_
      refine lv_icmp_ne (tgt := 78) hx hb dR_formula_58 (by decide) (fun c_7 => ?_) (fun c_7 => ?_)
      · refine lv_lload hx hb dR_formula_78 (lv_at hl 0 rfl) ?_
        refine lv_lload hx hb dR_formula_80 (lv_at hl 1 rfl) ?_
        refine lv_lmul hx hb dR_formula_82 ?_
        refine lv_lload hx hb dR_formula_83 (lv_at hl 1 rfl) ?_
        refine lv_lmul hx hb dR_formula_85 ?_
        refine lv_ldc2 (v := 4) hx hb hown (hts _ xk_771) dR_formula_86 ?_
        refine lv_lmul hx hb dR_formula_89 ?_
        have e_f : fR_formula rf kind which a b = ((((rf ((7 * kind) + 1).toNatClampNeg).toInt64) * ((rf (7 * kind).toNatClampNeg).toInt64)) * ((rf (7 * kind).toNatClampNeg).toInt64)) * 4 := (if_neg c_5).trans ((if_neg c_6).trans ((if_neg c_7).trans (rfl)))
        exact W.lret (v := (((((rf ((7 * kind) + 1).toNatClampNeg).toInt64) * ((rf (7 * kind).toNatClampNeg).toInt64)) * ((rf (7 * kind).toNatClampNeg).toInt64)) * 4)) hx hb hr (fun t ht hW => ⟨by rw [e_f], ht⟩) (fun _ h => by cases h) dR_formula_90
      · refine lv_lload hx hb dR_formula_61 (lv_at hl 0 rfl) ?_
        refine lv_lload_n hx hb dR_formula_63 rfl (lv_at hl 5 rfl) ?_
        refine lv_lload hx hb dR_formula_64 (lv_at hl 6 rfl) ?_
        refine lv_ladd hx hb dR_formula_66 ?_
        refine lv_lmul hx hb dR_formula_67 ?_
        refine lv_lload hx hb dR_formula_68 (lv_at hl 1 rfl) ?_
        refine lv_lmul hx hb dR_formula_70 ?_
        refine lv_ldc2 (v := 2) hx hb hown (hts _ xk_645) dR_formula_71 ?_
        refine lv_ldiv hx hb dR_formula_74 (by decide) ?_
        refine lv_goto (tgt := 90) hx hb dR_formula_75 (by decide) ?_
        have e_f : fR_formula rf kind which a b = ((((rf ((7 * kind) + 1).toNatClampNeg).toInt64) * (a + b)) * ((rf (7 * kind).toNatClampNeg).toInt64)) / 2 := (if_neg c_5).trans ((if_neg c_6).trans ((if_pos c_7).trans (rfl)))
        exact W.lret (v := (((((rf ((7 * kind) + 1).toNatClampNeg).toInt64) * (a + b)) * ((rf (7 * kind).toNatClampNeg).toInt64)) / 2)) hx hb hr (fun t ht hW => ⟨by rw [e_f], ht⟩) (fun _ h => by cases h) dR_formula_90
    · refine lv_lload hx hb dR_formula_45 (lv_at hl 0 rfl) ?_
      refine lv_lload hx hb dR_formula_47 (lv_at hl 6 rfl) ?_
      refine lv_lmul hx hb dR_formula_49 ?_
      refine lv_lload hx hb dR_formula_50 (lv_at hl 1 rfl) ?_
      refine lv_lmul hx hb dR_formula_52 ?_
      refine lv_goto (tgt := 90) hx hb dR_formula_53 (by decide) ?_
      have e_f : fR_formula rf kind which a b = (((rf ((7 * kind) + 1).toNatClampNeg).toInt64) * b) * ((rf (7 * kind).toNatClampNeg).toInt64) := (if_neg c_5).trans ((if_pos c_6).trans (rfl))
      exact W.lret (v := ((((rf ((7 * kind) + 1).toNatClampNeg).toInt64) * b) * ((rf (7 * kind).toNatClampNeg).toInt64))) hx hb hr (fun t ht hW => ⟨by rw [e_f], ht⟩) (fun _ h => by cases h) dR_formula_90
  · refine lv_lload hx hb dR_formula_30 (lv_at hl 0 rfl) ?_
    refine lv_lload_n hx hb dR_formula_32 rfl (lv_at hl 5 rfl) ?_
    refine lv_lmul hx hb dR_formula_33 ?_
    refine lv_lload hx hb dR_formula_34 (lv_at hl 1 rfl) ?_
    refine lv_lmul hx hb dR_formula_36 ?_
    refine lv_goto (tgt := 90) hx hb dR_formula_37 (by decide) ?_
    have e_f : fR_formula rf kind which a b = (((rf ((7 * kind) + 1).toNatClampNeg).toInt64) * a) * ((rf (7 * kind).toNatClampNeg).toInt64) := (if_pos c_5).trans (rfl)
    exact W.lret (v := ((((rf ((7 * kind) + 1).toNatClampNeg).toInt64) * a) * ((rf (7 * kind).toNatClampNeg).toInt64))) hx hb hr (fun t ht hW => ⟨by rw [e_f], ht⟩) (fun _ h => by cases h) dR_formula_90

def fR_space (rf : Nat → Int32) (kind : Int32) (what : Int32) : Int64 := ((rf ((7 * kind) + what).toNatClampNeg).toInt64) * ((rf (7 * kind).toNatClampNeg).toInt64)
set_option maxHeartbeats 4000000 in
set_option maxRecDepth 100000 in
theorem cR_space (l : Launch) {s0 : State} {dC : Nat → ClassId} {dI : Nat → Nat → Nat} {cI cC cL : ClassId} (E : xb_Env l s0 dC dI (xtys cI cC cL)) (h0 : Nat) (fs : List Value) (ra : Nat) (rf : Nat → Int32) (kind : Int32) (what : Int32) (hf6 : fs[6]? = some (.ref ra)) (hz : vp_in (7 * kind) 28) (hk : vp_in (7 * kind + what) 28) : Met l yR_space [.code yR_space bR_space 3 (some (.long))] ({ frames := 0, cells := 0, slots := 0, locals := 0 }) (va_Pc [.ref h0, .int kind, .int what] (fun U => xb_At s0 U ∧ va_P (dC, dI) classes [(h0, .inr (3, fs)), (ra, .inl (cI, 28, .inl rf))] U.heap)) (xb_R (some (.long (fR_space rf kind what)))) 0 0 (fun _ => False) := by
  refine Met.ofW (cc := bR_space) (maxL := 3) (ret := (some (.long))) (by decide) rfl ?_
  intro p e s m args below meth c s₁ B hml hv
  obtain ⟨rfl, hAt, hP⟩ := hv
  have hx := B.exec
  have hb := B.bytes
  have hr := B.returns
  have hts := xb_hts E hAt ([.ref h0, .int kind, .int what] : List Value).toArray
  have hown : s.vm.findClass "NailRulesModel" = some m.cls := findClass_of_methodNamed B.named
  have hlocks := B.notSynchronized
  have hK := xb_K E hAt
  have hl := lv_entry ([.ref h0, .int kind, .int what]) (n := 3) (Nat.le_of_ble_eq_true rfl)
  rw [lg_entry_eq]
  generalize (lg_sl ([.ref h0, .int kind, .int what]) ++ List.replicate (3 - (lg_sl ([.ref h0, .int kind, .int what])).length) Slot.unset).toArray = ls at hl ⊢
  have hl : lv_has ls 3 [(0, .ref h0), (1, .int kind), (2, .int what)] := hl
  refine lv_aload_n hx hb dR_space_0 rfl (lv_at hl 0 rfl) ?_
  refine va_get (D := (dC, dI)) (ci := 3) (v := .ref ra) (C := xR_R) (T := xF_R) (N := 20) hx hb hts xi_R hown hK hP 0 rfl rfl 6 (by decide) (hts _ xk_652) (fun _ h9 => h9) hf6 dR_space_1 ?_
  refine lv_bipush (v := 7) hx hb dR_space_4 (by decide) ?_
  refine lv_iload_n hx hb dR_space_6 rfl (lv_at hl 1 rfl) ?_
  refine lv_imul hx hb dR_space_7 ?_
  refine lv_iload_n hx hb dR_space_8 rfl (lv_at hl 2 rfl) ?_
  refine lv_iadd hx hb dR_space_9 ?_
  have o_1 : vp_in ((7 * kind) + what) 28 := by assumption
  refine va_iald hx hb hK hP 1 0 rfl rfl o_1 dR_space_10 ?_
  refine lv_i2l hx hb dR_space_11 rfl ?_
  refine lv_aload_n hx hb dR_space_12 rfl (lv_at hl 0 rfl) ?_
  refine va_get (D := (dC, dI)) (ci := 3) (v := .ref ra) (C := xR_R) (T := xF_R) (N := 20) hx hb hts xi_R hown hK hP 0 rfl rfl 6 (by decide) (hts _ xk_652) (fun _ h9 => h9) hf6 dR_space_13 ?_
  refine lv_bipush (v := 7) hx hb dR_space_16 (by decide) ?_
  refine lv_iload_n hx hb dR_space_18 rfl (lv_at hl 1 rfl) ?_
  refine lv_imul hx hb dR_space_19 ?_
  have o_2 : vp_in (7 * kind) 28 := by assumption
  refine va_iald hx hb hK hP 1 0 rfl rfl o_2 dR_space_20 ?_
  refine lv_i2l hx hb dR_space_21 rfl ?_
  refine lv_lmul hx hb dR_space_22 ?_
  have e_f : fR_space rf kind what = ((rf ((7 * kind) + what).toNatClampNeg).toInt64) * ((rf (7 * kind).toNatClampNeg).toInt64) := rfl
  exact W.lret (v := (((rf ((7 * kind) + what).toNatClampNeg).toInt64) * ((rf (7 * kind).toNatClampNeg).toInt64))) hx hb hr (fun t ht hW => ⟨by rw [e_f], ht⟩) (fun _ h => by cases h) dR_space_23

def fR_noMember (mem : Int32) (m1 : Int32) : Bool := if m1 < 0 then (true) else (if m1 < mem then (false) else (true))
set_option maxHeartbeats 4000000 in
set_option maxRecDepth 100000 in
theorem cR_noMember (l : Launch) {s0 : State} {dC : Nat → ClassId} {dI : Nat → Nat → Nat} {cI cC cL : ClassId} (E : xb_Env l s0 dC dI (xtys cI cC cL)) (h0 : Nat) (fs : List Value) (mem : Int32) (m1 : Int32) (hf17 : fs[17]? = some (.int mem)) : Met l yR_noMember [.code yR_noMember bR_noMember 2 (some (.boolean))] ({ frames := 0, cells := 0, slots := 0, locals := 0 }) (va_Pc [.ref h0, .int m1] (fun U => xb_At s0 U ∧ va_P (dC, dI) classes [(h0, .inr (3, fs))] U.heap)) (xb_R (some (.int (xb_bi (fR_noMember mem m1))))) 0 0 (fun _ => False) := by
  refine Met.ofW (cc := bR_noMember) (maxL := 2) (ret := (some (.boolean))) (by decide) rfl ?_
  intro p e s m args below meth c s₁ B hml hv
  obtain ⟨rfl, hAt, hP⟩ := hv
  have hx := B.exec
  have hb := B.bytes
  have hr := B.returns
  have hts := xb_hts E hAt ([.ref h0, .int m1] : List Value).toArray
  have hown : s.vm.findClass "NailRulesModel" = some m.cls := findClass_of_methodNamed B.named
  have hlocks := B.notSynchronized
  have hK := xb_K E hAt
  have hl := lv_entry ([.ref h0, .int m1]) (n := 2) (Nat.le_of_ble_eq_true rfl)
  rw [lg_entry_eq]
  generalize (lg_sl ([.ref h0, .int m1]) ++ List.replicate (2 - (lg_sl ([.ref h0, .int m1])).length) Slot.unset).toArray = ls at hl ⊢
  have hl : lv_has ls 2 [(0, .ref h0), (1, .int m1)] := hl
  refine lv_iload_n hx hb dR_noMember_0 rfl (lv_at hl 1 rfl) ?_
  refine lv_if_lt (tgt := 12) hx hb dR_noMember_1 (by decide) (fun c_1 => ?_) (fun c_1 => ?_)
  · refine lv_iconst (v := 1) hx hb dR_noMember_12 (by decide) ?_
    refine lv_goto (tgt := 17) hx hb dR_noMember_13 (by decide) ?_
    have e_f : fR_noMember mem m1 = true := (if_pos c_1).trans (rfl)
    exact W.zret (v := 1) hx hb hr (by decide) (fun t ht hW => ⟨by rw [e_f]; try rfl, ht⟩) (fun _ h => by cases h) dR_noMember_17
  · refine lv_iload_n hx hb dR_noMember_4 rfl (lv_at hl 1 rfl) ?_
    refine lv_aload_n hx hb dR_noMember_5 rfl (lv_at hl 0 rfl) ?_
    refine va_get (D := (dC, dI)) (ci := 3) (v := .int mem) (C := xR_R) (T := xF_R) (N := 20) hx hb hts xi_R hown hK hP 0 rfl rfl 17 (by decide) (hts _ xk_663) (fun _ h9 => h9) hf17 dR_noMember_6 ?_
    refine lv_icmp_lt (tgt := 16) hx hb dR_noMember_9 (by decide) (fun c_2 => ?_) (fun c_2 => ?_)
    · refine lv_iconst (v := 0) hx hb dR_noMember_16 (by decide) ?_
      have e_f : fR_noMember mem m1 = false := (if_neg c_1).trans ((if_pos c_2).trans (rfl))
      exact W.zret (v := 0) hx hb hr (by decide) (fun t ht hW => ⟨by rw [e_f]; try rfl, ht⟩) (fun _ h => by cases h) dR_noMember_17
    · refine lv_iconst (v := 1) hx hb dR_noMember_12 (by decide) ?_
      refine lv_goto (tgt := 17) hx hb dR_noMember_13 (by decide) ?_
      have e_f : fR_noMember mem m1 = true := (if_neg c_1).trans ((if_neg c_2).trans (rfl))
      exact W.zret (v := 1) hx hb hr (by decide) (fun t ht hW => ⟨by rw [e_f]; try rfl, ht⟩) (fun _ h => by cases h) dR_noMember_17

def fR_isWithin (ef : Nat → Int32) (wf : Nat → Int32) (m1 : Int32) (x : Int64) (y : Int64) : Bool := if (((((ef ((4 * m1) + 2).toNatClampNeg) - (ef (4 * m1).toNatClampNeg)).toInt64) * (x - ((ef (4 * m1).toNatClampNeg).toInt64))) + ((((ef ((4 * m1) + 3).toNatClampNeg) - (ef ((4 * m1) + 1).toNatClampNeg)).toInt64) * (y - ((ef ((4 * m1) + 1).toNatClampNeg).toInt64)))) < 0 then (false) else (if (((((ef ((4 * m1) + 2).toNatClampNeg) - (ef (4 * m1).toNatClampNeg)).toInt64) * (((ef ((4 * m1) + 2).toNatClampNeg) - (ef (4 * m1).toNatClampNeg)).toInt64)) + ((((ef ((4 * m1) + 3).toNatClampNeg) - (ef ((4 * m1) + 1).toNatClampNeg)).toInt64) * (((ef ((4 * m1) + 3).toNatClampNeg) - (ef ((4 * m1) + 1).toNatClampNeg)).toInt64))) < (((((ef ((4 * m1) + 2).toNatClampNeg) - (ef (4 * m1).toNatClampNeg)).toInt64) * (x - ((ef (4 * m1).toNatClampNeg).toInt64))) + ((((ef ((4 * m1) + 3).toNatClampNeg) - (ef ((4 * m1) + 1).toNatClampNeg)).toInt64) * (y - ((ef ((4 * m1) + 1).toNatClampNeg).toInt64)))) then (false) else (if ((((wf m1.toNatClampNeg).toInt64) * ((wf m1.toNatClampNeg).toInt64)) * (((((ef ((4 * m1) + 2).toNatClampNeg) - (ef (4 * m1).toNatClampNeg)).toInt64) * (((ef ((4 * m1) + 2).toNatClampNeg) - (ef (4 * m1).toNatClampNeg)).toInt64)) + ((((ef ((4 * m1) + 3).toNatClampNeg) - (ef ((4 * m1) + 1).toNatClampNeg)).toInt64) * (((ef ((4 * m1) + 3).toNatClampNeg) - (ef ((4 * m1) + 1).toNatClampNeg)).toInt64)))) < ((4 * (((((ef ((4 * m1) + 2).toNatClampNeg) - (ef (4 * m1).toNatClampNeg)).toInt64) * (y - ((ef ((4 * m1) + 1).toNatClampNeg).toInt64))) - ((((ef ((4 * m1) + 3).toNatClampNeg) - (ef ((4 * m1) + 1).toNatClampNeg)).toInt64) * (x - ((ef (4 * m1).toNatClampNeg).toInt64))))) * (((((ef ((4 * m1) + 2).toNatClampNeg) - (ef (4 * m1).toNatClampNeg)).toInt64) * (y - ((ef ((4 * m1) + 1).toNatClampNeg).toInt64))) - ((((ef ((4 * m1) + 3).toNatClampNeg) - (ef ((4 * m1) + 1).toNatClampNeg)).toInt64) * (x - ((ef (4 * m1).toNatClampNeg).toInt64))))) then (false) else (true)))
set_option maxHeartbeats 4000000 in
set_option maxRecDepth 100000 in
theorem cR_isWithin (l : Launch) {s0 : State} {dC : Nat → ClassId} {dI : Nat → Nat → Nat} {cI cC cL : ClassId} (E : xb_Env l s0 dC dI (xtys cI cC cL)) (h0 : Nat) (fs : List Value) (ea : Nat) (ef : Nat → Int32) (wa : Nat) (wf : Nat → Int32) (m1 : Int32) (x : Int64) (y : Int64) (hf18 : fs[18]? = some (.ref ea)) (hf19 : fs[19]? = some (.ref wa)) (h4 : vp_in (4 * m1) 24) (h41 : vp_in (4 * m1 + 1) 24) (h42 : vp_in (4 * m1 + 2) 24) (h43 : vp_in (4 * m1 + 3) 24) (hm : vp_in m1 6) : Met l yR_isWithin [.code yR_isWithin bR_isWithin 20 (some (.boolean))] ({ frames := 0, cells := 0, slots := 0, locals := 0 }) (va_Pc [.ref h0, .int m1, .long x, .long y] (fun U => xb_At s0 U ∧ va_P (dC, dI) classes [(h0, .inr (3, fs)), (ea, .inl (cI, 24, .inl ef)), (wa, .inl (cI, 6, .inl wf))] U.heap)) (xb_R (some (.int (xb_bi (fR_isWithin ef wf m1 x y))))) 0 0 (fun _ => False) := by
  refine Met.ofW (cc := bR_isWithin) (maxL := 20) (ret := (some (.boolean))) (by decide) rfl ?_
  intro p e s m args below meth c s₁ B hml hv
  obtain ⟨rfl, hAt, hP⟩ := hv
  have hx := B.exec
  have hb := B.bytes
  have hr := B.returns
  have hts := xb_hts E hAt ([.ref h0, .int m1, .long x, .long y] : List Value).toArray
  have hown : s.vm.findClass "NailRulesModel" = some m.cls := findClass_of_methodNamed B.named
  have hlocks := B.notSynchronized
  have hK := xb_K E hAt
  have hl := lv_entry ([.ref h0, .int m1, .long x, .long y]) (n := 20) (Nat.le_of_ble_eq_true rfl)
  rw [lg_entry_eq]
  generalize (lg_sl ([.ref h0, .int m1, .long x, .long y]) ++ List.replicate (20 - (lg_sl ([.ref h0, .int m1, .long x, .long y])).length) Slot.unset).toArray = ls at hl ⊢
  have hl : lv_has ls 20 [(0, .ref h0), (1, .int m1), (2, .long x), (4, .long y)] := hl
  refine lv_aload_n hx hb dR_isWithin_0 rfl (lv_at hl 0 rfl) ?_
  refine va_get (D := (dC, dI)) (ci := 3) (v := .ref ea) (C := xR_R) (T := xF_R) (N := 20) hx hb hts xi_R hown hK hP 0 rfl rfl 18 (by decide) (hts _ xk_664) (fun _ h9 => h9) hf18 dR_isWithin_1 ?_
  refine lv_iconst (v := 4) hx hb dR_isWithin_4 (by decide) ?_
  refine lv_iload_n hx hb dR_isWithin_5 rfl (lv_at hl 1 rfl) ?_
  refine lv_imul hx hb dR_isWithin_6 ?_
  refine lv_iconst (v := 2) hx hb dR_isWithin_7 (by decide) ?_
  refine lv_iadd hx hb dR_isWithin_8 ?_
  have o_1 : vp_in ((4 * m1) + 2) 24 := by assumption
  refine va_iald hx hb hK hP 1 0 rfl rfl o_1 dR_isWithin_9 ?_
  refine lv_aload_n hx hb dR_isWithin_10 rfl (lv_at hl 0 rfl) ?_
  refine va_get (D := (dC, dI)) (ci := 3) (v := .ref ea) (C := xR_R) (T := xF_R) (N := 20) hx hb hts xi_R hown hK hP 0 rfl rfl 18 (by decide) (hts _ xk_664) (fun _ h9 => h9) hf18 dR_isWithin_11 ?_
  refine lv_iconst (v := 4) hx hb dR_isWithin_14 (by decide) ?_
  refine lv_iload_n hx hb dR_isWithin_15 rfl (lv_at hl 1 rfl) ?_
  refine lv_imul hx hb dR_isWithin_16 ?_
  have o_2 : vp_in (4 * m1) 24 := by assumption
  refine va_iald hx hb hK hP 1 0 rfl rfl o_2 dR_isWithin_17 ?_
  refine lv_isub hx hb dR_isWithin_18 ?_
  refine lv_i2l hx hb dR_isWithin_19 rfl ?_
  refine lv_lstore (lv' := [(6, .long (((ef ((4 * m1) + 2).toNatClampNeg) - (ef (4 * m1).toNatClampNeg)).toInt64)), (0, .ref h0), (1, .int m1), (2, .long x), (4, .long y)]) hx hb dR_isWithin_20 hl (by decide) rfl (fun ls hl => ?_)
  refine lv_aload_n hx hb dR_isWithin_22 rfl (lv_at hl 1 rfl) ?_
  refine va_get (D := (dC, dI)) (ci := 3) (v := .ref ea) (C := xR_R) (T := xF_R) (N := 20) hx hb hts xi_R hown hK hP 0 rfl rfl 18 (by decide) (hts _ xk_664) (fun _ h9 => h9) hf18 dR_isWithin_23 ?_
  refine lv_iconst (v := 4) hx hb dR_isWithin_26 (by decide) ?_
  refine lv_iload_n hx hb dR_isWithin_27 rfl (lv_at hl 2 rfl) ?_
  refine lv_imul hx hb dR_isWithin_28 ?_
  refine lv_iconst (v := 3) hx hb dR_isWithin_29 (by decide) ?_
  refine lv_iadd hx hb dR_isWithin_30 ?_
  have o_4 : vp_in ((4 * m1) + 3) 24 := by assumption
  refine va_iald hx hb hK hP 1 0 rfl rfl o_4 dR_isWithin_31 ?_
  refine lv_aload_n hx hb dR_isWithin_32 rfl (lv_at hl 1 rfl) ?_
  refine va_get (D := (dC, dI)) (ci := 3) (v := .ref ea) (C := xR_R) (T := xF_R) (N := 20) hx hb hts xi_R hown hK hP 0 rfl rfl 18 (by decide) (hts _ xk_664) (fun _ h9 => h9) hf18 dR_isWithin_33 ?_
  refine lv_iconst (v := 4) hx hb dR_isWithin_36 (by decide) ?_
  refine lv_iload_n hx hb dR_isWithin_37 rfl (lv_at hl 2 rfl) ?_
  refine lv_imul hx hb dR_isWithin_38 ?_
  refine lv_iconst (v := 1) hx hb dR_isWithin_39 (by decide) ?_
  refine lv_iadd hx hb dR_isWithin_40 ?_
  have o_5 : vp_in ((4 * m1) + 1) 24 := by assumption
  refine va_iald hx hb hK hP 1 0 rfl rfl o_5 dR_isWithin_41 ?_
  refine lv_isub hx hb dR_isWithin_42 ?_
  refine lv_i2l hx hb dR_isWithin_43 rfl ?_
  refine lv_lstore (lv' := [(8, .long (((ef ((4 * m1) + 3).toNatClampNeg) - (ef ((4 * m1) + 1).toNatClampNeg)).toInt64)), (6, .long (((ef ((4 * m1) + 2).toNatClampNeg) - (ef (4 * m1).toNatClampNeg)).toInt64)), (0, .ref h0), (1, .int m1), (2, .long x), (4, .long y)]) hx hb dR_isWithin_44 hl (by decide) rfl (fun ls hl => ?_)
  refine lv_lload_n hx hb dR_isWithin_46 rfl (lv_at hl 4 rfl) ?_
  refine lv_aload_n hx hb dR_isWithin_47 rfl (lv_at hl 2 rfl) ?_
  refine va_get (D := (dC, dI)) (ci := 3) (v := .ref ea) (C := xR_R) (T := xF_R) (N := 20) hx hb hts xi_R hown hK hP 0 rfl rfl 18 (by decide) (hts _ xk_664) (fun _ h9 => h9) hf18 dR_isWithin_48 ?_
  refine lv_iconst (v := 4) hx hb dR_isWithin_51 (by decide) ?_
  refine lv_iload_n hx hb dR_isWithin_52 rfl (lv_at hl 3 rfl) ?_
  refine lv_imul hx hb dR_isWithin_53 ?_
  have o_7 : vp_in (4 * m1) 24 := by assumption
  refine va_iald hx hb hK hP 1 0 rfl rfl o_7 dR_isWithin_54 ?_
  refine lv_i2l hx hb dR_isWithin_55 rfl ?_
  refine lv_lsub hx hb dR_isWithin_56 ?_
  refine lv_lstore (lv' := [(10, .long (x - ((ef (4 * m1).toNatClampNeg).toInt64))), (8, .long (((ef ((4 * m1) + 3).toNatClampNeg) - (ef ((4 * m1) + 1).toNatClampNeg)).toInt64)), (6, .long (((ef ((4 * m1) + 2).toNatClampNeg) - (ef (4 * m1).toNatClampNeg)).toInt64)), (0, .ref h0), (1, .int m1), (2, .long x), (4, .long y)]) hx hb dR_isWithin_57 hl (by decide) rfl (fun ls hl => ?_)
  refine lv_lload hx hb dR_isWithin_59 (lv_at hl 6 rfl) ?_
  refine lv_aload_n hx hb dR_isWithin_61 rfl (lv_at hl 3 rfl) ?_
  refine va_get (D := (dC, dI)) (ci := 3) (v := .ref ea) (C := xR_R) (T := xF_R) (N := 20) hx hb hts xi_R hown hK hP 0 rfl rfl 18 (by decide) (hts _ xk_664) (fun _ h9 => h9) hf18 dR_isWithin_62 ?_
  refine lv_iconst (v := 4) hx hb dR_isWithin_65 (by decide) ?_
  refine lv_iload_n hx hb dR_isWithin_66 rfl (lv_at hl 4 rfl) ?_
  refine lv_imul hx hb dR_isWithin_67 ?_
  refine lv_iconst (v := 1) hx hb dR_isWithin_68 (by decide) ?_
  refine lv_iadd hx hb dR_isWithin_69 ?_
  have o_9 : vp_in ((4 * m1) + 1) 24 := by assumption
  refine va_iald hx hb hK hP 1 0 rfl rfl o_9 dR_isWithin_70 ?_
  refine lv_i2l hx hb dR_isWithin_71 rfl ?_
  refine lv_lsub hx hb dR_isWithin_72 ?_
  refine lv_lstore (lv' := [(12, .long (y - ((ef ((4 * m1) + 1).toNatClampNeg).toInt64))), (10, .long (x - ((ef (4 * m1).toNatClampNeg).toInt64))), (8, .long (((ef ((4 * m1) + 3).toNatClampNeg) - (ef ((4 * m1) + 1).toNatClampNeg)).toInt64)), (6, .long (((ef ((4 * m1) + 2).toNatClampNeg) - (ef (4 * m1).toNatClampNeg)).toInt64)), (0, .ref h0), (1, .int m1), (2, .long x), (4, .long y)]) hx hb dR_isWithin_73 hl (by decide) rfl (fun ls hl => ?_)
  refine lv_lload hx hb dR_isWithin_75 (lv_at hl 3 rfl) ?_
  refine lv_lload hx hb dR_isWithin_77 (lv_at hl 3 rfl) ?_
  refine lv_lmul hx hb dR_isWithin_79 ?_
  refine lv_lload hx hb dR_isWithin_80 (lv_at hl 2 rfl) ?_
  refine lv_lload hx hb dR_isWithin_82 (lv_at hl 2 rfl) ?_
  refine lv_lmul hx hb dR_isWithin_84 ?_
  refine lv_ladd hx hb dR_isWithin_85 ?_
  refine lv_lstore (lv' := [(14, .long (((((ef ((4 * m1) + 2).toNatClampNeg) - (ef (4 * m1).toNatClampNeg)).toInt64) * (((ef ((4 * m1) + 2).toNatClampNeg) - (ef (4 * m1).toNatClampNeg)).toInt64)) + ((((ef ((4 * m1) + 3).toNatClampNeg) - (ef ((4 * m1) + 1).toNatClampNeg)).toInt64) * (((ef ((4 * m1) + 3).toNatClampNeg) - (ef ((4 * m1) + 1).toNatClampNeg)).toInt64)))), (12, .long (y - ((ef ((4 * m1) + 1).toNatClampNeg).toInt64))), (10, .long (x - ((ef (4 * m1).toNatClampNeg).toInt64))), (8, .long (((ef ((4 * m1) + 3).toNatClampNeg) - (ef ((4 * m1) + 1).toNatClampNeg)).toInt64)), (6, .long (((ef ((4 * m1) + 2).toNatClampNeg) - (ef (4 * m1).toNatClampNeg)).toInt64)), (0, .ref h0), (1, .int m1), (2, .long x), (4, .long y)]) hx hb dR_isWithin_86 hl (by decide) rfl (fun ls hl => ?_)
  refine lv_lload hx hb dR_isWithin_88 (lv_at hl 4 rfl) ?_
  refine lv_lload hx hb dR_isWithin_90 (lv_at hl 2 rfl) ?_
  refine lv_lmul hx hb dR_isWithin_92 ?_
  refine lv_lload hx hb dR_isWithin_93 (lv_at hl 3 rfl) ?_
  refine lv_lload hx hb dR_isWithin_95 (lv_at hl 1 rfl) ?_
  refine lv_lmul hx hb dR_isWithin_97 ?_
  refine lv_ladd hx hb dR_isWithin_98 ?_
  refine lv_lstore (lv' := [(16, .long (((((ef ((4 * m1) + 2).toNatClampNeg) - (ef (4 * m1).toNatClampNeg)).toInt64) * (x - ((ef (4 * m1).toNatClampNeg).toInt64))) + ((((ef ((4 * m1) + 3).toNatClampNeg) - (ef ((4 * m1) + 1).toNatClampNeg)).toInt64) * (y - ((ef ((4 * m1) + 1).toNatClampNeg).toInt64))))), (14, .long (((((ef ((4 * m1) + 2).toNatClampNeg) - (ef (4 * m1).toNatClampNeg)).toInt64) * (((ef ((4 * m1) + 2).toNatClampNeg) - (ef (4 * m1).toNatClampNeg)).toInt64)) + ((((ef ((4 * m1) + 3).toNatClampNeg) - (ef ((4 * m1) + 1).toNatClampNeg)).toInt64) * (((ef ((4 * m1) + 3).toNatClampNeg) - (ef ((4 * m1) + 1).toNatClampNeg)).toInt64)))), (12, .long (y - ((ef ((4 * m1) + 1).toNatClampNeg).toInt64))), (10, .long (x - ((ef (4 * m1).toNatClampNeg).toInt64))), (8, .long (((ef ((4 * m1) + 3).toNatClampNeg) - (ef ((4 * m1) + 1).toNatClampNeg)).toInt64)), (6, .long (((ef ((4 * m1) + 2).toNatClampNeg) - (ef (4 * m1).toNatClampNeg)).toInt64)), (0, .ref h0), (1, .int m1), (2, .long x), (4, .long y)]) hx hb dR_isWithin_99 hl (by decide) rfl (fun ls hl => ?_)
  refine lv_lload hx hb dR_isWithin_101 (lv_at hl 5 rfl) ?_
  refine lv_lload hx hb dR_isWithin_103 (lv_at hl 2 rfl) ?_
  refine lv_lmul hx hb dR_isWithin_105 ?_
  refine lv_lload hx hb dR_isWithin_106 (lv_at hl 4 rfl) ?_
  refine lv_lload hx hb dR_isWithin_108 (lv_at hl 3 rfl) ?_
  refine lv_lmul hx hb dR_isWithin_110 ?_
  refine lv_lsub hx hb dR_isWithin_111 ?_
  refine lv_lstore (lv' := [(18, .long (((((ef ((4 * m1) + 2).toNatClampNeg) - (ef (4 * m1).toNatClampNeg)).toInt64) * (y - ((ef ((4 * m1) + 1).toNatClampNeg).toInt64))) - ((((ef ((4 * m1) + 3).toNatClampNeg) - (ef ((4 * m1) + 1).toNatClampNeg)).toInt64) * (x - ((ef (4 * m1).toNatClampNeg).toInt64))))), (16, .long (((((ef ((4 * m1) + 2).toNatClampNeg) - (ef (4 * m1).toNatClampNeg)).toInt64) * (x - ((ef (4 * m1).toNatClampNeg).toInt64))) + ((((ef ((4 * m1) + 3).toNatClampNeg) - (ef ((4 * m1) + 1).toNatClampNeg)).toInt64) * (y - ((ef ((4 * m1) + 1).toNatClampNeg).toInt64))))), (14, .long (((((ef ((4 * m1) + 2).toNatClampNeg) - (ef (4 * m1).toNatClampNeg)).toInt64) * (((ef ((4 * m1) + 2).toNatClampNeg) - (ef (4 * m1).toNatClampNeg)).toInt64)) + ((((ef ((4 * m1) + 3).toNatClampNeg) - (ef ((4 * m1) + 1).toNatClampNeg)).toInt64) * (((ef ((4 * m1) + 3).toNatClampNeg) - (ef ((4 * m1) + 1).toNatClampNeg)).toInt64)))), (12, .long (y - ((ef ((4 * m1) + 1).toNatClampNeg).toInt64))), (10, .long (x - ((ef (4 * m1).toNatClampNeg).toInt64))), (8, .long (((ef ((4 * m1) + 3).toNatClampNeg) - (ef ((4 * m1) + 1).toNatClampNeg)).toInt64)), (6, .long (((ef ((4 * m1) + 2).toNatClampNeg) - (ef (4 * m1).toNatClampNeg)).toInt64)), (0, .ref h0), (1, .int m1), (2, .long x), (4, .long y)]) hx hb dR_isWithin_112 hl (by decide) rfl (fun ls hl => ?_)
  refine lv_lload hx hb dR_isWithin_114 (lv_at hl 1 rfl) ?_
  refine lv_lconst (v := 0) hx hb dR_isWithin_116 (by decide) ?_
  refine W.lcmp hx hb dR_isWithin_117 ?_
  refine lv_if_lt (tgt := 164) hx hb dR_isWithin_118 (by decide) (fun c_14 => ?_) (fun c_14 => ?_)
  · have c_14 := (lg_cmp_lt _ _).mp c_14
    refine lv_iconst (v := 0) hx hb dR_isWithin_164 (by decide) ?_
    have e_f : fR_isWithin ef wf m1 x y = false := (if_pos c_14).trans (rfl)
    exact W.zret (v := 0) hx hb hr (by decide) (fun t ht hW => ⟨by rw [e_f]; try rfl, ht⟩) (fun _ h => by cases h) dR_isWithin_165
  · have c_14 := fun q => c_14 ((lg_cmp_lt _ _).mpr q)
    refine lv_lload hx hb dR_isWithin_121 (lv_at hl 1 rfl) ?_
    refine lv_lload hx hb dR_isWithin_123 (lv_at hl 2 rfl) ?_
    refine W.lcmp hx hb dR_isWithin_125 ?_
    refine lv_if_gt (tgt := 164) hx hb dR_isWithin_126 (by decide) (fun c_15 => ?_) (fun c_15 => ?_)
    · have c_15 := (lg_cmp_gt _ _).mp c_15
      refine lv_iconst (v := 0) hx hb dR_isWithin_164 (by decide) ?_
      have e_f : fR_isWithin ef wf m1 x y = false := (if_neg c_14).trans ((if_pos c_15).trans (rfl))
      exact W.zret (v := 0) hx hb hr (by decide) (fun t ht hW => ⟨by rw [e_f]; try rfl, ht⟩) (fun _ h => by cases h) dR_isWithin_165
    · have c_15 := fun q => c_15 ((lg_cmp_gt _ _).mpr q)
      refine lv_ldc2 (v := 4) hx hb hown (hts _ xk_771) dR_isWithin_129 ?_
      refine lv_lload hx hb dR_isWithin_132 (lv_at hl 0 rfl) ?_
      refine lv_lmul hx hb dR_isWithin_134 ?_
      refine lv_lload hx hb dR_isWithin_135 (lv_at hl 0 rfl) ?_
      refine lv_lmul hx hb dR_isWithin_137 ?_
      refine lv_aload_n hx hb dR_isWithin_138 rfl (lv_at hl 7 rfl) ?_
      refine va_get (D := (dC, dI)) (ci := 3) (v := .ref wa) (C := xR_R) (T := xF_R) (N := 20) hx hb hts xi_R hown hK hP 0 rfl rfl 19 (by decide) (hts _ xk_665) (fun _ h9 => h9) hf19 dR_isWithin_139 ?_
      refine lv_iload_n hx hb dR_isWithin_142 rfl (lv_at hl 8 rfl) ?_
      have o_16 : vp_in m1 6 := by assumption
      refine va_iald hx hb hK hP 2 0 rfl rfl o_16 dR_isWithin_143 ?_
      refine lv_i2l hx hb dR_isWithin_144 rfl ?_
      refine lv_aload_n hx hb dR_isWithin_145 rfl (lv_at hl 7 rfl) ?_
      refine va_get (D := (dC, dI)) (ci := 3) (v := .ref wa) (C := xR_R) (T := xF_R) (N := 20) hx hb hts xi_R hown hK hP 0 rfl rfl 19 (by decide) (hts _ xk_665) (fun _ h9 => h9) hf19 dR_isWithin_146 ?_
      refine lv_iload_n hx hb dR_isWithin_149 rfl (lv_at hl 8 rfl) ?_
      have o_17 : vp_in m1 6 := by assumption
      refine va_iald hx hb hK hP 2 0 rfl rfl o_17 dR_isWithin_150 ?_
      refine lv_i2l hx hb dR_isWithin_151 rfl ?_
      refine lv_lmul hx hb dR_isWithin_152 ?_
      refine lv_lload hx hb dR_isWithin_153 (lv_at hl 2 rfl) ?_
      refine lv_lmul hx hb dR_isWithin_155 ?_
      refine W.lcmp hx hb dR_isWithin_156 ?_
      refine lv_if_gt (tgt := 164) hx hb dR_isWithin_157 (by decide) (fun c_18 => ?_) (fun c_18 => ?_)
      · have c_18 := (lg_cmp_gt _ _).mp c_18
        refine lv_iconst (v := 0) hx hb dR_isWithin_164 (by decide) ?_
        have e_f : fR_isWithin ef wf m1 x y = false := (if_neg c_14).trans ((if_neg c_15).trans ((if_pos c_18).trans (rfl)))
        exact W.zret (v := 0) hx hb hr (by decide) (fun t ht hW => ⟨by rw [e_f]; try rfl, ht⟩) (fun _ h => by cases h) dR_isWithin_165
      · have c_18 := fun q => c_18 ((lg_cmp_gt _ _).mpr q)
        refine lv_iconst (v := 1) hx hb dR_isWithin_160 (by decide) ?_
        refine lv_goto (tgt := 165) hx hb dR_isWithin_161 (by decide) ?_
        have e_f : fR_isWithin ef wf m1 x y = true := (if_neg c_14).trans ((if_neg c_15).trans ((if_neg c_18).trans (rfl)))
        exact W.zret (v := 1) hx hb hr (by decide) (fun t ht hW => ⟨by rw [e_f]; try rfl, ht⟩) (fun _ h => by cases h) dR_isWithin_165

def fR_now (tf : Nat → Int32) (sz : Int32) (pos : Int32) : Int32 := if sz ≤ pos then ((-1)) else (tf pos.toNatClampNeg)
set_option maxHeartbeats 4000000 in
set_option maxRecDepth 100000 in
theorem cR_now (l : Launch) {s0 : State} {dC : Nat → ClassId} {dI : Nat → Nat → Nat} {cI cC cL : ClassId} (E : xb_Env l s0 dC dI (xtys cI cC cL)) (h0 : Nat) (fs : List Value) (ta : Nat) (tf : Nat → Int32) (sz : Int32) (pos : Int32) (hf1 : fs[1]? = some (.ref ta)) (hf2 : fs[2]? = some (.int sz)) (hf3 : fs[3]? = some (.int pos)) (hp : 0 ≤ pos) (hs : sz ≤ 200) : Met l yR_now [.code yR_now bR_now 1 (some (.int))] ({ frames := 0, cells := 0, slots := 0, locals := 0 }) (va_Pc [.ref h0] (fun U => xb_At s0 U ∧ va_P (dC, dI) classes [(h0, .inr (3, fs)), (ta, .inl (cI, 200, .inl tf))] U.heap)) (xb_R (some (.int (fR_now tf sz pos)))) 0 0 (fun _ => False) := by
  refine Met.ofW (cc := bR_now) (maxL := 1) (ret := (some (.int))) (by decide) rfl ?_
  intro p e s m args below meth c s₁ B hml hv
  obtain ⟨rfl, hAt, hP⟩ := hv
  have hx := B.exec
  have hb := B.bytes
  have hr := B.returns
  have hts := xb_hts E hAt ([.ref h0] : List Value).toArray
  have hown : s.vm.findClass "NailRulesModel" = some m.cls := findClass_of_methodNamed B.named
  have hlocks := B.notSynchronized
  have hK := xb_K E hAt
  have hl := lv_entry ([.ref h0]) (n := 1) (Nat.le_of_ble_eq_true rfl)
  rw [lg_entry_eq]
  generalize (lg_sl ([.ref h0]) ++ List.replicate (1 - (lg_sl ([.ref h0])).length) Slot.unset).toArray = ls at hl ⊢
  have hl : lv_has ls 1 [(0, .ref h0)] := hl
  refine lv_aload_n hx hb dR_now_0 rfl (lv_at hl 0 rfl) ?_
  refine va_get (D := (dC, dI)) (ci := 3) (v := .int pos) (C := xR_R) (T := xF_R) (N := 20) hx hb hts xi_R hown hK hP 0 rfl rfl 3 (by decide) (hts _ xk_649) (fun _ h9 => h9) hf3 dR_now_1 ?_
  refine lv_aload_n hx hb dR_now_4 rfl (lv_at hl 0 rfl) ?_
  refine va_get (D := (dC, dI)) (ci := 3) (v := .int sz) (C := xR_R) (T := xF_R) (N := 20) hx hb hts xi_R hown hK hP 0 rfl rfl 2 (by decide) (hts _ xk_648) (fun _ h9 => h9) hf2 dR_now_5 ?_
  refine lv_icmp_ge (tgt := 23) hx hb dR_now_8 (by decide) (fun c_1 => ?_) (fun c_1 => ?_)
  · refine lv_iconst (v := (-1)) hx hb dR_now_23 (by decide) ?_
    have e_f : fR_now tf sz pos = (-1) := (if_pos c_1).trans (rfl)
    exact W.iret (v := (-1)) hx hb hr (fun t ht hW => ⟨by rw [e_f], ht⟩) (fun _ h => by cases h) dR_now_24
  · refine lv_aload_n hx hb dR_now_11 rfl (lv_at hl 0 rfl) ?_
    refine va_get (D := (dC, dI)) (ci := 3) (v := .ref ta) (C := xR_R) (T := xF_R) (N := 20) hx hb hts xi_R hown hK hP 0 rfl rfl 1 (by decide) (hts _ xk_647) (fun _ h9 => h9) hf1 dR_now_12 ?_
    refine lv_aload_n hx hb dR_now_15 rfl (lv_at hl 0 rfl) ?_
    refine va_get (D := (dC, dI)) (ci := 3) (v := .int pos) (C := xR_R) (T := xF_R) (N := 20) hx hb hts xi_R hown hK hP 0 rfl rfl 3 (by decide) (hts _ xk_649) (fun _ h9 => h9) hf3 dR_now_16 ?_
    have o_2 : vp_in pos 200 := by exact xp_now hp hs (by assumption)
    refine va_iald hx hb hK hP 1 0 rfl rfl o_2 dR_now_19 ?_
    refine lv_goto (tgt := 24) hx hb dR_now_20 (by decide) ?_
    have e_f : fR_now tf sz pos = tf pos.toNatClampNeg := (if_neg c_1).trans (rfl)
    exact W.iret (v := (tf pos.toNatClampNeg)) hx hb hr (fun t ht hW => ⟨by rw [e_f], ht⟩) (fun _ h => by cases h) dR_now_24

def fR_isDigit (tf : Nat → Int32) (sz : Int32) (pos : Int32) : Bool := if (fR_now tf sz pos) < 48 then (false) else (if 57 < (fR_now tf sz pos) then (false) else (true))
set_option maxHeartbeats 4000000 in
set_option maxRecDepth 100000 in
theorem cR_isDigit (l : Launch) {s0 : State} {dC : Nat → ClassId} {dI : Nat → Nat → Nat} {cI cC cL : ClassId} (E : xb_Env l s0 dC dI (xtys cI cC cL)) (h0 : Nat) (fs : List Value) (ta : Nat) (tf : Nat → Int32) (sz : Int32) (pos : Int32) (hf1 : fs[1]? = some (.ref ta)) (hf2 : fs[2]? = some (.int sz)) (hf3 : fs[3]? = some (.int pos)) (hp : 0 ≤ pos) (hs : sz ≤ 200) : Met l yR_isDigit [.code yR_isDigit bR_isDigit 1 (some (.boolean))] ({ frames := 1, cells := 0, slots := 0, locals := 20 }) (va_Pc [.ref h0] (fun U => xb_At s0 U ∧ va_P (dC, dI) classes [(h0, .inr (3, fs)), (ta, .inl (cI, 200, .inl tf))] U.heap)) (xb_R (some (.int (xb_bi (fR_isDigit tf sz pos))))) 0 0 (fun _ => False) := by
  refine Met.ofW (cc := bR_isDigit) (maxL := 1) (ret := (some (.boolean))) (by decide) rfl ?_
  intro p e s m args below meth c s₁ B hml hv
  obtain ⟨rfl, hAt, hP⟩ := hv
  have hx := B.exec
  have hb := B.bytes
  have hr := B.returns
  have hts := xb_hts E hAt ([.ref h0] : List Value).toArray
  have hown : s.vm.findClass "NailRulesModel" = some m.cls := findClass_of_methodNamed B.named
  have hlocks := B.notSynchronized
  have hK := xb_K E hAt
  have hl := lv_entry ([.ref h0]) (n := 1) (Nat.le_of_ble_eq_true rfl)
  rw [lg_entry_eq]
  generalize (lg_sl ([.ref h0]) ++ List.replicate (1 - (lg_sl ([.ref h0])).length) Slot.unset).toArray = ls at hl ⊢
  have hl : lv_has ls 1 [(0, .ref h0)] := hl
  refine lv_aload_n hx hb dR_isDigit_0 rfl (lv_at hl 0 rfl) ?_
  refine xb_rd (W.runV (C := "NailRulesModel") (As := []) (rest := []) ⟨hx, hb, hml, hown, hts⟩ (cR_now l E h0 fs ta tf sz pos hf1 hf2 hf3 (by assumption) (by assumption)) (cwV 0 hts (xb_gi (List.forall_mem_cons.mpr ⟨xk_715, List.forall_mem_cons.mpr ⟨xk_717, List.forall_mem_cons.mpr ⟨xk_27, List.forall_mem_cons.mpr ⟨xk_45, List.forall_mem_cons.mpr ⟨xk_718, fun _ h => absurd h List.not_mem_nil⟩⟩⟩⟩⟩)) rfl rfl rfl (by decide +kernel) ⟨Nat.le_of_ble_eq_true rfl, Nat.le_of_ble_eq_true rfl⟩) ⟨fun _ _ _ _ q => q, va_recv hK hP (ci := 3) (q0 := 0) rfl rfl, fun U hU hW => ⟨rfl, xb_at0 hAt hU hW, by rw [hU]; exact hP.sub (ws' := [(h0, .inr (3, fs)), (ta, .inl (cI, 200, .inl tf))]) [0, 1] rfl⟩⟩ rfl rfl hl.1 rfl (lv_room (Nat.le_of_ble_eq_true rfl)) dR_isDigit_1 ⟨Nat.zero_le _, Nat.zero_le _⟩) ?_
  refine lv_bipush (v := 48) hx hb dR_isDigit_4 (by decide) ?_
  refine lv_icmp_lt (tgt := 22) hx hb dR_isDigit_6 (by decide) (fun c_1 => ?_) (fun c_1 => ?_)
  · refine lv_iconst (v := 0) hx hb dR_isDigit_22 (by decide) ?_
    have e_f : fR_isDigit tf sz pos = false := (if_pos c_1).trans (rfl)
    exact W.zret (v := 0) hx hb hr (by decide) (fun t ht hW => ⟨by rw [e_f]; try rfl, ht⟩) (fun _ h => by cases h) dR_isDigit_23
  · refine lv_aload_n hx hb dR_isDigit_9 rfl (lv_at hl 0 rfl) ?_
    refine xb_rd (W.runV (C := "NailRulesModel") (As := []) (rest := []) ⟨hx, hb, hml, hown, hts⟩ (cR_now l E h0 fs ta tf sz pos hf1 hf2 hf3 (by assumption) (by assumption)) (cwV 0 hts (xb_gi (List.forall_mem_cons.mpr ⟨xk_715, List.forall_mem_cons.mpr ⟨xk_717, List.forall_mem_cons.mpr ⟨xk_27, List.forall_mem_cons.mpr ⟨xk_45, List.forall_mem_cons.mpr ⟨xk_718, fun _ h => absurd h List.not_mem_nil⟩⟩⟩⟩⟩)) rfl rfl rfl (by decide +kernel) ⟨Nat.le_of_ble_eq_true rfl, Nat.le_of_ble_eq_true rfl⟩) ⟨fun _ _ _ _ q => q, va_recv hK hP (ci := 3) (q0 := 0) rfl rfl, fun U hU hW => ⟨rfl, xb_at0 hAt hU hW, by rw [hU]; exact hP.sub (ws' := [(h0, .inr (3, fs)), (ta, .inl (cI, 200, .inl tf))]) [0, 1] rfl⟩⟩ rfl rfl hl.1 rfl (lv_room (Nat.le_of_ble_eq_true rfl)) dR_isDigit_10 ⟨Nat.zero_le _, Nat.zero_le _⟩) ?_
    refine lv_bipush (v := 57) hx hb dR_isDigit_13 (by decide) ?_
    refine lv_icmp_gt (tgt := 22) hx hb dR_isDigit_15 (by decide) (fun c_2 => ?_) (fun c_2 => ?_)
    · refine lv_iconst (v := 0) hx hb dR_isDigit_22 (by decide) ?_
      have e_f : fR_isDigit tf sz pos = false := (if_neg c_1).trans ((if_pos c_2).trans (rfl))
      exact W.zret (v := 0) hx hb hr (by decide) (fun t ht hW => ⟨by rw [e_f]; try rfl, ht⟩) (fun _ h => by cases h) dR_isDigit_23
    · refine lv_iconst (v := 1) hx hb dR_isDigit_18 (by decide) ?_
      refine lv_goto (tgt := 23) hx hb dR_isDigit_19 (by decide) ?_
      have e_f : fR_isDigit tf sz pos = true := (if_neg c_1).trans ((if_neg c_2).trans (rfl))
      exact W.zret (v := 1) hx hb hr (by decide) (fun t ht hW => ⟨by rw [e_f]; try rfl, ht⟩) (fun _ h => by cases h) dR_isDigit_23
end
section
theorem xs_111 : Cond.exactly (.string "NailRules" 111) "java/lang/String" ∈ xt_nar := by decide +kernel
theorem xs_116 : Cond.exactly (.string "NailRules" 116) "java/lang/String" ∈ xt_nar := by decide +kernel
theorem xs_131 : Cond.exactly (.string "NailRules" 131) "java/lang/String" ∈ xt_nar := by decide +kernel
theorem xs_137 : Cond.exactly (.string "NailRules" 137) "java/lang/String" ∈ xt_nar := by decide +kernel
theorem xs_158 : Cond.exactly (.string "NailRules" 158) "java/lang/String" ∈ xt_nar := by decide +kernel
theorem xs_162 : Cond.exactly (.string "NailRules" 162) "java/lang/String" ∈ xt_nar := by decide +kernel
theorem xs_165 : Cond.exactly (.string "NailRules" 165) "java/lang/String" ∈ xt_nar := by decide +kernel
theorem xs_209 : Cond.exactly (.string "NailRules" 209) "java/lang/String" ∈ xt_nar := by decide +kernel
theorem xs_210 : Cond.exactly (.string "NailRules" 210) "java/lang/String" ∈ xt_nar := by decide +kernel
theorem xs_212 : Cond.exactly (.string "NailRules" 212) "java/lang/String" ∈ xt_nar := by decide +kernel
theorem xs_214 : Cond.exactly (.string "NailRules" 214) "java/lang/String" ∈ xt_nar := by decide +kernel
theorem xs_216 : Cond.exactly (.string "NailRules" 216) "java/lang/String" ∈ xt_nar := by decide +kernel
theorem xs_218 : Cond.exactly (.string "NailRules" 218) "java/lang/String" ∈ xt_nar := by decide +kernel
theorem xs_220 : Cond.exactly (.string "NailRules" 220) "java/lang/String" ∈ xt_nar := by decide +kernel
set_option maxHeartbeats 4000000 in
set_option maxRecDepth 100000 in
theorem cN_requireIndex (l : Launch) {s0 : State} {dC : Nat → ClassId} {dI : Nat → Nat → Nat} {cI cC cL : ClassId} (E : xb_Env l s0 dC dI (xtys cI cC cL)) (i : Int32) (b : Int32) (h1 : ¬ i < 0) (h2 : i < b) : Met l yN_requireIndex [.code yN_requireIndex bN_requireIndex 2 none] ({ frames := 0, cells := 0, slots := 0, locals := 0 }) (va_Pc [.int i, .int b] (fun U => xb_At s0 U ∧ va_P (dC, dI) classes [] U.heap)) (xb_R (none)) 0 0 (fun _ => False) := by
  refine Met.ofW (cc := bN_requireIndex) (maxL := 2) (ret := none) (by decide) rfl ?_
  intro p e s m args below meth c s₁ B hml hv
  obtain ⟨rfl, hAt, hP⟩ := hv
  have hx := B.exec
  have hb := B.bytes
  have hr := B.returns
  have hts := xb_hts E hAt ([.int i, .int b] : List Value).toArray
  have hown : s.vm.findClass "NailRules" = some m.cls := findClass_of_methodNamed B.named
  have hlocks := B.notSynchronized
  have hK := xb_K E hAt
  have hl := lv_entry ([.int i, .int b]) (n := 2) (Nat.le_of_ble_eq_true rfl)
  rw [lg_entry_eq]
  generalize (lg_sl ([.int i, .int b]) ++ List.replicate (2 - (lg_sl ([.int i, .int b])).length) Slot.unset).toArray = ls at hl ⊢
  have hl : lv_has ls 2 [(0, .int i), (1, .int b)] := hl
  refine lv_iload_n hx hb dN_requireIndex_0 rfl (lv_at hl 0 rfl) ?_
  refine lv_if_lt (tgt := 9) hx hb dN_requireIndex_1 (by decide) (fun c_1 => ?_) (fun c_1 => ?_)
  · contradiction
  · refine lv_iload_n hx hb dN_requireIndex_4 rfl (lv_at hl 0 rfl) ?_
    refine lv_iload_n hx hb dN_requireIndex_5 rfl (lv_at hl 1 rfl) ?_
    refine lv_icmp_lt (tgt := 19) hx hb dN_requireIndex_6 (by decide) (fun c_2 => ?_) (fun c_2 => ?_)
    · exact W.vret hx hb hr (fun t ht hW => ⟨rfl, ht⟩) (fun _ h => by cases h) dN_requireIndex_19
    · contradiction

set_option maxHeartbeats 4000000 in
set_option maxRecDepth 100000 in
theorem cN_requireIndex_x (l : Launch) {s0 : State} {dC : Nat → ClassId} {dI : Nat → Nat → Nat} {cI cC cL : ClassId} (E : xb_Env l s0 dC dI (xtys cI cC cL)) (i : Int32) (b : Int32) (hb9 : i < 0 ∨ ¬ i < b) : xt_Met l yN_requireIndex [.code yN_requireIndex bN_requireIndex 2 none] ({ frames := 6, cells := 1, slots := 6, locals := 82 }) (va_Pc [.int i, .int b] (fun U => xb_At s0 U ∧ va_P (dC, dI) classes [] U.heap)) "java/lang/IndexOutOfBoundsException" := by
  refine xt_Met.ofW (cc := bN_requireIndex) (maxL := 2) (ret := none) (by decide) rfl ?_
  intro p e s m args below meth c s₁ B hml hex hv
  obtain ⟨rfl, hAt, hP⟩ := hv
  have hx := B.exec
  have hb := B.bytes
  have hr := B.returns
  have hts := xb_hts E hAt ([.int i, .int b] : List Value).toArray
  have hown : s.vm.findClass "NailRules" = some m.cls := findClass_of_methodNamed B.named
  have hlocks := B.notSynchronized
  have hK := xb_K E hAt
  have hl := lv_entry ([.int i, .int b]) (n := 2) (Nat.le_of_ble_eq_true rfl)
  rw [lg_entry_eq]
  generalize (lg_sl ([.int i, .int b]) ++ List.replicate (2 - (lg_sl ([.int i, .int b])).length) Slot.unset).toArray = ls at hl ⊢
  have hl : lv_has ls 2 [(0, .int i), (1, .int b)] := hl
  refine lv_iload_n hx hb dN_requireIndex_0 rfl (lv_at hl 0 rfl) ?_
  refine lv_if_lt (tgt := 9) hx hb dN_requireIndex_1 (by decide) (fun c_1 => ?_) (fun c_1 => ?_)
  · obtain ⟨q9, hq9⟩ := xt_str E hAt xk_332 xs_162
    exact xt_throw (names := xt_names) hx hb (hml.trans hl.1.symm) E.1 hown hlocks hex (by decide) (by decide) (xt_atoms E hAt _ xt_a1) (hts _ xk_291) (hts _ xk_54) hq9 dN_requireIndex_9 dN_requireIndex_12 dN_requireIndex_13 dN_requireIndex_15 dN_requireIndex_18 (by decide) (by decide) (by decide) (by decide)
  · refine lv_iload_n hx hb dN_requireIndex_4 rfl (lv_at hl 0 rfl) ?_
    refine lv_iload_n hx hb dN_requireIndex_5 rfl (lv_at hl 1 rfl) ?_
    refine lv_icmp_lt (tgt := 19) hx hb dN_requireIndex_6 (by decide) (fun c_2 => ?_) (fun c_2 => ?_)
    · rcases hb9 with h | h <;> contradiction
    · obtain ⟨q9, hq9⟩ := xt_str E hAt xk_332 xs_162
      exact xt_throw (names := xt_names) hx hb (hml.trans hl.1.symm) E.1 hown hlocks hex (by decide) (by decide) (xt_atoms E hAt _ xt_a1) (hts _ xk_291) (hts _ xk_54) hq9 dN_requireIndex_9 dN_requireIndex_12 dN_requireIndex_13 dN_requireIndex_15 dN_requireIndex_18 (by decide) (by decide) (by decide) (by decide)

set_option maxHeartbeats 4000000 in
set_option maxRecDepth 100000 in
theorem cN_requireWithin (l : Launch) {s0 : State} {dC : Nat → ClassId} {dI : Nat → Nat → Nat} {cI cC cL : ClassId} (E : xb_Env l s0 dC dI (xtys cI cC cL)) (n : Int64) (lo : Int64) (hi : Int64) (h1 : ¬ n < lo) (h2 : n ≤ hi) : Met l yN_requireWithin [.code yN_requireWithin bN_requireWithin 6 none] ({ frames := 0, cells := 0, slots := 0, locals := 0 }) (va_Pc [.long n, .long lo, .long hi] (fun U => xb_At s0 U ∧ va_P (dC, dI) classes [] U.heap)) (xb_R (none)) 0 0 (fun _ => False) := by
  refine Met.ofW (cc := bN_requireWithin) (maxL := 6) (ret := none) (by decide) rfl ?_
  intro p e s m args below meth c s₁ B hml hv
  obtain ⟨rfl, hAt, hP⟩ := hv
  have hx := B.exec
  have hb := B.bytes
  have hr := B.returns
  have hts := xb_hts E hAt ([.long n, .long lo, .long hi] : List Value).toArray
  have hown : s.vm.findClass "NailRules" = some m.cls := findClass_of_methodNamed B.named
  have hlocks := B.notSynchronized
  have hK := xb_K E hAt
  have hl := lv_entry ([.long n, .long lo, .long hi]) (n := 6) (Nat.le_of_ble_eq_true rfl)
  rw [lg_entry_eq]
  generalize (lg_sl ([.long n, .long lo, .long hi]) ++ List.replicate (6 - (lg_sl ([.long n, .long lo, .long hi])).length) Slot.unset).toArray = ls at hl ⊢
  have hl : lv_has ls 6 [(0, .long n), (2, .long lo), (4, .long hi)] := hl
  refine lv_lload_n hx hb dN_requireWithin_0 rfl (lv_at hl 0 rfl) ?_
  refine lv_lload_n hx hb dN_requireWithin_1 rfl (lv_at hl 1 rfl) ?_
  refine W.lcmp hx hb dN_requireWithin_2 ?_
  refine lv_if_lt (tgt := 13) hx hb dN_requireWithin_3 (by decide) (fun c_1 => ?_) (fun c_1 => ?_)
  · have c_1 := (lg_cmp_lt _ _).mp c_1
    contradiction
  · have c_1 := fun q => c_1 ((lg_cmp_lt _ _).mpr q)
    refine lv_lload_n hx hb dN_requireWithin_6 rfl (lv_at hl 0 rfl) ?_
    refine lv_lload hx hb dN_requireWithin_7 (lv_at hl 2 rfl) ?_
    refine W.lcmp hx hb dN_requireWithin_9 ?_
    refine lv_if_le (tgt := 23) hx hb dN_requireWithin_10 (by decide) (fun c_2 => ?_) (fun c_2 => ?_)
    · have c_2 := (lg_cmp_le _ _).mp c_2
      exact W.vret hx hb hr (fun t ht hW => ⟨rfl, ht⟩) (fun _ h => by cases h) dN_requireWithin_23
    · have c_2 := fun q => c_2 ((lg_cmp_le _ _).mpr q)
      contradiction

set_option maxHeartbeats 4000000 in
set_option maxRecDepth 100000 in
theorem cN_requireWithin_x (l : Launch) {s0 : State} {dC : Nat → ClassId} {dI : Nat → Nat → Nat} {cI cC cL : ClassId} (E : xb_Env l s0 dC dI (xtys cI cC cL)) (n : Int64) (lo : Int64) (hi : Int64) (hb9 : n < lo ∨ ¬ n ≤ hi) : xt_Met l yN_requireWithin [.code yN_requireWithin bN_requireWithin 6 none] ({ frames := 6, cells := 1, slots := 6, locals := 82 }) (va_Pc [.long n, .long lo, .long hi] (fun U => xb_At s0 U ∧ va_P (dC, dI) classes [] U.heap)) "java/lang/IllegalArgumentException" := by
  refine xt_Met.ofW (cc := bN_requireWithin) (maxL := 6) (ret := none) (by decide) rfl ?_
  intro p e s m args below meth c s₁ B hml hex hv
  obtain ⟨rfl, hAt, hP⟩ := hv
  have hx := B.exec
  have hb := B.bytes
  have hr := B.returns
  have hts := xb_hts E hAt ([.long n, .long lo, .long hi] : List Value).toArray
  have hown : s.vm.findClass "NailRules" = some m.cls := findClass_of_methodNamed B.named
  have hlocks := B.notSynchronized
  have hK := xb_K E hAt
  have hl := lv_entry ([.long n, .long lo, .long hi]) (n := 6) (Nat.le_of_ble_eq_true rfl)
  rw [lg_entry_eq]
  generalize (lg_sl ([.long n, .long lo, .long hi]) ++ List.replicate (6 - (lg_sl ([.long n, .long lo, .long hi])).length) Slot.unset).toArray = ls at hl ⊢
  have hl : lv_has ls 6 [(0, .long n), (2, .long lo), (4, .long hi)] := hl
  refine lv_lload_n hx hb dN_requireWithin_0 rfl (lv_at hl 0 rfl) ?_
  refine lv_lload_n hx hb dN_requireWithin_1 rfl (lv_at hl 1 rfl) ?_
  refine W.lcmp hx hb dN_requireWithin_2 ?_
  refine lv_if_lt (tgt := 13) hx hb dN_requireWithin_3 (by decide) (fun c_1 => ?_) (fun c_1 => ?_)
  · have c_1 := (lg_cmp_lt _ _).mp c_1
    obtain ⟨q9, hq9⟩ := xt_str E hAt xk_383 xs_165
    exact xt_throw (names := xt_names) hx hb (hml.trans hl.1.symm) E.1 hown hlocks hex (by decide) (by decide) (xt_atoms E hAt _ xt_a2) (hts _ xk_374) (hts _ xk_55) hq9 dN_requireWithin_13 dN_requireWithin_16 dN_requireWithin_17 dN_requireWithin_19 dN_requireWithin_22 (by decide) (by decide) (by decide) (by decide)
  · have c_1 := fun q => c_1 ((lg_cmp_lt _ _).mpr q)
    refine lv_lload_n hx hb dN_requireWithin_6 rfl (lv_at hl 0 rfl) ?_
    refine lv_lload hx hb dN_requireWithin_7 (lv_at hl 2 rfl) ?_
    refine W.lcmp hx hb dN_requireWithin_9 ?_
    refine lv_if_le (tgt := 23) hx hb dN_requireWithin_10 (by decide) (fun c_2 => ?_) (fun c_2 => ?_)
    · have c_2 := (lg_cmp_le _ _).mp c_2
      rcases hb9 with h | h <;> contradiction
    · have c_2 := fun q => c_2 ((lg_cmp_le _ _).mpr q)
      obtain ⟨q9, hq9⟩ := xt_str E hAt xk_383 xs_165
      exact xt_throw (names := xt_names) hx hb (hml.trans hl.1.symm) E.1 hown hlocks hex (by decide) (by decide) (xt_atoms E hAt _ xt_a2) (hts _ xk_374) (hts _ xk_55) hq9 dN_requireWithin_13 dN_requireWithin_16 dN_requireWithin_17 dN_requireWithin_19 dN_requireWithin_22 (by decide) (by decide) (by decide) (by decide)

def fN_rule (rf : Nat → Int32) (kind : Int32) (what : Int32) : Int32 := fN_told rf kind what
set_option maxHeartbeats 4000000 in
set_option maxRecDepth 100000 in
theorem cN_rule (l : Launch) {s0 : State} {dC : Nat → ClassId} {dI : Nat → Nat → Nat} {cI cC cL : ClassId} (E : xb_Env l s0 dC dI (xtys cI cC cL)) (h0 : Nat) (fs : List Value) (ra : Nat) (rf : Nat → Int32) (kind : Int32) (what : Int32) (hf1 : fs[1]? = some (.ref ra)) (k1 : ¬ kind < 0) (k2 : kind < 4) (w1 : ¬ what < 0) (w2 : what < 7) (hk : vp_in (kind * 7 + what) 28) : Met l yN_rule [.code yN_rule bN_rule 3 (some (.int))] ({ frames := 1, cells := 0, slots := 0, locals := 22 }) (va_Pc [.ref h0, .int kind, .int what] (fun U => xb_At s0 U ∧ va_P (dC, dI) classes [(h0, .inr (0, fs)), (ra, .inl (cI, 28, .inl rf))] U.heap)) (xb_R (some (.int (fN_rule rf kind what)))) 0 0 (fun _ => False) := by
  refine Met.ofW (cc := bN_rule) (maxL := 3) (ret := (some (.int))) (by decide) rfl ?_
  intro p e s m args below meth c s₁ B hml hv
  obtain ⟨rfl, hAt, hP⟩ := hv
  have hx := B.exec
  have hb := B.bytes
  have hr := B.returns
  have hts := xb_hts E hAt ([.ref h0, .int kind, .int what] : List Value).toArray
  have hown : s.vm.findClass "NailRules" = some m.cls := findClass_of_methodNamed B.named
  have hlocks := B.notSynchronized
  have hK := xb_K E hAt
  have hl := lv_entry ([.ref h0, .int kind, .int what]) (n := 3) (Nat.le_of_ble_eq_true rfl)
  rw [lg_entry_eq]
  generalize (lg_sl ([.ref h0, .int kind, .int what]) ++ List.replicate (3 - (lg_sl ([.ref h0, .int kind, .int what])).length) Slot.unset).toArray = ls at hl ⊢
  have hl : lv_has ls 3 [(0, .ref h0), (1, .int kind), (2, .int what)] := hl
  refine lv_iload_n hx hb dN_rule_0 rfl (lv_at hl 1 rfl) ?_
  refine lv_iconst (v := 4) hx hb dN_rule_1 (by decide) ?_
  refine xb_rd (W.runS (As := [.int kind, .int 4]) (rest := []) ⟨hx, hb, hml, hown, hts⟩ (cN_requireIndex l E kind 4 (by assumption) (by assumption)) (cwS 2 hts (xb_gi (List.forall_mem_cons.mpr ⟨xk_288, List.forall_mem_cons.mpr ⟨xk_289, List.forall_mem_cons.mpr ⟨xk_40, List.forall_mem_cons.mpr ⟨xk_290, fun _ h => absurd h List.not_mem_nil⟩⟩⟩⟩)) rfl rfl rfl (by decide +kernel) ⟨Nat.le_of_ble_eq_true rfl, Nat.le_of_ble_eq_true rfl⟩) ⟨fun _ _ _ _ q => q, fun U hU hW => ⟨rfl, xb_at0 hAt hU hW, fun k q h => by simp at h⟩⟩ rfl rfl hl.1 rfl (lv_room (Nat.le_of_ble_eq_true rfl)) dN_rule_2 ⟨Nat.zero_le _, Nat.zero_le _⟩) ?_
  refine lv_iload_n hx hb dN_rule_5 rfl (lv_at hl 2 rfl) ?_
  refine lv_bipush (v := 7) hx hb dN_rule_6 (by decide) ?_
  refine xb_rd (W.runS (As := [.int what, .int 7]) (rest := []) ⟨hx, hb, hml, hown, hts⟩ (cN_requireIndex l E what 7 (by assumption) (by assumption)) (cwS 2 hts (xb_gi (List.forall_mem_cons.mpr ⟨xk_288, List.forall_mem_cons.mpr ⟨xk_289, List.forall_mem_cons.mpr ⟨xk_40, List.forall_mem_cons.mpr ⟨xk_290, fun _ h => absurd h List.not_mem_nil⟩⟩⟩⟩)) rfl rfl rfl (by decide +kernel) ⟨Nat.le_of_ble_eq_true rfl, Nat.le_of_ble_eq_true rfl⟩) ⟨fun _ _ _ _ q => q, fun U hU hW => ⟨rfl, xb_at0 hAt hU hW, fun k q h => by simp at h⟩⟩ rfl rfl hl.1 rfl (lv_room (Nat.le_of_ble_eq_true rfl)) dN_rule_8 ⟨Nat.zero_le _, Nat.zero_le _⟩) ?_
  refine lv_aload_n hx hb dN_rule_11 rfl (lv_at hl 0 rfl) ?_
  refine lv_iload_n hx hb dN_rule_12 rfl (lv_at hl 1 rfl) ?_
  refine lv_iload_n hx hb dN_rule_13 rfl (lv_at hl 2 rfl) ?_
  refine xb_rd (W.runV (C := "NailRules") (As := [.int kind, .int what]) (rest := []) ⟨hx, hb, hml, hown, hts⟩ (cN_told l E h0 fs ra rf kind what hf1 (by assumption)) (cwV 2 hts (xb_gi (List.forall_mem_cons.mpr ⟨xk_358, List.forall_mem_cons.mpr ⟨xk_360, List.forall_mem_cons.mpr ⟨xk_14, List.forall_mem_cons.mpr ⟨xk_40, List.forall_mem_cons.mpr ⟨xk_361, fun _ h => absurd h List.not_mem_nil⟩⟩⟩⟩⟩)) rfl rfl rfl (by decide +kernel) ⟨Nat.le_of_ble_eq_true rfl, Nat.le_of_ble_eq_true rfl⟩) ⟨fun _ _ _ _ q => q, va_recv hK hP (ci := 0) (q0 := 0) rfl rfl, fun U hU hW => ⟨rfl, xb_at0 hAt hU hW, by rw [hU]; exact hP.sub (ws' := [(h0, .inr (0, fs)), (ra, .inl (cI, 28, .inl rf))]) [0, 1] rfl⟩⟩ rfl rfl hl.1 rfl (lv_room (Nat.le_of_ble_eq_true rfl)) dN_rule_14 ⟨Nat.zero_le _, Nat.zero_le _⟩) ?_
  have e_f : fN_rule rf kind what = fN_told rf kind what := rfl
  exact W.iret (v := (fN_told rf kind what)) hx hb hr (fun t ht hW => ⟨by rw [e_f], ht⟩) (fun _ h => by cases h) dN_rule_17

set_option maxHeartbeats 4000000 in
set_option maxRecDepth 100000 in
theorem cN_rule_x1 (l : Launch) {s0 : State} {dC : Nat → ClassId} {dI : Nat → Nat → Nat} {cI cC cL : ClassId} (E : xb_Env l s0 dC dI (xtys cI cC cL)) (h0 : Nat) (fs : List Value) (ra : Nat) (rf : Nat → Int32) (kind : Int32) (what : Int32) (hf1 : fs[1]? = some (.ref ra)) (hb9 : kind < 0 ∨ ¬ kind < 4) : xt_Met l yN_rule [.code yN_rule bN_rule 3 (some (.int))] ({ frames := 7, cells := 1, slots := 6, locals := 103 }) (va_Pc [.ref h0, .int kind, .int what] (fun U => xb_At s0 U ∧ va_P (dC, dI) classes [(h0, .inr (0, fs)), (ra, .inl (cI, 28, .inl rf))] U.heap)) "java/lang/IndexOutOfBoundsException" := by
  refine xt_Met.ofW (cc := bN_rule) (maxL := 3) (ret := (some (.int))) (by decide) rfl ?_
  intro p e s m args below meth c s₁ B hml hex hv
  obtain ⟨rfl, hAt, hP⟩ := hv
  have hx := B.exec
  have hb := B.bytes
  have hr := B.returns
  have hts := xb_hts E hAt ([.ref h0, .int kind, .int what] : List Value).toArray
  have hown : s.vm.findClass "NailRules" = some m.cls := findClass_of_methodNamed B.named
  have hlocks := B.notSynchronized
  have hK := xb_K E hAt
  have hl := lv_entry ([.ref h0, .int kind, .int what]) (n := 3) (Nat.le_of_ble_eq_true rfl)
  rw [lg_entry_eq]
  generalize (lg_sl ([.ref h0, .int kind, .int what]) ++ List.replicate (3 - (lg_sl ([.ref h0, .int kind, .int what])).length) Slot.unset).toArray = ls at hl ⊢
  have hl : lv_has ls 3 [(0, .ref h0), (1, .int kind), (2, .int what)] := hl
  refine lv_iload_n hx hb dN_rule_0 rfl (lv_at hl 1 rfl) ?_
  refine lv_iconst (v := 4) hx hb dN_rule_1 (by decide) ?_
  exact xt_pass hlocks hex (xt_runS (As := [.int kind, .int 4]) (rest := []) ⟨hx, hb, hml, hown, hts⟩ (cN_requireIndex_x l E kind 4 (by assumption)) (cwS 2 hts (xb_gi (List.forall_mem_cons.mpr ⟨xk_288, List.forall_mem_cons.mpr ⟨xk_289, List.forall_mem_cons.mpr ⟨xk_40, List.forall_mem_cons.mpr ⟨xk_290, fun _ h => absurd h List.not_mem_nil⟩⟩⟩⟩)) rfl rfl rfl (by decide +kernel) ⟨Nat.le_of_ble_eq_true rfl, Nat.le_of_ble_eq_true rfl⟩) ⟨fun _ _ _ _ q => q, fun U hU hW => ⟨rfl, xb_at0 hAt hU hW, fun k q h => by simp at h⟩⟩ rfl rfl hl.1 rfl (lv_room (Nat.le_of_ble_eq_true rfl)) dN_rule_2 ⟨Nat.le_of_ble_eq_true rfl, Nat.le_of_ble_eq_true rfl⟩)

set_option maxHeartbeats 4000000 in
set_option maxRecDepth 100000 in
theorem cN_rule_x2 (l : Launch) {s0 : State} {dC : Nat → ClassId} {dI : Nat → Nat → Nat} {cI cC cL : ClassId} (E : xb_Env l s0 dC dI (xtys cI cC cL)) (h0 : Nat) (fs : List Value) (ra : Nat) (rf : Nat → Int32) (kind : Int32) (what : Int32) (hf1 : fs[1]? = some (.ref ra)) (k1 : ¬ kind < 0) (k2 : kind < 4) (hb9 : what < 0 ∨ ¬ what < 7) : xt_Met l yN_rule [.code yN_rule bN_rule 3 (some (.int))] ({ frames := 7, cells := 1, slots := 6, locals := 103 }) (va_Pc [.ref h0, .int kind, .int what] (fun U => xb_At s0 U ∧ va_P (dC, dI) classes [(h0, .inr (0, fs)), (ra, .inl (cI, 28, .inl rf))] U.heap)) "java/lang/IndexOutOfBoundsException" := by
  refine xt_Met.ofW (cc := bN_rule) (maxL := 3) (ret := (some (.int))) (by decide) rfl ?_
  intro p e s m args below meth c s₁ B hml hex hv
  obtain ⟨rfl, hAt, hP⟩ := hv
  have hx := B.exec
  have hb := B.bytes
  have hr := B.returns
  have hts := xb_hts E hAt ([.ref h0, .int kind, .int what] : List Value).toArray
  have hown : s.vm.findClass "NailRules" = some m.cls := findClass_of_methodNamed B.named
  have hlocks := B.notSynchronized
  have hK := xb_K E hAt
  have hl := lv_entry ([.ref h0, .int kind, .int what]) (n := 3) (Nat.le_of_ble_eq_true rfl)
  rw [lg_entry_eq]
  generalize (lg_sl ([.ref h0, .int kind, .int what]) ++ List.replicate (3 - (lg_sl ([.ref h0, .int kind, .int what])).length) Slot.unset).toArray = ls at hl ⊢
  have hl : lv_has ls 3 [(0, .ref h0), (1, .int kind), (2, .int what)] := hl
  refine lv_iload_n hx hb dN_rule_0 rfl (lv_at hl 1 rfl) ?_
  refine lv_iconst (v := 4) hx hb dN_rule_1 (by decide) ?_
  refine xb_rd (W.runS (As := [.int kind, .int 4]) (rest := []) ⟨hx, hb, hml, hown, hts⟩ (cN_requireIndex l E kind 4 (by assumption) (by assumption)) (cwS 2 hts (xb_gi (List.forall_mem_cons.mpr ⟨xk_288, List.forall_mem_cons.mpr ⟨xk_289, List.forall_mem_cons.mpr ⟨xk_40, List.forall_mem_cons.mpr ⟨xk_290, fun _ h => absurd h List.not_mem_nil⟩⟩⟩⟩)) rfl rfl rfl (by decide +kernel) ⟨Nat.le_of_ble_eq_true rfl, Nat.le_of_ble_eq_true rfl⟩) ⟨fun _ _ _ _ q => q, fun U hU hW => ⟨rfl, xb_at0 hAt hU hW, fun k q h => by simp at h⟩⟩ rfl rfl hl.1 rfl (lv_room (Nat.le_of_ble_eq_true rfl)) dN_rule_2 ⟨Nat.zero_le _, Nat.zero_le _⟩) ?_
  refine lv_iload_n hx hb dN_rule_5 rfl (lv_at hl 2 rfl) ?_
  refine lv_bipush (v := 7) hx hb dN_rule_6 (by decide) ?_
  exact xt_pass hlocks hex (xt_runS (As := [.int what, .int 7]) (rest := []) ⟨hx, hb, hml, hown, hts⟩ (cN_requireIndex_x l E what 7 (by assumption)) (cwS 2 hts (xb_gi (List.forall_mem_cons.mpr ⟨xk_288, List.forall_mem_cons.mpr ⟨xk_289, List.forall_mem_cons.mpr ⟨xk_40, List.forall_mem_cons.mpr ⟨xk_290, fun _ h => absurd h List.not_mem_nil⟩⟩⟩⟩)) rfl rfl rfl (by decide +kernel) ⟨Nat.le_of_ble_eq_true rfl, Nat.le_of_ble_eq_true rfl⟩) ⟨fun _ _ _ _ q => q, fun U hU hW => ⟨rfl, xb_at0 hAt hU hW, fun k q h => by simp at h⟩⟩ rfl rfl hl.1 rfl (lv_room (Nat.le_of_ble_eq_true rfl)) dN_rule_8 ⟨Nat.le_of_ble_eq_true rfl, Nat.le_of_ble_eq_true rfl⟩)
end
section
theorem xp_lt {q b : Int32} {n : Nat} (hb : b.toInt = n) (h0 : 0 ≤ q) (h1 : q < b) : vp_in q n := by
  rw [vp_in_iff]
  simp only [Int32.le_iff_toInt_le, Int32.lt_iff_toInt_lt] at h0 h1
  have e0 : (0 : Int32).toInt = 0 := by decide
  omega
theorem xp_ne {q b : Int32} {n : Nat} (hb : b.toInt = n) (h0 : 0 ≤ q) (h1 : q ≤ b) (h2 : ¬ q = b) : vp_in q n := by
  rw [vp_in_iff]
  simp only [Int32.le_iff_toInt_le] at h0 h1
  have e0 : (0 : Int32).toInt = 0 := by decide
  have e2 : ¬ q.toInt = b.toInt := fun q9 => h2 (Int32.toInt_inj.mp q9)
  omega
theorem xp_four {k : Int32} (h : fR_isFour k = true) : ∃ j : Nat, j < 4 ∧ k = nI j := by
  rcases pk_ix k (n := 4) (by decide) with q | q | q
  · rw [fR_isFour, if_pos q] at h; cases h
  · by_cases c0 : k < 0
    · rw [fR_isFour, if_pos c0] at h; cases h
    · rw [fR_isFour, if_neg c0, if_pos (show (4 : Int32) ≤ k from q)] at h; cases h
  · exact q
theorem xp_isIn {v lo hi : Int64} : fR_isIn v lo hi = true ↔ lo ≤ v ∧ v ≤ hi := by
  unfold fR_isIn
  simp only [Int64.lt_iff_toInt_lt, Int64.le_iff_toInt_le]
  constructor
  · intro h
    split at h
    · cases h
    · split at h
      · cases h
      · omega
  · intro h
    rw [if_neg (by omega), if_neg (by omega)]
theorem xp_seven {w : Int32} (h : fR_isIn w.toInt64 0 6 = true) : ∃ j : Nat, j < 7 ∧ w = nI j := by
  rw [xp_isIn] at h
  simp only [Int64.le_iff_toInt_le, Int32.toInt_toInt64] at h
  have e0 : (0 : Int64).toInt = 0 := by decide
  have e6 : (6 : Int64).toInt = 6 := by decide
  rcases pk_ix w (n := 7) (by decide) with q | q | q
  · rw [Int32.lt_iff_toInt_lt] at q
    have z0 : (0 : Int32).toInt = 0 := by decide
    omega
  · rw [Int32.le_iff_toInt_le, nI_toInt (by decide)] at q
    omega
  · exact q
theorem xp_k7 : ∀ j, j < 4 → ∀ i, i < 7 → vp_in (7 * nI j + nI i) 28 := by unfold vp_in; decide +kernel
theorem xp_k70 : ∀ j, j < 4 → vp_in (7 * nI j) 28 := by unfold vp_in; decide +kernel
theorem xp_rule {k w : Int32} (h1 : fR_isFour k = true) (h2 : fR_isIn w.toInt64 0 6 = true) : vp_in (7 * k + w) 28 := by
  obtain ⟨j, hj, rfl⟩ := xp_four h1
  obtain ⟨i, hi, rfl⟩ := xp_seven h2
  exact xp_k7 j hj i hi
theorem xp_rul0 {k : Int32} (h1 : fR_isFour k = true) : vp_in (7 * k) 28 := by
  obtain ⟨j, hj, rfl⟩ := xp_four h1
  exact xp_k70 j hj
theorem xp_rulN {k : Int32} (i : Nat) (hi : i < 7) (h1 : fR_isFour k = true) : vp_in (7 * k + nI i) 28 := by
  obtain ⟨j, hj, rfl⟩ := xp_four h1
  exact xp_k7 j hj i hi
theorem xp_mem {k mb : Int32} (h : ¬ fR_noMember mb k = true) (hm : mb ≤ 6) : ∃ j : Nat, j < 6 ∧ k = nI j := by
  rcases pk_ix k (n := 6) (by decide) with q | q | q
  · exact absurd (by rw [fR_noMember, if_pos q]) h
  · exfalso
    have q2 : mb ≤ k := by
      rw [Int32.le_iff_toInt_le, nI_toInt (by decide)] at q
      rw [Int32.le_iff_toInt_le] at hm ⊢
      have e6 : (6 : Int32).toInt = 6 := by decide
      omega
    apply h
    unfold fR_noMember
    split
    · rfl
    · split
      · rename_i q3
        rw [Int32.le_iff_toInt_le] at q2
        rw [Int32.lt_iff_toInt_lt] at q3
        omega
      · rfl
  · exact q
theorem xp_m4 : ∀ j, j < 6 → vp_in (4 * nI j) 24 ∧ vp_in (4 * nI j + 1) 24 ∧ vp_in (4 * nI j + 2) 24 ∧ vp_in (4 * nI j + 3) 24 ∧ vp_in (nI j) 6 := by unfold vp_in; decide +kernel
theorem xp_mems {k mb : Int32} (h : ¬ fR_noMember mb k = true) (hm : mb ≤ 6) : vp_in (4 * k) 24 ∧ vp_in (4 * k + 1) 24 ∧ vp_in (4 * k + 2) 24 ∧ vp_in (4 * k + 3) 24 ∧ vp_in k 6 := by
  obtain ⟨j, hj, rfl⟩ := xp_mem h hm
  exact xp_m4 j hj
theorem xp_app {len : Int32} (h0 : 0 ≤ len) (h1 : ¬ 200 ≤ len) : vp_in len 200 := by
  rw [vp_in_iff]
  simp only [Int32.le_iff_toInt_le] at h0 h1
  have e0 : (0 : Int32).toInt = 0 := by decide
  have e2 : (200 : Int32).toInt = 200 := by decide
  omega
def gT_empty_1  : Int32 := (0)
set_option maxHeartbeats 4000000 in
set_option maxRecDepth 100000 in
theorem cT_empty (l : Launch) {s0 : State} {dC : Nat → ClassId} {dI : Nat → Nat → Nat} {cI cC cL : ClassId} (E : xb_Env l s0 dC dI (xtys cI cC cL)) (sz : Nat) (h0 : Nat) (ua : Nat) (len : Int32) (nx : Int32) : Met l yT_empty [.code yT_empty bT_empty 1 none] ({ frames := 0, cells := 0, slots := 0, locals := 0 }) (va_Pc [.ref h0] (fun U => xb_At s0 U ∧ U.heap.size = sz ∧ va_P (dC, dI) classes [(h0, .inr (1, [.ref ua, .int len, .int nx]))] U.heap ∧ va_D (fun q => s0.heap.size ≤ q) [(h0, .inr (1, [.ref ua, .int len, .int nx]))])) (xb_W (dC, dI) (fun v w => v = none ∧ w = [(h0, .inr (1, [.ref ua, .int (gT_empty_1 ), .int nx]))]) (va_A [(h0, .inr (1, [.ref ua, .int len, .int nx]))] sz)) 0 0 (va_A [(h0, .inr (1, [.ref ua, .int len, .int nx]))] sz) := by
  refine Met.ofW (cc := bT_empty) (maxL := 1) (ret := none) (by decide) rfl ?_
  intro p e s m args below meth c s₁ B hml hv
  obtain ⟨rfl, hAt, hsz, hP, hD0⟩ := hv
  have hx := B.exec
  have hb := B.bytes
  have hr := B.returns
  have hts := xb_hts E hAt ([.ref h0] : List Value).toArray
  have hown : s.vm.findClass "NailRules$Text" = some m.cls := findClass_of_methodNamed B.named
  have hlocks := B.notSynchronized
  have hK := xb_K E hAt
  subst hsz
  have hA0 := xb_A0 hAt hD0
  have hD := hD0.self (sz := s.heap.size)
  generalize hAe : va_A [(h0, .inr (1, [.ref ua, .int len, .int nx]))] s.heap.size = A at hD hA0 ⊢
  have hA : ∀ q : Nat, s.heap.size ≤ q → A q := fun q h => by rw [← hAe]; exact Or.inr h
  have hS : va_S A s.heap s.heap [] := va_S.rf
  have hl := lv_entry ([.ref h0]) (n := 1) (Nat.le_of_ble_eq_true rfl)
  rw [lg_entry_eq]
  generalize (lg_sl ([.ref h0]) ++ List.replicate (1 - (lg_sl ([.ref h0])).length) Slot.unset).toArray = ls at hl ⊢
  have hl : lv_has ls 1 [(0, .ref h0)] := hl
  refine lv_aload_n hx hb dT_empty_0 rfl (lv_at hl 0 rfl) ?_
  refine lv_iconst (v := 0) hx hb dT_empty_1 (by decide) ?_
  refine va_put (D := (dC, dI)) (ci := 1) (v := .int 0) (ty := .int) (C := xR_T) (T := xF_T) (N := 3) hx hb hts xi_T xt_T xt_T_ok xn_T hown hK hP hD hS 0 rfl rfl 1 (by decide) (hts _ xk_77) (fun _ h9 => h9) rfl (by decide +kernel) rfl rfl (Nat.le_of_ble_eq_true rfl) dT_empty_2 (fun H locs hP hD hS => ?_)
  have hP : va_P (dC, dI) classes [(h0, .inr (1, [.ref ua, .int 0, .int nx]))] H := hP
  have hD : va_D A [(h0, .inr (1, [.ref ua, .int 0, .int nx]))] := hD
  have e_0 : gT_empty_1  = (0 : Int32) := rfl
  have hP9 := hP.sub (ws' := [(h0, .inr (1, [.ref ua, .int 0, .int nx]))]) [0] rfl
  have hD9 := hD.sub (ws' := [(h0, .inr (1, [.ref ua, .int 0, .int nx]))]) [0] (by decide) rfl
  exact W.vret hx hb hr (fun t ht hW => ⟨_, _, rfl, ⟨by first | rfl | (simp only [e_0]; try rfl), by first | rfl | (simp only [e_0]; try rfl)⟩, by rw [ht]; exact hP9, hD9, hS.F ht⟩) hS.2.2 dT_empty_5

def gT_rewind_2  : Int32 := (0)
set_option maxHeartbeats 4000000 in
set_option maxRecDepth 100000 in
theorem cT_rewind (l : Launch) {s0 : State} {dC : Nat → ClassId} {dI : Nat → Nat → Nat} {cI cC cL : ClassId} (E : xb_Env l s0 dC dI (xtys cI cC cL)) (sz : Nat) (h0 : Nat) (ua : Nat) (len : Int32) (nx : Int32) : Met l yT_rewind [.code yT_rewind bT_rewind 1 none] ({ frames := 0, cells := 0, slots := 0, locals := 0 }) (va_Pc [.ref h0] (fun U => xb_At s0 U ∧ U.heap.size = sz ∧ va_P (dC, dI) classes [(h0, .inr (1, [.ref ua, .int len, .int nx]))] U.heap ∧ va_D (fun q => s0.heap.size ≤ q) [(h0, .inr (1, [.ref ua, .int len, .int nx]))])) (xb_W (dC, dI) (fun v w => v = none ∧ w = [(h0, .inr (1, [.ref ua, .int len, .int (gT_rewind_2 )]))]) (va_A [(h0, .inr (1, [.ref ua, .int len, .int nx]))] sz)) 0 0 (va_A [(h0, .inr (1, [.ref ua, .int len, .int nx]))] sz) := by
  refine Met.ofW (cc := bT_rewind) (maxL := 1) (ret := none) (by decide) rfl ?_
  intro p e s m args below meth c s₁ B hml hv
  obtain ⟨rfl, hAt, hsz, hP, hD0⟩ := hv
  have hx := B.exec
  have hb := B.bytes
  have hr := B.returns
  have hts := xb_hts E hAt ([.ref h0] : List Value).toArray
  have hown : s.vm.findClass "NailRules$Text" = some m.cls := findClass_of_methodNamed B.named
  have hlocks := B.notSynchronized
  have hK := xb_K E hAt
  subst hsz
  have hA0 := xb_A0 hAt hD0
  have hD := hD0.self (sz := s.heap.size)
  generalize hAe : va_A [(h0, .inr (1, [.ref ua, .int len, .int nx]))] s.heap.size = A at hD hA0 ⊢
  have hA : ∀ q : Nat, s.heap.size ≤ q → A q := fun q h => by rw [← hAe]; exact Or.inr h
  have hS : va_S A s.heap s.heap [] := va_S.rf
  have hl := lv_entry ([.ref h0]) (n := 1) (Nat.le_of_ble_eq_true rfl)
  rw [lg_entry_eq]
  generalize (lg_sl ([.ref h0]) ++ List.replicate (1 - (lg_sl ([.ref h0])).length) Slot.unset).toArray = ls at hl ⊢
  have hl : lv_has ls 1 [(0, .ref h0)] := hl
  refine lv_aload_n hx hb dT_rewind_0 rfl (lv_at hl 0 rfl) ?_
  refine lv_iconst (v := 0) hx hb dT_rewind_1 (by decide) ?_
  refine va_put (D := (dC, dI)) (ci := 1) (v := .int 0) (ty := .int) (C := xR_T) (T := xF_T) (N := 3) hx hb hts xi_T xt_T xt_T_ok xn_T hown hK hP hD hS 0 rfl rfl 2 (by decide) (hts _ xk_78) (fun _ h9 => h9) rfl (by decide +kernel) rfl rfl (Nat.le_of_ble_eq_true rfl) dT_rewind_2 (fun H locs hP hD hS => ?_)
  have hP : va_P (dC, dI) classes [(h0, .inr (1, [.ref ua, .int len, .int 0]))] H := hP
  have hD : va_D A [(h0, .inr (1, [.ref ua, .int len, .int 0]))] := hD
  have e_0 : gT_rewind_2  = (0 : Int32) := rfl
  have hP9 := hP.sub (ws' := [(h0, .inr (1, [.ref ua, .int len, .int 0]))]) [0] rfl
  have hD9 := hD.sub (ws' := [(h0, .inr (1, [.ref ua, .int len, .int 0]))]) [0] (by decide) rfl
  exact W.vret hx hb hr (fun t ht hW => ⟨_, _, rfl, ⟨by first | rfl | (simp only [e_0]; try rfl), by first | rfl | (simp only [e_0]; try rfl)⟩, by rw [ht]; exact hP9, hD9, hS.F ht⟩) hS.2.2 dT_rewind_5

def gT_append (uf : Nat → Int32) (len : Int32) (nx : Int32) (u : Int32) : Bool := if 200 ≤ len then (false) else (if u < 32 then (false) else (if u ≤ 126 then (true) else (false)))
def gT_append_1 (uf : Nat → Int32) (len : Int32) (nx : Int32) (u : Int32) : Int32 := if 200 ≤ len then (len) else (if u < 32 then (len) else (if u ≤ 126 then (len + 1) else (len)))
def gT_append_f (uf : Nat → Int32) (len : Int32) (nx : Int32) (u : Int32) : Nat → Int32 := if 200 ≤ len then (uf) else (if u < 32 then (uf) else (if u ≤ 126 then (upd uf len.toNatClampNeg (vp_nar .char ((u.toUInt32 % 65536).toInt32))) else (uf)))
set_option maxHeartbeats 4000000 in
set_option maxRecDepth 100000 in
theorem cT_append (l : Launch) {s0 : State} {dC : Nat → ClassId} {dI : Nat → Nat → Nat} {cI cC cL : ClassId} (E : xb_Env l s0 dC dI (xtys cI cC cL)) (sz : Nat) (h0 : Nat) (ua : Nat) (len : Int32) (nx : Int32) (uf : Nat → Int32) (u : Int32) (hlen : 0 ≤ len) : Met l yT_append [.code yT_append bT_append 2 (some (.boolean))] ({ frames := 0, cells := 0, slots := 0, locals := 0 }) (va_Pc [.ref h0, .int u] (fun U => xb_At s0 U ∧ U.heap.size = sz ∧ va_P (dC, dI) classes [(h0, .inr (1, [.ref ua, .int len, .int nx])), (ua, .inl (cC, 200, .inl uf))] U.heap ∧ va_D (fun q => s0.heap.size ≤ q) [(h0, .inr (1, [.ref ua, .int len, .int nx])), (ua, .inl (cC, 200, .inl uf))])) (xb_W (dC, dI) (fun v w => v = some (.int (xb_bi (gT_append uf len nx u))) ∧ w = [(h0, .inr (1, [.ref ua, .int (gT_append_1 uf len nx u), .int nx])), (ua, .inl (cC, 200, .inl (gT_append_f uf len nx u)))]) (va_A [(h0, .inr (1, [.ref ua, .int len, .int nx])), (ua, .inl (cC, 200, .inl uf))] sz)) 0 0 (va_A [(h0, .inr (1, [.ref ua, .int len, .int nx])), (ua, .inl (cC, 200, .inl uf))] sz) := by
  refine Met.ofW (cc := bT_append) (maxL := 2) (ret := (some (.boolean))) (by decide) rfl ?_
  intro p e s m args below meth c s₁ B hml hv
  obtain ⟨rfl, hAt, hsz, hP, hD0⟩ := hv
  have hx := B.exec
  have hb := B.bytes
  have hr := B.returns
  have hts := xb_hts E hAt ([.ref h0, .int u] : List Value).toArray
  have hown : s.vm.findClass "NailRules$Text" = some m.cls := findClass_of_methodNamed B.named
  have hlocks := B.notSynchronized
  have hK := xb_K E hAt
  subst hsz
  have hA0 := xb_A0 hAt hD0
  have hD := hD0.self (sz := s.heap.size)
  generalize hAe : va_A [(h0, .inr (1, [.ref ua, .int len, .int nx])), (ua, .inl (cC, 200, .inl uf))] s.heap.size = A at hD hA0 ⊢
  have hA : ∀ q : Nat, s.heap.size ≤ q → A q := fun q h => by rw [← hAe]; exact Or.inr h
  have hS : va_S A s.heap s.heap [] := va_S.rf
  have hl := lv_entry ([.ref h0, .int u]) (n := 2) (Nat.le_of_ble_eq_true rfl)
  rw [lg_entry_eq]
  generalize (lg_sl ([.ref h0, .int u]) ++ List.replicate (2 - (lg_sl ([.ref h0, .int u])).length) Slot.unset).toArray = ls at hl ⊢
  have hl : lv_has ls 2 [(0, .ref h0), (1, .int u)] := hl
  refine lv_aload_n hx hb dT_append_0 rfl (lv_at hl 0 rfl) ?_
  refine va_get (D := (dC, dI)) (ci := 1) (v := .int len) (C := xR_T) (T := xF_T) (N := 3) hx hb hts xi_T hown hK hP 0 rfl rfl 1 (by decide) (hts _ xk_77) (fun _ h9 => h9) rfl dT_append_1 ?_
  refine lv_sipush (v := 200) hx hb dT_append_4 (by decide) ?_
  refine lv_icmp_ge (tgt := 22) hx hb dT_append_7 (by decide) (fun c_1 => ?_) (fun c_1 => ?_)
  · refine lv_iconst (v := 0) hx hb dT_append_22 (by decide) ?_
    have e_0 : gT_append uf len nx u = false := (if_pos c_1).trans (rfl)
    have e_1 : gT_append_1 uf len nx u = len := (if_pos c_1).trans (rfl)
    have e_2 : gT_append_f uf len nx u = uf := (if_pos c_1).trans (rfl)
    have hP9 := hP.sub (ws' := [(h0, .inr (1, [.ref ua, .int len, .int nx])), (ua, .inl (cC, 200, .inl uf))]) [0, 1] rfl
    have hD9 := hD.sub (ws' := [(h0, .inr (1, [.ref ua, .int len, .int nx])), (ua, .inl (cC, 200, .inl uf))]) [0, 1] (by decide) rfl
    exact W.zret (v := 0) hx hb hr (by decide) (fun t ht hW => ⟨_, _, rfl, ⟨by first | rfl | (simp only [e_0, e_1, e_2]; try rfl), by first | rfl | (simp only [e_0, e_1, e_2]; try rfl)⟩, by rw [ht]; exact hP9, hD9, hS.F ht⟩) hS.2.2 dT_append_23
  · refine lv_iload_n hx hb dT_append_10 rfl (lv_at hl 1 rfl) ?_
    refine lv_bipush (v := 32) hx hb dT_append_11 (by decide) ?_
    refine lv_icmp_lt (tgt := 22) hx hb dT_append_13 (by decide) (fun c_2 => ?_) (fun c_2 => ?_)
    · refine lv_iconst (v := 0) hx hb dT_append_22 (by decide) ?_
      have e_0 : gT_append uf len nx u = false := (if_neg c_1).trans ((if_pos c_2).trans (rfl))
      have e_1 : gT_append_1 uf len nx u = len := (if_neg c_1).trans ((if_pos c_2).trans (rfl))
      have e_2 : gT_append_f uf len nx u = uf := (if_neg c_1).trans ((if_pos c_2).trans (rfl))
      have hP9 := hP.sub (ws' := [(h0, .inr (1, [.ref ua, .int len, .int nx])), (ua, .inl (cC, 200, .inl uf))]) [0, 1] rfl
      have hD9 := hD.sub (ws' := [(h0, .inr (1, [.ref ua, .int len, .int nx])), (ua, .inl (cC, 200, .inl uf))]) [0, 1] (by decide) rfl
      exact W.zret (v := 0) hx hb hr (by decide) (fun t ht hW => ⟨_, _, rfl, ⟨by first | rfl | (simp only [e_0, e_1, e_2]; try rfl), by first | rfl | (simp only [e_0, e_1, e_2]; try rfl)⟩, by rw [ht]; exact hP9, hD9, hS.F ht⟩) hS.2.2 dT_append_23
    · refine lv_iload_n hx hb dT_append_16 rfl (lv_at hl 1 rfl) ?_
      refine lv_bipush (v := 126) hx hb dT_append_17 (by decide) ?_
      refine lv_icmp_le (tgt := 24) hx hb dT_append_19 (by decide) (fun c_3 => ?_) (fun c_3 => ?_)
      · refine lv_aload_n hx hb dT_append_24 rfl (lv_at hl 0 rfl) ?_
        refine va_get (D := (dC, dI)) (ci := 1) (v := .ref ua) (C := xR_T) (T := xF_T) (N := 3) hx hb hts xi_T hown hK hP 0 rfl rfl 0 (by decide) (hts _ xk_76) (fun _ h9 => h9) rfl dT_append_25 ?_
        refine lv_aload_n hx hb dT_append_28 rfl (lv_at hl 0 rfl) ?_
        refine va_get (D := (dC, dI)) (ci := 1) (v := .int len) (C := xR_T) (T := xF_T) (N := 3) hx hb hts xi_T hown hK hP 0 rfl rfl 1 (by decide) (hts _ xk_77) (fun _ h9 => h9) rfl dT_append_29 ?_
        refine lv_iload_n hx hb dT_append_32 rfl (lv_at hl 1 rfl) ?_
        refine lv_i2c hx hb dT_append_33 rfl ?_
        have o_4 : vp_in len 200 := by exact xp_app hlen (by assumption)
        refine va_cast hx hb hK hP hD hS 1 1 rfl rfl o_4 dT_append_34 (fun H locs hP hD hS => ?_)
        have hP : va_P (dC, dI) classes [(h0, .inr (1, [.ref ua, .int len, .int nx])), (ua, .inl (cC, 200, .inl (upd uf len.toNatClampNeg (vp_nar .char ((u.toUInt32 % 65536).toInt32)))))] H := hP
        have hD : va_D A [(h0, .inr (1, [.ref ua, .int len, .int nx])), (ua, .inl (cC, 200, .inl (upd uf len.toNatClampNeg (vp_nar .char ((u.toUInt32 % 65536).toInt32)))))] := hD
        refine lv_aload_n hx hb dT_append_35 rfl (lv_at hl 0 rfl) ?_
        refine lv_dup hx hb dT_append_36 rfl ?_
        refine va_get (D := (dC, dI)) (ci := 1) (v := .int len) (C := xR_T) (T := xF_T) (N := 3) hx hb hts xi_T hown hK hP 0 rfl rfl 1 (by decide) (hts _ xk_77) (fun _ h9 => h9) rfl dT_append_37 ?_
        refine lv_iconst (v := 1) hx hb dT_append_40 (by decide) ?_
        refine lv_iadd hx hb dT_append_41 ?_
        refine va_put (D := (dC, dI)) (ci := 1) (v := .int (len + 1)) (ty := .int) (C := xR_T) (T := xF_T) (N := 3) hx hb hts xi_T xt_T xt_T_ok xn_T hown hK hP hD hS 0 rfl rfl 1 (by decide) (hts _ xk_77) (fun _ h9 => h9) rfl (by decide +kernel) rfl rfl (Nat.le_of_ble_eq_true rfl) dT_append_42 (fun H locs hP hD hS => ?_)
        have hP : va_P (dC, dI) classes [(h0, .inr (1, [.ref ua, .int (len + 1), .int nx])), (ua, .inl (cC, 200, .inl (upd uf len.toNatClampNeg (vp_nar .char ((u.toUInt32 % 65536).toInt32)))))] H := hP
        have hD : va_D A [(h0, .inr (1, [.ref ua, .int (len + 1), .int nx])), (ua, .inl (cC, 200, .inl (upd uf len.toNatClampNeg (vp_nar .char ((u.toUInt32 % 65536).toInt32)))))] := hD
        refine lv_iconst (v := 1) hx hb dT_append_45 (by decide) ?_
        have e_0 : gT_append uf len nx u = true := (if_neg c_1).trans ((if_neg c_2).trans ((if_pos c_3).trans (rfl)))
        have e_1 : gT_append_1 uf len nx u = (len + 1) := (if_neg c_1).trans ((if_neg c_2).trans ((if_pos c_3).trans (rfl)))
        have e_2 : gT_append_f uf len nx u = (upd uf len.toNatClampNeg (vp_nar .char ((u.toUInt32 % 65536).toInt32))) := (if_neg c_1).trans ((if_neg c_2).trans ((if_pos c_3).trans (rfl)))
        have hP9 := hP.sub (ws' := [(h0, .inr (1, [.ref ua, .int (len + 1), .int nx])), (ua, .inl (cC, 200, .inl (upd uf len.toNatClampNeg (vp_nar .char ((u.toUInt32 % 65536).toInt32)))))]) [0, 1] rfl
        have hD9 := hD.sub (ws' := [(h0, .inr (1, [.ref ua, .int (len + 1), .int nx])), (ua, .inl (cC, 200, .inl (upd uf len.toNatClampNeg (vp_nar .char ((u.toUInt32 % 65536).toInt32)))))]) [0, 1] (by decide) rfl
        exact W.zret (v := 1) hx hb hr (by decide) (fun t ht hW => ⟨_, _, rfl, ⟨by first | rfl | (simp only [e_0, e_1, e_2]; try rfl), by first | rfl | (simp only [e_0, e_1, e_2]; try rfl)⟩, by rw [ht]; exact hP9, hD9, hS.F ht⟩) hS.2.2 dT_append_46
      · refine lv_iconst (v := 0) hx hb dT_append_22 (by decide) ?_
        have e_0 : gT_append uf len nx u = false := (if_neg c_1).trans ((if_neg c_2).trans ((if_neg c_3).trans (rfl)))
        have e_1 : gT_append_1 uf len nx u = len := (if_neg c_1).trans ((if_neg c_2).trans ((if_neg c_3).trans (rfl)))
        have e_2 : gT_append_f uf len nx u = uf := (if_neg c_1).trans ((if_neg c_2).trans ((if_neg c_3).trans (rfl)))
        have hP9 := hP.sub (ws' := [(h0, .inr (1, [.ref ua, .int len, .int nx])), (ua, .inl (cC, 200, .inl uf))]) [0, 1] rfl
        have hD9 := hD.sub (ws' := [(h0, .inr (1, [.ref ua, .int len, .int nx])), (ua, .inl (cC, 200, .inl uf))]) [0, 1] (by decide) rfl
        exact W.zret (v := 0) hx hb hr (by decide) (fun t ht hW => ⟨_, _, rfl, ⟨by first | rfl | (simp only [e_0, e_1, e_2]; try rfl), by first | rfl | (simp only [e_0, e_1, e_2]; try rfl)⟩, by rw [ht]; exact hP9, hD9, hS.F ht⟩) hS.2.2 dT_append_23

def gT_take (uf : Nat → Int32) (len : Int32) (nx : Int32) (wanted : Int32) : Bool := if (fT_look uf len nx) = wanted then (true) else (false)
def gT_take_2 (uf : Nat → Int32) (len : Int32) (nx : Int32) (wanted : Int32) : Int32 := if (fT_look uf len nx) = wanted then (nx + 1) else (nx)
set_option maxHeartbeats 4000000 in
set_option maxRecDepth 100000 in
theorem cT_take (l : Launch) {s0 : State} {dC : Nat → ClassId} {dI : Nat → Nat → Nat} {cI cC cL : ClassId} (E : xb_Env l s0 dC dI (xtys cI cC cL)) (sz : Nat) (h0 : Nat) (ua : Nat) (len : Int32) (nx : Int32) (uf : Nat → Int32) (wanted : Int32) (hlen : len ≤ 200) : Met l yT_take [.code yT_take bT_take 2 (some (.boolean))] ({ frames := 1, cells := 0, slots := 0, locals := 21 }) (va_Pc [.ref h0, .int wanted] (fun U => xb_At s0 U ∧ U.heap.size = sz ∧ va_P (dC, dI) classes [(h0, .inr (1, [.ref ua, .int len, .int nx])), (ua, .inl (cC, 200, .inl uf))] U.heap ∧ va_D (fun q => s0.heap.size ≤ q) [(h0, .inr (1, [.ref ua, .int len, .int nx])), (ua, .inl (cC, 200, .inl uf))])) (xb_W (dC, dI) (fun v w => v = some (.int (xb_bi (gT_take uf len nx wanted))) ∧ w = [(h0, .inr (1, [.ref ua, .int len, .int (gT_take_2 uf len nx wanted)])), (ua, .inl (cC, 200, .inl uf))]) (va_A [(h0, .inr (1, [.ref ua, .int len, .int nx])), (ua, .inl (cC, 200, .inl uf))] sz)) 0 0 (va_A [(h0, .inr (1, [.ref ua, .int len, .int nx])), (ua, .inl (cC, 200, .inl uf))] sz) := by
  refine Met.ofW (cc := bT_take) (maxL := 2) (ret := (some (.boolean))) (by decide) rfl ?_
  intro p e s m args below meth c s₁ B hml hv
  obtain ⟨rfl, hAt, hsz, hP, hD0⟩ := hv
  have hx := B.exec
  have hb := B.bytes
  have hr := B.returns
  have hts := xb_hts E hAt ([.ref h0, .int wanted] : List Value).toArray
  have hown : s.vm.findClass "NailRules$Text" = some m.cls := findClass_of_methodNamed B.named
  have hlocks := B.notSynchronized
  have hK := xb_K E hAt
  subst hsz
  have hA0 := xb_A0 hAt hD0
  have hD := hD0.self (sz := s.heap.size)
  generalize hAe : va_A [(h0, .inr (1, [.ref ua, .int len, .int nx])), (ua, .inl (cC, 200, .inl uf))] s.heap.size = A at hD hA0 ⊢
  have hA : ∀ q : Nat, s.heap.size ≤ q → A q := fun q h => by rw [← hAe]; exact Or.inr h
  have hS : va_S A s.heap s.heap [] := va_S.rf
  have hl := lv_entry ([.ref h0, .int wanted]) (n := 2) (Nat.le_of_ble_eq_true rfl)
  rw [lg_entry_eq]
  generalize (lg_sl ([.ref h0, .int wanted]) ++ List.replicate (2 - (lg_sl ([.ref h0, .int wanted])).length) Slot.unset).toArray = ls at hl ⊢
  have hl : lv_has ls 2 [(0, .ref h0), (1, .int wanted)] := hl
  refine lv_aload_n hx hb dT_take_0 rfl (lv_at hl 0 rfl) ?_
  refine lv_aload_n hx hb dT_take_1 rfl (lv_at hl 0 rfl) ?_
  refine va_get (D := (dC, dI)) (ci := 1) (v := .int nx) (C := xR_T) (T := xF_T) (N := 3) hx hb hts xi_T hown hK hP 0 rfl rfl 2 (by decide) (hts _ xk_78) (fun _ h9 => h9) rfl dT_take_2 ?_
  refine xb_rd (W.runV (C := "NailRules$Text") (As := [.int nx]) (rest := []) ⟨hx, hb, hml, hown, hts⟩ (cT_look l E h0 ([.ref ua, .int len, .int nx]) ua uf len nx rfl rfl (by assumption)) (cwV 1 hts (xb_gi (List.forall_mem_cons.mpr ⟨xk_176, List.forall_mem_cons.mpr ⟨xk_178, List.forall_mem_cons.mpr ⟨xk_5, List.forall_mem_cons.mpr ⟨xk_41, List.forall_mem_cons.mpr ⟨xk_179, fun _ h => absurd h List.not_mem_nil⟩⟩⟩⟩⟩)) rfl rfl rfl (by decide +kernel) ⟨Nat.le_of_ble_eq_true rfl, Nat.le_of_ble_eq_true rfl⟩) ⟨fun _ _ _ _ q => q, va_recv hK hP (ci := 1) (q0 := 0) rfl rfl, fun U hU hW => ⟨rfl, xb_atS hAt hS hA0 hU hW, by rw [hU]; exact hP.sub (ws' := [(h0, .inr (1, [.ref ua, .int len, .int nx])), (ua, .inl (cC, 200, .inl uf))]) [0, 1] rfl⟩⟩ rfl rfl hl.1 rfl (lv_room (Nat.le_of_ble_eq_true rfl)) dT_take_5 ⟨Nat.zero_le _, Nat.zero_le _⟩) ?_
  refine lv_iload_n hx hb dT_take_8 rfl (lv_at hl 1 rfl) ?_
  refine lv_icmp_eq (tgt := 14) hx hb dT_take_9 (by decide) (fun c_1 => ?_) (fun c_1 => ?_)
  · refine lv_aload_n hx hb dT_take_14 rfl (lv_at hl 0 rfl) ?_
    refine lv_dup hx hb dT_take_15 rfl ?_
    refine va_get (D := (dC, dI)) (ci := 1) (v := .int nx) (C := xR_T) (T := xF_T) (N := 3) hx hb hts xi_T hown hK hP 0 rfl rfl 2 (by decide) (hts _ xk_78) (fun _ h9 => h9) rfl dT_take_16 ?_
    refine lv_iconst (v := 1) hx hb dT_take_19 (by decide) ?_
    refine lv_iadd hx hb dT_take_20 ?_
    refine va_put (D := (dC, dI)) (ci := 1) (v := .int (nx + 1)) (ty := .int) (C := xR_T) (T := xF_T) (N := 3) hx hb hts xi_T xt_T xt_T_ok xn_T hown hK hP hD hS 0 rfl rfl 2 (by decide) (hts _ xk_78) (fun _ h9 => h9) rfl (by decide +kernel) rfl rfl (Nat.le_of_ble_eq_true rfl) dT_take_21 (fun H locs hP hD hS => ?_)
    have hP : va_P (dC, dI) classes [(h0, .inr (1, [.ref ua, .int len, .int (nx + 1)])), (ua, .inl (cC, 200, .inl uf))] H := hP
    have hD : va_D A [(h0, .inr (1, [.ref ua, .int len, .int (nx + 1)])), (ua, .inl (cC, 200, .inl uf))] := hD
    refine lv_iconst (v := 1) hx hb dT_take_24 (by decide) ?_
    have e_0 : gT_take uf len nx wanted = true := (if_pos c_1).trans (rfl)
    have e_1 : gT_take_2 uf len nx wanted = (nx + 1) := (if_pos c_1).trans (rfl)
    have hP9 := hP.sub (ws' := [(h0, .inr (1, [.ref ua, .int len, .int (nx + 1)])), (ua, .inl (cC, 200, .inl uf))]) [0, 1] rfl
    have hD9 := hD.sub (ws' := [(h0, .inr (1, [.ref ua, .int len, .int (nx + 1)])), (ua, .inl (cC, 200, .inl uf))]) [0, 1] (by decide) rfl
    exact W.zret (v := 1) hx hb hr (by decide) (fun t ht hW => ⟨_, _, rfl, ⟨by first | rfl | (simp only [e_0, e_1]; try rfl), by first | rfl | (simp only [e_0, e_1]; try rfl)⟩, by rw [ht]; exact hP9, hD9, hS.F ht⟩) hS.2.2 dT_take_25
  · refine lv_iconst (v := 0) hx hb dT_take_12 (by decide) ?_
    have e_0 : gT_take uf len nx wanted = false := (if_neg c_1).trans (rfl)
    have e_1 : gT_take_2 uf len nx wanted = nx := (if_neg c_1).trans (rfl)
    have hP9 := hP.sub (ws' := [(h0, .inr (1, [.ref ua, .int len, .int nx])), (ua, .inl (cC, 200, .inl uf))]) [0, 1] rfl
    have hD9 := hD.sub (ws' := [(h0, .inr (1, [.ref ua, .int len, .int nx])), (ua, .inl (cC, 200, .inl uf))]) [0, 1] (by decide) rfl
    exact W.zret (v := 0) hx hb hr (by decide) (fun t ht hW => ⟨_, _, rfl, ⟨by first | rfl | (simp only [e_0, e_1]; try rfl), by first | rfl | (simp only [e_0, e_1]; try rfl)⟩, by rw [ht]; exact hP9, hD9, hS.F ht⟩) hS.2.2 dT_take_13

def gT_takeKind (uf : Nat → Int32) (len : Int32) (nx : Int32) : Int32 := if (fT_kindOf (fT_look uf len nx)) = (-1) then (fT_kindOf (fT_look uf len nx)) else (fT_kindOf (fT_look uf len nx))
def gT_takeKind_2 (uf : Nat → Int32) (len : Int32) (nx : Int32) : Int32 := if (fT_kindOf (fT_look uf len nx)) = (-1) then (nx) else (nx + 1)
set_option maxHeartbeats 4000000 in
set_option maxRecDepth 100000 in
theorem cT_takeKind (l : Launch) {s0 : State} {dC : Nat → ClassId} {dI : Nat → Nat → Nat} {cI cC cL : ClassId} (E : xb_Env l s0 dC dI (xtys cI cC cL)) (sz : Nat) (h0 : Nat) (ua : Nat) (len : Int32) (nx : Int32) (uf : Nat → Int32) (hlen : len ≤ 200) : Met l yT_takeKind [.code yT_takeKind bT_takeKind 2 (some (.int))] ({ frames := 1, cells := 0, slots := 0, locals := 21 }) (va_Pc [.ref h0] (fun U => xb_At s0 U ∧ U.heap.size = sz ∧ va_P (dC, dI) classes [(h0, .inr (1, [.ref ua, .int len, .int nx])), (ua, .inl (cC, 200, .inl uf))] U.heap ∧ va_D (fun q => s0.heap.size ≤ q) [(h0, .inr (1, [.ref ua, .int len, .int nx])), (ua, .inl (cC, 200, .inl uf))])) (xb_W (dC, dI) (fun v w => v = some (.int (gT_takeKind uf len nx)) ∧ w = [(h0, .inr (1, [.ref ua, .int len, .int (gT_takeKind_2 uf len nx)])), (ua, .inl (cC, 200, .inl uf))]) (va_A [(h0, .inr (1, [.ref ua, .int len, .int nx])), (ua, .inl (cC, 200, .inl uf))] sz)) 0 0 (va_A [(h0, .inr (1, [.ref ua, .int len, .int nx])), (ua, .inl (cC, 200, .inl uf))] sz) := by
  refine Met.ofW (cc := bT_takeKind) (maxL := 2) (ret := (some (.int))) (by decide) rfl ?_
  intro p e s m args below meth c s₁ B hml hv
  obtain ⟨rfl, hAt, hsz, hP, hD0⟩ := hv
  have hx := B.exec
  have hb := B.bytes
  have hr := B.returns
  have hts := xb_hts E hAt ([.ref h0] : List Value).toArray
  have hown : s.vm.findClass "NailRules$Text" = some m.cls := findClass_of_methodNamed B.named
  have hlocks := B.notSynchronized
  have hK := xb_K E hAt
  subst hsz
  have hA0 := xb_A0 hAt hD0
  have hD := hD0.self (sz := s.heap.size)
  generalize hAe : va_A [(h0, .inr (1, [.ref ua, .int len, .int nx])), (ua, .inl (cC, 200, .inl uf))] s.heap.size = A at hD hA0 ⊢
  have hA : ∀ q : Nat, s.heap.size ≤ q → A q := fun q h => by rw [← hAe]; exact Or.inr h
  have hS : va_S A s.heap s.heap [] := va_S.rf
  have hl := lv_entry ([.ref h0]) (n := 2) (Nat.le_of_ble_eq_true rfl)
  rw [lg_entry_eq]
  generalize (lg_sl ([.ref h0]) ++ List.replicate (2 - (lg_sl ([.ref h0])).length) Slot.unset).toArray = ls at hl ⊢
  have hl : lv_has ls 2 [(0, .ref h0)] := hl
  refine lv_aload_n hx hb dT_takeKind_0 rfl (lv_at hl 0 rfl) ?_
  refine lv_aload_n hx hb dT_takeKind_1 rfl (lv_at hl 0 rfl) ?_
  refine va_get (D := (dC, dI)) (ci := 1) (v := .int nx) (C := xR_T) (T := xF_T) (N := 3) hx hb hts xi_T hown hK hP 0 rfl rfl 2 (by decide) (hts _ xk_78) (fun _ h9 => h9) rfl dT_takeKind_2 ?_
  refine xb_rd (W.runV (C := "NailRules$Text") (As := [.int nx]) (rest := []) ⟨hx, hb, hml, hown, hts⟩ (cT_look l E h0 ([.ref ua, .int len, .int nx]) ua uf len nx rfl rfl (by assumption)) (cwV 1 hts (xb_gi (List.forall_mem_cons.mpr ⟨xk_176, List.forall_mem_cons.mpr ⟨xk_178, List.forall_mem_cons.mpr ⟨xk_5, List.forall_mem_cons.mpr ⟨xk_41, List.forall_mem_cons.mpr ⟨xk_179, fun _ h => absurd h List.not_mem_nil⟩⟩⟩⟩⟩)) rfl rfl rfl (by decide +kernel) ⟨Nat.le_of_ble_eq_true rfl, Nat.le_of_ble_eq_true rfl⟩) ⟨fun _ _ _ _ q => q, va_recv hK hP (ci := 1) (q0 := 0) rfl rfl, fun U hU hW => ⟨rfl, xb_atS hAt hS hA0 hU hW, by rw [hU]; exact hP.sub (ws' := [(h0, .inr (1, [.ref ua, .int len, .int nx])), (ua, .inl (cC, 200, .inl uf))]) [0, 1] rfl⟩⟩ rfl rfl hl.1 rfl (lv_room (Nat.le_of_ble_eq_true rfl)) dT_takeKind_5 ⟨Nat.zero_le _, Nat.zero_le _⟩) ?_
  refine xb_rd (W.runS (As := [.int (fT_look uf len nx)]) (rest := []) ⟨hx, hb, hml, hown, hts⟩ (cT_kindOf l E (fT_look uf len nx)) (cwS 1 hts (xb_gi (List.forall_mem_cons.mpr ⟨xk_180, List.forall_mem_cons.mpr ⟨xk_181, List.forall_mem_cons.mpr ⟨xk_41, List.forall_mem_cons.mpr ⟨xk_182, fun _ h => absurd h List.not_mem_nil⟩⟩⟩⟩)) rfl rfl rfl (by decide +kernel) ⟨Nat.le_of_ble_eq_true rfl, Nat.le_of_ble_eq_true rfl⟩) ⟨fun _ _ _ _ q => q, fun U hU hW => ⟨rfl, xb_atS hAt hS hA0 hU hW, fun k q h => by simp at h⟩⟩ rfl rfl hl.1 rfl (lv_room (Nat.le_of_ble_eq_true rfl)) dT_takeKind_8 ⟨Nat.zero_le _, Nat.zero_le _⟩) ?_
  refine lv_istore_n (lv' := [(1, .int (fT_kindOf (fT_look uf len nx))), (0, .ref h0)]) hx hb dT_takeKind_11 rfl hl (by decide) rfl (fun ls hl => ?_)
  refine lv_iload_n hx hb dT_takeKind_12 rfl (lv_at hl 0 rfl) ?_
  refine lv_iconst (v := (-1)) hx hb dT_takeKind_13 (by decide) ?_
  refine lv_icmp_eq (tgt := 27) hx hb dT_takeKind_14 (by decide) (fun c_2 => ?_) (fun c_2 => ?_)
  · refine lv_iload_n hx hb dT_takeKind_27 rfl (lv_at hl 0 rfl) ?_
    have e_0 : gT_takeKind uf len nx = (fT_kindOf (fT_look uf len nx)) := (if_pos c_2).trans (rfl)
    have e_1 : gT_takeKind_2 uf len nx = nx := (if_pos c_2).trans (rfl)
    have hP9 := hP.sub (ws' := [(h0, .inr (1, [.ref ua, .int len, .int nx])), (ua, .inl (cC, 200, .inl uf))]) [0, 1] rfl
    have hD9 := hD.sub (ws' := [(h0, .inr (1, [.ref ua, .int len, .int nx])), (ua, .inl (cC, 200, .inl uf))]) [0, 1] (by decide) rfl
    exact W.iret (v := (fT_kindOf (fT_look uf len nx))) hx hb hr (fun t ht hW => ⟨_, _, rfl, ⟨by first | rfl | (simp only [e_0, e_1]; try rfl), by first | rfl | (simp only [e_0, e_1]; try rfl)⟩, by rw [ht]; exact hP9, hD9, hS.F ht⟩) hS.2.2 dT_takeKind_28
  · refine lv_aload_n hx hb dT_takeKind_17 rfl (lv_at hl 1 rfl) ?_
    refine lv_dup hx hb dT_takeKind_18 rfl ?_
    refine va_get (D := (dC, dI)) (ci := 1) (v := .int nx) (C := xR_T) (T := xF_T) (N := 3) hx hb hts xi_T hown hK hP 0 rfl rfl 2 (by decide) (hts _ xk_78) (fun _ h9 => h9) rfl dT_takeKind_19 ?_
    refine lv_iconst (v := 1) hx hb dT_takeKind_22 (by decide) ?_
    refine lv_iadd hx hb dT_takeKind_23 ?_
    refine va_put (D := (dC, dI)) (ci := 1) (v := .int (nx + 1)) (ty := .int) (C := xR_T) (T := xF_T) (N := 3) hx hb hts xi_T xt_T xt_T_ok xn_T hown hK hP hD hS 0 rfl rfl 2 (by decide) (hts _ xk_78) (fun _ h9 => h9) rfl (by decide +kernel) rfl rfl (Nat.le_of_ble_eq_true rfl) dT_takeKind_24 (fun H locs hP hD hS => ?_)
    have hP : va_P (dC, dI) classes [(h0, .inr (1, [.ref ua, .int len, .int (nx + 1)])), (ua, .inl (cC, 200, .inl uf))] H := hP
    have hD : va_D A [(h0, .inr (1, [.ref ua, .int len, .int (nx + 1)])), (ua, .inl (cC, 200, .inl uf))] := hD
    refine lv_iload_n hx hb dT_takeKind_27 rfl (lv_at hl 0 rfl) ?_
    have e_0 : gT_takeKind uf len nx = (fT_kindOf (fT_look uf len nx)) := (if_neg c_2).trans (rfl)
    have e_1 : gT_takeKind_2 uf len nx = (nx + 1) := (if_neg c_2).trans (rfl)
    have hP9 := hP.sub (ws' := [(h0, .inr (1, [.ref ua, .int len, .int (nx + 1)])), (ua, .inl (cC, 200, .inl uf))]) [0, 1] rfl
    have hD9 := hD.sub (ws' := [(h0, .inr (1, [.ref ua, .int len, .int (nx + 1)])), (ua, .inl (cC, 200, .inl uf))]) [0, 1] (by decide) rfl
    exact W.iret (v := (fT_kindOf (fT_look uf len nx))) hx hb hr (fun t ht hW => ⟨_, _, rfl, ⟨by first | rfl | (simp only [e_0, e_1]; try rfl), by first | rfl | (simp only [e_0, e_1]; try rfl)⟩, by rw [ht]; exact hP9, hD9, hS.F ht⟩) hS.2.2 dT_takeKind_28

def gN_unit (uf : Nat → Int32) (len : Int32) (nx : Int32) (u : Int32) : Bool := (gT_append uf len nx u)
def gN_unit_1 (uf : Nat → Int32) (len : Int32) (nx : Int32) (u : Int32) : Int32 := gT_append_1 uf len nx u
def gN_unit_f (uf : Nat → Int32) (len : Int32) (nx : Int32) (u : Int32) : Nat → Int32 := gT_append_f uf len nx u
set_option maxHeartbeats 4000000 in
set_option maxRecDepth 100000 in
theorem cN_unit (l : Launch) {s0 : State} {dC : Nat → ClassId} {dI : Nat → Nat → Nat} {cI cC cL : ClassId} (E : xb_Env l s0 dC dI (xtys cI cC cL)) (sz : Nat) (h0 : Nat) (ta : Nat) (ua : Nat) (ra : Nat) (wet : Int32) (less : Int32) (px : Nat) (py : Nat) (pn : Int32) (qx : Nat) (qy : Nat) (qn : Int32) (ml : Nat) (len : Int32) (nx : Int32) (uf : Nat → Int32) (u : Int32) (hlen : 0 ≤ len) : Met l yN_unit [.code yN_unit bN_unit 2 (some (.boolean))] ({ frames := 1, cells := 0, slots := 0, locals := 21 }) (va_Pc [.ref h0, .int u] (fun U => xb_At s0 U ∧ U.heap.size = sz ∧ va_P (dC, dI) classes [(h0, .inr (0, [.ref ta, .ref ra, .int wet, .int less, .ref px, .ref py, .int pn, .ref qx, .ref qy, .int qn, .ref ml])), (ta, .inr (1, [.ref ua, .int len, .int nx])), (ua, .inl (cC, 200, .inl uf))] U.heap ∧ va_D (fun q => s0.heap.size ≤ q) [(h0, .inr (0, [.ref ta, .ref ra, .int wet, .int less, .ref px, .ref py, .int pn, .ref qx, .ref qy, .int qn, .ref ml])), (ta, .inr (1, [.ref ua, .int len, .int nx])), (ua, .inl (cC, 200, .inl uf))])) (xb_W (dC, dI) (fun v w => v = some (.int (xb_bi (gN_unit uf len nx u))) ∧ w = [(h0, .inr (0, [.ref ta, .ref ra, .int wet, .int less, .ref px, .ref py, .int pn, .ref qx, .ref qy, .int qn, .ref ml])), (ta, .inr (1, [.ref ua, .int (gN_unit_1 uf len nx u), .int nx])), (ua, .inl (cC, 200, .inl (gN_unit_f uf len nx u)))]) (va_A [(h0, .inr (0, [.ref ta, .ref ra, .int wet, .int less, .ref px, .ref py, .int pn, .ref qx, .ref qy, .int qn, .ref ml])), (ta, .inr (1, [.ref ua, .int len, .int nx])), (ua, .inl (cC, 200, .inl uf))] sz)) 0 0 (va_A [(h0, .inr (0, [.ref ta, .ref ra, .int wet, .int less, .ref px, .ref py, .int pn, .ref qx, .ref qy, .int qn, .ref ml])), (ta, .inr (1, [.ref ua, .int len, .int nx])), (ua, .inl (cC, 200, .inl uf))] sz) := by
  refine Met.ofW (cc := bN_unit) (maxL := 2) (ret := (some (.boolean))) (by decide) rfl ?_
  intro p e s m args below meth c s₁ B hml hv
  obtain ⟨rfl, hAt, hsz, hP, hD0⟩ := hv
  have hx := B.exec
  have hb := B.bytes
  have hr := B.returns
  have hts := xb_hts E hAt ([.ref h0, .int u] : List Value).toArray
  have hown : s.vm.findClass "NailRules" = some m.cls := findClass_of_methodNamed B.named
  have hlocks := B.notSynchronized
  have hK := xb_K E hAt
  subst hsz
  have hA0 := xb_A0 hAt hD0
  have hD := hD0.self (sz := s.heap.size)
  generalize hAe : va_A [(h0, .inr (0, [.ref ta, .ref ra, .int wet, .int less, .ref px, .ref py, .int pn, .ref qx, .ref qy, .int qn, .ref ml])), (ta, .inr (1, [.ref ua, .int len, .int nx])), (ua, .inl (cC, 200, .inl uf))] s.heap.size = A at hD hA0 ⊢
  have hA : ∀ q : Nat, s.heap.size ≤ q → A q := fun q h => by rw [← hAe]; exact Or.inr h
  have hS : va_S A s.heap s.heap [] := va_S.rf
  have hl := lv_entry ([.ref h0, .int u]) (n := 2) (Nat.le_of_ble_eq_true rfl)
  rw [lg_entry_eq]
  generalize (lg_sl ([.ref h0, .int u]) ++ List.replicate (2 - (lg_sl ([.ref h0, .int u])).length) Slot.unset).toArray = ls at hl ⊢
  have hl : lv_has ls 2 [(0, .ref h0), (1, .int u)] := hl
  refine lv_aload_n hx hb dN_unit_0 rfl (lv_at hl 0 rfl) ?_
  refine va_get (D := (dC, dI)) (ci := 0) (v := .ref ta) (C := xR_N) (T := xF_N) (N := 11) hx hb hts xi_N hown hK hP 0 rfl rfl 0 (by decide) (hts _ xk_114) (fun _ h9 => h9) rfl dN_unit_1 ?_
  refine lv_iload_n hx hb dN_unit_4 rfl (lv_at hl 1 rfl) ?_
  refine xb_wr (wr := [(h0, .inr (0, [.ref ta, .ref ra, .int wet, .int less, .ref px, .ref py, .int pn, .ref qx, .ref qy, .int qn, .ref ml]))]) (va_runVN (C := "NailRules$Text") (As := [.int u]) (rest := []) ⟨hx, hb, hml, hown, hts⟩ (cT_append l E _ ta ua len nx uf u (by assumption)) ⟨va_cnB 1 hts (xb_gi (List.forall_mem_cons.mpr ⟨xk_155, fun _ h => absurd h List.not_mem_nil⟩)) rfl rfl rfl (xb_nest E hAt xk_152) (hts _ xk_41) (by decide +kernel) ⟨Nat.le_of_ble_eq_true rfl, Nat.le_of_ble_eq_true rfl⟩, hts _ xk_154, hts _ xk_0⟩ ⟨fun _ _ _ _ q => q, va_recv hK hP (ci := 1) (q0 := 1) rfl rfl, fun U hU hW => ⟨rfl, xb_atS hAt hS hA0 hU hW, by rw [hU], by rw [hU]; exact hP.sub (ws' := [(ta, .inr (1, [.ref ua, .int len, .int nx])), (ua, .inl (cC, 200, .inl uf))]) [1, 2] rfl, (hD.sub (ws' := [(ta, .inr (1, [.ref ua, .int len, .int nx])), (ua, .inl (cC, 200, .inl uf))]) [1, 2] (by decide) rfl).weaken (fun _ q _ h => hA0 q.1 h)⟩⟩ rfl rfl hl.1 rfl (lv_room (Nat.le_of_ble_eq_true rfl)) dN_unit_5 ⟨Nat.le_of_ble_eq_true rfl, Nat.le_of_ble_eq_true rfl⟩) hP hD hS hA [1, 2] [0] rfl rfl (by decide) (by decide) ?_
  rintro _ _ H locs ⟨rfl, rfl⟩ hP hD hS
  have hP : va_P (dC, dI) classes [(h0, .inr (0, [.ref ta, .ref ra, .int wet, .int less, .ref px, .ref py, .int pn, .ref qx, .ref qy, .int qn, .ref ml])), (ta, .inr (1, [.ref ua, .int (gT_append_1 uf len nx u), .int nx])), (ua, .inl (cC, 200, .inl (gT_append_f uf len nx u)))] H := hP
  have hD : va_D A [(h0, .inr (0, [.ref ta, .ref ra, .int wet, .int less, .ref px, .ref py, .int pn, .ref qx, .ref qy, .int qn, .ref ml])), (ta, .inr (1, [.ref ua, .int (gT_append_1 uf len nx u), .int nx])), (ua, .inl (cC, 200, .inl (gT_append_f uf len nx u)))] := hD
  have e_0 : gN_unit uf len nx u = (gT_append uf len nx u) := rfl
  have e_1 : gN_unit_1 uf len nx u = (gT_append_1 uf len nx u) := rfl
  have e_2 : gN_unit_f uf len nx u = (gT_append_f uf len nx u) := rfl
  have hP9 := hP.sub (ws' := [(h0, .inr (0, [.ref ta, .ref ra, .int wet, .int less, .ref px, .ref py, .int pn, .ref qx, .ref qy, .int qn, .ref ml])), (ta, .inr (1, [.ref ua, .int (gT_append_1 uf len nx u), .int nx])), (ua, .inl (cC, 200, .inl (gT_append_f uf len nx u)))]) [0, 1, 2] rfl
  have hD9 := hD.sub (ws' := [(h0, .inr (0, [.ref ta, .ref ra, .int wet, .int less, .ref px, .ref py, .int pn, .ref qx, .ref qy, .int qn, .ref ml])), (ta, .inr (1, [.ref ua, .int (gT_append_1 uf len nx u), .int nx])), (ua, .inl (cC, 200, .inl (gT_append_f uf len nx u)))]) [0, 1, 2] (by decide) rfl
  exact W.zret (v := (xb_bi (gT_append uf len nx u))) hx hb hr (xb_bi_n _) (fun t ht hW => ⟨_, _, rfl, ⟨by first | rfl | (simp only [e_0, e_1, e_2]; try rfl), by first | rfl | (simp only [e_0, e_1, e_2]; try rfl)⟩, by rw [ht]; exact hP9, hD9, hS.F ht⟩) hS.2.2 dN_unit_8

def gN_clear_9  : Int32 := (0)
set_option maxHeartbeats 4000000 in
set_option maxRecDepth 100000 in
theorem cN_clear (l : Launch) {s0 : State} {dC : Nat → ClassId} {dI : Nat → Nat → Nat} {cI cC cL : ClassId} (E : xb_Env l s0 dC dI (xtys cI cC cL)) (sz : Nat) (h0 : Nat) (ta : Nat) (ra : Nat) (wet : Int32) (less : Int32) (px : Nat) (py : Nat) (pn : Int32) (qx : Nat) (qy : Nat) (qn : Int32) (ml : Nat) : Met l yN_clear [.code yN_clear bN_clear 1 none] ({ frames := 0, cells := 0, slots := 0, locals := 0 }) (va_Pc [.ref h0] (fun U => xb_At s0 U ∧ U.heap.size = sz ∧ va_P (dC, dI) classes [(h0, .inr (0, [.ref ta, .ref ra, .int wet, .int less, .ref px, .ref py, .int pn, .ref qx, .ref qy, .int qn, .ref ml]))] U.heap ∧ va_D (fun q => s0.heap.size ≤ q) [(h0, .inr (0, [.ref ta, .ref ra, .int wet, .int less, .ref px, .ref py, .int pn, .ref qx, .ref qy, .int qn, .ref ml]))])) (xb_W (dC, dI) (fun v w => v = none ∧ w = [(h0, .inr (0, [.ref ta, .ref ra, .int wet, .int less, .ref px, .ref py, .int pn, .ref qx, .ref qy, .int (gN_clear_9 ), .ref ml]))]) (va_A [(h0, .inr (0, [.ref ta, .ref ra, .int wet, .int less, .ref px, .ref py, .int pn, .ref qx, .ref qy, .int qn, .ref ml]))] sz)) 0 0 (va_A [(h0, .inr (0, [.ref ta, .ref ra, .int wet, .int less, .ref px, .ref py, .int pn, .ref qx, .ref qy, .int qn, .ref ml]))] sz) := by
  refine Met.ofW (cc := bN_clear) (maxL := 1) (ret := none) (by decide) rfl ?_
  intro p e s m args below meth c s₁ B hml hv
  obtain ⟨rfl, hAt, hsz, hP, hD0⟩ := hv
  have hx := B.exec
  have hb := B.bytes
  have hr := B.returns
  have hts := xb_hts E hAt ([.ref h0] : List Value).toArray
  have hown : s.vm.findClass "NailRules" = some m.cls := findClass_of_methodNamed B.named
  have hlocks := B.notSynchronized
  have hK := xb_K E hAt
  subst hsz
  have hA0 := xb_A0 hAt hD0
  have hD := hD0.self (sz := s.heap.size)
  generalize hAe : va_A [(h0, .inr (0, [.ref ta, .ref ra, .int wet, .int less, .ref px, .ref py, .int pn, .ref qx, .ref qy, .int qn, .ref ml]))] s.heap.size = A at hD hA0 ⊢
  have hA : ∀ q : Nat, s.heap.size ≤ q → A q := fun q h => by rw [← hAe]; exact Or.inr h
  have hS : va_S A s.heap s.heap [] := va_S.rf
  have hl := lv_entry ([.ref h0]) (n := 1) (Nat.le_of_ble_eq_true rfl)
  rw [lg_entry_eq]
  generalize (lg_sl ([.ref h0]) ++ List.replicate (1 - (lg_sl ([.ref h0])).length) Slot.unset).toArray = ls at hl ⊢
  have hl : lv_has ls 1 [(0, .ref h0)] := hl
  refine lv_aload_n hx hb dN_clear_0 rfl (lv_at hl 0 rfl) ?_
  refine lv_iconst (v := 0) hx hb dN_clear_1 (by decide) ?_
  refine va_put (D := (dC, dI)) (ci := 0) (v := .int 0) (ty := .int) (C := xR_N) (T := xF_N) (N := 11) hx hb hts xi_N xt_N xt_N_ok xn_N hown hK hP hD hS 0 rfl rfl 9 (by decide) (hts _ xk_123) (fun _ h9 => h9) rfl (by decide +kernel) rfl rfl (Nat.le_of_ble_eq_true rfl) dN_clear_2 (fun H locs hP hD hS => ?_)
  have hP : va_P (dC, dI) classes [(h0, .inr (0, [.ref ta, .ref ra, .int wet, .int less, .ref px, .ref py, .int pn, .ref qx, .ref qy, .int 0, .ref ml]))] H := hP
  have hD : va_D A [(h0, .inr (0, [.ref ta, .ref ra, .int wet, .int less, .ref px, .ref py, .int pn, .ref qx, .ref qy, .int 0, .ref ml]))] := hD
  have e_0 : gN_clear_9  = (0 : Int32) := rfl
  have hP9 := hP.sub (ws' := [(h0, .inr (0, [.ref ta, .ref ra, .int wet, .int less, .ref px, .ref py, .int pn, .ref qx, .ref qy, .int 0, .ref ml]))]) [0] rfl
  have hD9 := hD.sub (ws' := [(h0, .inr (0, [.ref ta, .ref ra, .int wet, .int less, .ref px, .ref py, .int pn, .ref qx, .ref qy, .int 0, .ref ml]))]) [0] (by decide) rfl
  exact W.vret hx hb hr (fun t ht hW => ⟨_, _, rfl, ⟨by first | rfl | (simp only [e_0]; try rfl), by first | rfl | (simp only [e_0]; try rfl)⟩, by rw [ht]; exact hP9, hD9, hS.F ht⟩) hS.2.2 dN_clear_5

def gN_set_2 (wet : Int32) (less : Int32) (what : Int32) (pct : Int32) : Int32 := if what = 0 then (pct) else (wet)
def gN_set_3 (wet : Int32) (less : Int32) (what : Int32) (pct : Int32) : Int32 := if what = 0 then (less) else (pct)
set_option maxHeartbeats 4000000 in
set_option maxRecDepth 100000 in
theorem cN_set (l : Launch) {s0 : State} {dC : Nat → ClassId} {dI : Nat → Nat → Nat} {cI cC cL : ClassId} (E : xb_Env l s0 dC dI (xtys cI cC cL)) (sz : Nat) (h0 : Nat) (ta : Nat) (ra : Nat) (wet : Int32) (less : Int32) (px : Nat) (py : Nat) (pn : Int32) (qx : Nat) (qy : Nat) (qn : Int32) (ml : Nat) (what : Int32) (pct : Int32) (w1 : ¬ what < 0) (w2 : what < 2) (p1 : ¬ pct.toInt64 < (if what = 0 then (1 : Int64) else 0)) (p2 : pct.toInt64 ≤ 100) : Met l yN_set [.code yN_set bN_set 3 none] ({ frames := 1, cells := 0, slots := 0, locals := 25 }) (va_Pc [.ref h0, .int what, .int pct] (fun U => xb_At s0 U ∧ U.heap.size = sz ∧ va_P (dC, dI) classes [(h0, .inr (0, [.ref ta, .ref ra, .int wet, .int less, .ref px, .ref py, .int pn, .ref qx, .ref qy, .int qn, .ref ml]))] U.heap ∧ va_D (fun q => s0.heap.size ≤ q) [(h0, .inr (0, [.ref ta, .ref ra, .int wet, .int less, .ref px, .ref py, .int pn, .ref qx, .ref qy, .int qn, .ref ml]))])) (xb_W (dC, dI) (fun v w => v = none ∧ w = [(h0, .inr (0, [.ref ta, .ref ra, .int (gN_set_2 wet less what pct), .int (gN_set_3 wet less what pct), .ref px, .ref py, .int pn, .ref qx, .ref qy, .int qn, .ref ml]))]) (va_A [(h0, .inr (0, [.ref ta, .ref ra, .int wet, .int less, .ref px, .ref py, .int pn, .ref qx, .ref qy, .int qn, .ref ml]))] sz)) 0 0 (va_A [(h0, .inr (0, [.ref ta, .ref ra, .int wet, .int less, .ref px, .ref py, .int pn, .ref qx, .ref qy, .int qn, .ref ml]))] sz) := by
  refine Met.ofW (cc := bN_set) (maxL := 3) (ret := none) (by decide) rfl ?_
  intro p e s m args below meth c s₁ B hml hv
  obtain ⟨rfl, hAt, hsz, hP, hD0⟩ := hv
  have hx := B.exec
  have hb := B.bytes
  have hr := B.returns
  have hts := xb_hts E hAt ([.ref h0, .int what, .int pct] : List Value).toArray
  have hown : s.vm.findClass "NailRules" = some m.cls := findClass_of_methodNamed B.named
  have hlocks := B.notSynchronized
  have hK := xb_K E hAt
  subst hsz
  have hA0 := xb_A0 hAt hD0
  have hD := hD0.self (sz := s.heap.size)
  generalize hAe : va_A [(h0, .inr (0, [.ref ta, .ref ra, .int wet, .int less, .ref px, .ref py, .int pn, .ref qx, .ref qy, .int qn, .ref ml]))] s.heap.size = A at hD hA0 ⊢
  have hA : ∀ q : Nat, s.heap.size ≤ q → A q := fun q h => by rw [← hAe]; exact Or.inr h
  have hS : va_S A s.heap s.heap [] := va_S.rf
  have hl := lv_entry ([.ref h0, .int what, .int pct]) (n := 3) (Nat.le_of_ble_eq_true rfl)
  rw [lg_entry_eq]
  generalize (lg_sl ([.ref h0, .int what, .int pct]) ++ List.replicate (3 - (lg_sl ([.ref h0, .int what, .int pct])).length) Slot.unset).toArray = ls at hl ⊢
  have hl : lv_has ls 3 [(0, .ref h0), (1, .int what), (2, .int pct)] := hl
  refine lv_iload_n hx hb dN_set_0 rfl (lv_at hl 1 rfl) ?_
  refine lv_iconst (v := 2) hx hb dN_set_1 (by decide) ?_
  refine xb_rd (W.runS (As := [.int what, .int 2]) (rest := []) ⟨hx, hb, hml, hown, hts⟩ (cN_requireIndex l E what 2 (by assumption) (by assumption)) (cwS 2 hts (xb_gi (List.forall_mem_cons.mpr ⟨xk_288, List.forall_mem_cons.mpr ⟨xk_289, List.forall_mem_cons.mpr ⟨xk_40, List.forall_mem_cons.mpr ⟨xk_290, fun _ h => absurd h List.not_mem_nil⟩⟩⟩⟩)) rfl rfl rfl (by decide +kernel) ⟨Nat.le_of_ble_eq_true rfl, Nat.le_of_ble_eq_true rfl⟩) ⟨fun _ _ _ _ q => q, fun U hU hW => ⟨rfl, xb_atS hAt hS hA0 hU hW, fun k q h => by simp at h⟩⟩ rfl rfl hl.1 rfl (lv_room (Nat.le_of_ble_eq_true rfl)) dN_set_2 ⟨Nat.zero_le _, Nat.zero_le _⟩) ?_
  refine lv_iload_n hx hb dN_set_5 rfl (lv_at hl 1 rfl) ?_
  refine lv_if_ne (tgt := 26) hx hb dN_set_6 (by decide) (fun c_1 => ?_) (fun c_1 => ?_)
  · refine lv_iload_n hx hb dN_set_26 rfl (lv_at hl 2 rfl) ?_
    refine lv_i2l hx hb dN_set_27 rfl ?_
    refine lv_lconst (v := 0) hx hb dN_set_28 (by decide) ?_
    refine lv_ldc2 (v := 100) hx hb hown (hts _ xk_370) dN_set_29 ?_
    refine xb_rd (W.runS (As := [.long pct.toInt64, .long 0, .long 100]) (rest := []) ⟨hx, hb, hml, hown, hts⟩ (cN_requireWithin l E pct.toInt64 0 100 (by rw [if_neg (by assumption)] at p1; exact p1) (by assumption)) (cwS 3 hts (xb_gi (List.forall_mem_cons.mpr ⟨xk_371, List.forall_mem_cons.mpr ⟨xk_372, List.forall_mem_cons.mpr ⟨xk_40, List.forall_mem_cons.mpr ⟨xk_373, fun _ h => absurd h List.not_mem_nil⟩⟩⟩⟩)) rfl rfl rfl (by decide +kernel) ⟨Nat.le_of_ble_eq_true rfl, Nat.le_of_ble_eq_true rfl⟩) ⟨fun _ _ _ _ q => q, fun U hU hW => ⟨rfl, xb_atS hAt hS hA0 hU hW, fun k q h => by simp at h⟩⟩ rfl rfl hl.1 rfl (lv_room (Nat.le_of_ble_eq_true rfl)) dN_set_32 ⟨Nat.zero_le _, Nat.zero_le _⟩) ?_
    refine lv_aload_n hx hb dN_set_35 rfl (lv_at hl 0 rfl) ?_
    refine lv_iload_n hx hb dN_set_36 rfl (lv_at hl 2 rfl) ?_
    refine va_put (D := (dC, dI)) (ci := 0) (v := .int pct) (ty := .int) (C := xR_N) (T := xF_N) (N := 11) hx hb hts xi_N xt_N xt_N_ok xn_N hown hK hP hD hS 0 rfl rfl 3 (by decide) (hts _ xk_117) (fun _ h9 => h9) rfl (by decide +kernel) rfl rfl (Nat.le_of_ble_eq_true rfl) dN_set_37 (fun H locs hP hD hS => ?_)
    have hP : va_P (dC, dI) classes [(h0, .inr (0, [.ref ta, .ref ra, .int wet, .int pct, .ref px, .ref py, .int pn, .ref qx, .ref qy, .int qn, .ref ml]))] H := hP
    have hD : va_D A [(h0, .inr (0, [.ref ta, .ref ra, .int wet, .int pct, .ref px, .ref py, .int pn, .ref qx, .ref qy, .int qn, .ref ml]))] := hD
    have e_0 : gN_set_2 wet less what pct = wet := (if_neg c_1).trans (rfl)
    have e_1 : gN_set_3 wet less what pct = pct := (if_neg c_1).trans (rfl)
    have hP9 := hP.sub (ws' := [(h0, .inr (0, [.ref ta, .ref ra, .int wet, .int pct, .ref px, .ref py, .int pn, .ref qx, .ref qy, .int qn, .ref ml]))]) [0] rfl
    have hD9 := hD.sub (ws' := [(h0, .inr (0, [.ref ta, .ref ra, .int wet, .int pct, .ref px, .ref py, .int pn, .ref qx, .ref qy, .int qn, .ref ml]))]) [0] (by decide) rfl
    exact W.vret hx hb hr (fun t ht hW => ⟨_, _, rfl, ⟨by first | rfl | (simp only [e_0, e_1]; try rfl), by first | rfl | (simp only [e_0, e_1]; try rfl)⟩, by rw [ht]; exact hP9, hD9, hS.F ht⟩) hS.2.2 dN_set_40
  · refine lv_iload_n hx hb dN_set_9 rfl (lv_at hl 2 rfl) ?_
    refine lv_i2l hx hb dN_set_10 rfl ?_
    refine lv_lconst (v := 1) hx hb dN_set_11 (by decide) ?_
    refine lv_ldc2 (v := 100) hx hb hown (hts _ xk_370) dN_set_12 ?_
    refine xb_rd (W.runS (As := [.long pct.toInt64, .long 1, .long 100]) (rest := []) ⟨hx, hb, hml, hown, hts⟩ (cN_requireWithin l E pct.toInt64 1 100 (by rw [if_pos (by assumption)] at p1; exact p1) (by assumption)) (cwS 3 hts (xb_gi (List.forall_mem_cons.mpr ⟨xk_371, List.forall_mem_cons.mpr ⟨xk_372, List.forall_mem_cons.mpr ⟨xk_40, List.forall_mem_cons.mpr ⟨xk_373, fun _ h => absurd h List.not_mem_nil⟩⟩⟩⟩)) rfl rfl rfl (by decide +kernel) ⟨Nat.le_of_ble_eq_true rfl, Nat.le_of_ble_eq_true rfl⟩) ⟨fun _ _ _ _ q => q, fun U hU hW => ⟨rfl, xb_atS hAt hS hA0 hU hW, fun k q h => by simp at h⟩⟩ rfl rfl hl.1 rfl (lv_room (Nat.le_of_ble_eq_true rfl)) dN_set_15 ⟨Nat.zero_le _, Nat.zero_le _⟩) ?_
    refine lv_aload_n hx hb dN_set_18 rfl (lv_at hl 0 rfl) ?_
    refine lv_iload_n hx hb dN_set_19 rfl (lv_at hl 2 rfl) ?_
    refine va_put (D := (dC, dI)) (ci := 0) (v := .int pct) (ty := .int) (C := xR_N) (T := xF_N) (N := 11) hx hb hts xi_N xt_N xt_N_ok xn_N hown hK hP hD hS 0 rfl rfl 2 (by decide) (hts _ xk_116) (fun _ h9 => h9) rfl (by decide +kernel) rfl rfl (Nat.le_of_ble_eq_true rfl) dN_set_20 (fun H locs hP hD hS => ?_)
    have hP : va_P (dC, dI) classes [(h0, .inr (0, [.ref ta, .ref ra, .int pct, .int less, .ref px, .ref py, .int pn, .ref qx, .ref qy, .int qn, .ref ml]))] H := hP
    have hD : va_D A [(h0, .inr (0, [.ref ta, .ref ra, .int pct, .int less, .ref px, .ref py, .int pn, .ref qx, .ref qy, .int qn, .ref ml]))] := hD
    refine lv_goto (tgt := 40) hx hb dN_set_23 (by decide) ?_
    have e_0 : gN_set_2 wet less what pct = pct := (if_pos c_1).trans (rfl)
    have e_1 : gN_set_3 wet less what pct = less := (if_pos c_1).trans (rfl)
    have hP9 := hP.sub (ws' := [(h0, .inr (0, [.ref ta, .ref ra, .int pct, .int less, .ref px, .ref py, .int pn, .ref qx, .ref qy, .int qn, .ref ml]))]) [0] rfl
    have hD9 := hD.sub (ws' := [(h0, .inr (0, [.ref ta, .ref ra, .int pct, .int less, .ref px, .ref py, .int pn, .ref qx, .ref qy, .int qn, .ref ml]))]) [0] (by decide) rfl
    exact W.vret hx hb hr (fun t ht hW => ⟨_, _, rfl, ⟨by first | rfl | (simp only [e_0, e_1]; try rfl), by first | rfl | (simp only [e_0, e_1]; try rfl)⟩, by rw [ht]; exact hP9, hD9, hS.F ht⟩) hS.2.2 dN_set_40

def gN_place (xf : Nat → Int32) (yf : Nat → Int32) (qn : Int32) (x : Int32) (y : Int32) : Int32 := qn + 1
def gN_place_9 (xf : Nat → Int32) (yf : Nat → Int32) (qn : Int32) (x : Int32) (y : Int32) : Int32 := qn + 1
def gN_place_x (xf : Nat → Int32) (yf : Nat → Int32) (qn : Int32) (x : Int32) (y : Int32) : Nat → Int32 := upd xf qn.toNatClampNeg x
def gN_place_y (xf : Nat → Int32) (yf : Nat → Int32) (qn : Int32) (x : Int32) (y : Int32) : Nat → Int32 := upd yf qn.toNatClampNeg y
set_option maxHeartbeats 4000000 in
set_option maxRecDepth 100000 in
theorem cN_place (l : Launch) {s0 : State} {dC : Nat → ClassId} {dI : Nat → Nat → Nat} {cI cC cL : ClassId} (E : xb_Env l s0 dC dI (xtys cI cC cL)) (sz : Nat) (h0 : Nat) (qx : Nat) (qy : Nat) (ta : Nat) (ra : Nat) (wet : Int32) (less : Int32) (px : Nat) (py : Nat) (pn : Int32) (qn : Int32) (ml : Nat) (xf : Nat → Int32) (yf : Nat → Int32) (x : Int32) (y : Int32) (x1 : ¬ x.toInt64 < 0) (x2 : x.toInt64 ≤ 100000) (y1 : ¬ y.toInt64 < 0) (y2 : y.toInt64 ≤ 100000) (q0 : 0 ≤ qn) (q1 : qn < 32) : Met l yN_place [.code yN_place bN_place 3 (some (.int))] ({ frames := 1, cells := 0, slots := 0, locals := 25 }) (va_Pc [.ref h0, .int x, .int y] (fun U => xb_At s0 U ∧ U.heap.size = sz ∧ va_P (dC, dI) classes [(h0, .inr (0, [.ref ta, .ref ra, .int wet, .int less, .ref px, .ref py, .int pn, .ref qx, .ref qy, .int qn, .ref ml])), (qx, .inl (cI, 32, .inl xf)), (qy, .inl (cI, 32, .inl yf))] U.heap ∧ va_D (fun q => s0.heap.size ≤ q) [(h0, .inr (0, [.ref ta, .ref ra, .int wet, .int less, .ref px, .ref py, .int pn, .ref qx, .ref qy, .int qn, .ref ml])), (qx, .inl (cI, 32, .inl xf)), (qy, .inl (cI, 32, .inl yf))])) (xb_W (dC, dI) (fun v w => v = some (.int (gN_place xf yf qn x y)) ∧ w = [(h0, .inr (0, [.ref ta, .ref ra, .int wet, .int less, .ref px, .ref py, .int pn, .ref qx, .ref qy, .int (gN_place_9 xf yf qn x y), .ref ml])), (qx, .inl (cI, 32, .inl (gN_place_x xf yf qn x y))), (qy, .inl (cI, 32, .inl (gN_place_y xf yf qn x y)))]) (va_A [(h0, .inr (0, [.ref ta, .ref ra, .int wet, .int less, .ref px, .ref py, .int pn, .ref qx, .ref qy, .int qn, .ref ml])), (qx, .inl (cI, 32, .inl xf)), (qy, .inl (cI, 32, .inl yf))] sz)) 0 0 (va_A [(h0, .inr (0, [.ref ta, .ref ra, .int wet, .int less, .ref px, .ref py, .int pn, .ref qx, .ref qy, .int qn, .ref ml])), (qx, .inl (cI, 32, .inl xf)), (qy, .inl (cI, 32, .inl yf))] sz) := by
  refine Met.ofW (cc := bN_place) (maxL := 3) (ret := (some (.int))) (by decide) rfl ?_
  intro p e s m args below meth c s₁ B hml hv
  obtain ⟨rfl, hAt, hsz, hP, hD0⟩ := hv
  have hx := B.exec
  have hb := B.bytes
  have hr := B.returns
  have hts := xb_hts E hAt ([.ref h0, .int x, .int y] : List Value).toArray
  have hown : s.vm.findClass "NailRules" = some m.cls := findClass_of_methodNamed B.named
  have hlocks := B.notSynchronized
  have hK := xb_K E hAt
  subst hsz
  have hA0 := xb_A0 hAt hD0
  have hD := hD0.self (sz := s.heap.size)
  generalize hAe : va_A [(h0, .inr (0, [.ref ta, .ref ra, .int wet, .int less, .ref px, .ref py, .int pn, .ref qx, .ref qy, .int qn, .ref ml])), (qx, .inl (cI, 32, .inl xf)), (qy, .inl (cI, 32, .inl yf))] s.heap.size = A at hD hA0 ⊢
  have hA : ∀ q : Nat, s.heap.size ≤ q → A q := fun q h => by rw [← hAe]; exact Or.inr h
  have hS : va_S A s.heap s.heap [] := va_S.rf
  have hl := lv_entry ([.ref h0, .int x, .int y]) (n := 3) (Nat.le_of_ble_eq_true rfl)
  rw [lg_entry_eq]
  generalize (lg_sl ([.ref h0, .int x, .int y]) ++ List.replicate (3 - (lg_sl ([.ref h0, .int x, .int y])).length) Slot.unset).toArray = ls at hl ⊢
  have hl : lv_has ls 3 [(0, .ref h0), (1, .int x), (2, .int y)] := hl
  refine lv_iload_n hx hb dN_place_0 rfl (lv_at hl 1 rfl) ?_
  refine lv_i2l hx hb dN_place_1 rfl ?_
  refine lv_lconst (v := 0) hx hb dN_place_2 (by decide) ?_
  refine lv_ldc2 (v := 100000) hx hb hown (hts _ xk_437) dN_place_3 ?_
  refine xb_rd (W.runS (As := [.long x.toInt64, .long 0, .long 100000]) (rest := []) ⟨hx, hb, hml, hown, hts⟩ (cN_requireWithin l E x.toInt64 0 100000 (by assumption) (by assumption)) (cwS 3 hts (xb_gi (List.forall_mem_cons.mpr ⟨xk_371, List.forall_mem_cons.mpr ⟨xk_372, List.forall_mem_cons.mpr ⟨xk_40, List.forall_mem_cons.mpr ⟨xk_373, fun _ h => absurd h List.not_mem_nil⟩⟩⟩⟩)) rfl rfl rfl (by decide +kernel) ⟨Nat.le_of_ble_eq_true rfl, Nat.le_of_ble_eq_true rfl⟩) ⟨fun _ _ _ _ q => q, fun U hU hW => ⟨rfl, xb_atS hAt hS hA0 hU hW, fun k q h => by simp at h⟩⟩ rfl rfl hl.1 rfl (lv_room (Nat.le_of_ble_eq_true rfl)) dN_place_6 ⟨Nat.zero_le _, Nat.zero_le _⟩) ?_
  refine lv_iload_n hx hb dN_place_9 rfl (lv_at hl 2 rfl) ?_
  refine lv_i2l hx hb dN_place_10 rfl ?_
  refine lv_lconst (v := 0) hx hb dN_place_11 (by decide) ?_
  refine lv_ldc2 (v := 100000) hx hb hown (hts _ xk_437) dN_place_12 ?_
  refine xb_rd (W.runS (As := [.long y.toInt64, .long 0, .long 100000]) (rest := []) ⟨hx, hb, hml, hown, hts⟩ (cN_requireWithin l E y.toInt64 0 100000 (by assumption) (by assumption)) (cwS 3 hts (xb_gi (List.forall_mem_cons.mpr ⟨xk_371, List.forall_mem_cons.mpr ⟨xk_372, List.forall_mem_cons.mpr ⟨xk_40, List.forall_mem_cons.mpr ⟨xk_373, fun _ h => absurd h List.not_mem_nil⟩⟩⟩⟩)) rfl rfl rfl (by decide +kernel) ⟨Nat.le_of_ble_eq_true rfl, Nat.le_of_ble_eq_true rfl⟩) ⟨fun _ _ _ _ q => q, fun U hU hW => ⟨rfl, xb_atS hAt hS hA0 hU hW, fun k q h => by simp at h⟩⟩ rfl rfl hl.1 rfl (lv_room (Nat.le_of_ble_eq_true rfl)) dN_place_15 ⟨Nat.zero_le _, Nat.zero_le _⟩) ?_
  refine lv_aload_n hx hb dN_place_18 rfl (lv_at hl 0 rfl) ?_
  refine va_get (D := (dC, dI)) (ci := 0) (v := .int qn) (C := xR_N) (T := xF_N) (N := 11) hx hb hts xi_N hown hK hP 0 rfl rfl 9 (by decide) (hts _ xk_123) (fun _ h9 => h9) rfl dN_place_19 ?_
  refine lv_bipush (v := 32) hx hb dN_place_22 (by decide) ?_
  refine lv_icmp_lt (tgt := 37) hx hb dN_place_24 (by decide) (fun c_1 => ?_) (fun c_1 => ?_)
  · refine lv_aload_n hx hb dN_place_37 rfl (lv_at hl 0 rfl) ?_
    refine va_get (D := (dC, dI)) (ci := 0) (v := .ref qx) (C := xR_N) (T := xF_N) (N := 11) hx hb hts xi_N hown hK hP 0 rfl rfl 7 (by decide) (hts _ xk_121) (fun _ h9 => h9) rfl dN_place_38 ?_
    refine lv_aload_n hx hb dN_place_41 rfl (lv_at hl 0 rfl) ?_
    refine va_get (D := (dC, dI)) (ci := 0) (v := .int qn) (C := xR_N) (T := xF_N) (N := 11) hx hb hts xi_N hown hK hP 0 rfl rfl 9 (by decide) (hts _ xk_123) (fun _ h9 => h9) rfl dN_place_42 ?_
    refine lv_iload_n hx hb dN_place_45 rfl (lv_at hl 1 rfl) ?_
    have o_2 : vp_in qn 32 := by exact xp_lt (by decide) q0 q1
    refine va_iast hx hb hK hP hD hS 1 0 rfl rfl o_2 dN_place_46 (fun H locs hP hD hS => ?_)
    have hP : va_P (dC, dI) classes [(h0, .inr (0, [.ref ta, .ref ra, .int wet, .int less, .ref px, .ref py, .int pn, .ref qx, .ref qy, .int qn, .ref ml])), (qx, .inl (cI, 32, .inl (upd xf qn.toNatClampNeg x))), (qy, .inl (cI, 32, .inl yf))] H := hP
    have hD : va_D A [(h0, .inr (0, [.ref ta, .ref ra, .int wet, .int less, .ref px, .ref py, .int pn, .ref qx, .ref qy, .int qn, .ref ml])), (qx, .inl (cI, 32, .inl (upd xf qn.toNatClampNeg x))), (qy, .inl (cI, 32, .inl yf))] := hD
    refine lv_aload_n hx hb dN_place_47 rfl (lv_at hl 0 rfl) ?_
    refine va_get (D := (dC, dI)) (ci := 0) (v := .ref qy) (C := xR_N) (T := xF_N) (N := 11) hx hb hts xi_N hown hK hP 0 rfl rfl 8 (by decide) (hts _ xk_122) (fun _ h9 => h9) rfl dN_place_48 ?_
    refine lv_aload_n hx hb dN_place_51 rfl (lv_at hl 0 rfl) ?_
    refine va_get (D := (dC, dI)) (ci := 0) (v := .int qn) (C := xR_N) (T := xF_N) (N := 11) hx hb hts xi_N hown hK hP 0 rfl rfl 9 (by decide) (hts _ xk_123) (fun _ h9 => h9) rfl dN_place_52 ?_
    refine lv_iload_n hx hb dN_place_55 rfl (lv_at hl 2 rfl) ?_
    have o_3 : vp_in qn 32 := by exact xp_lt (by decide) q0 q1
    refine va_iast hx hb hK hP hD hS 2 0 rfl rfl o_3 dN_place_56 (fun H locs hP hD hS => ?_)
    have hP : va_P (dC, dI) classes [(h0, .inr (0, [.ref ta, .ref ra, .int wet, .int less, .ref px, .ref py, .int pn, .ref qx, .ref qy, .int qn, .ref ml])), (qx, .inl (cI, 32, .inl (upd xf qn.toNatClampNeg x))), (qy, .inl (cI, 32, .inl (upd yf qn.toNatClampNeg y)))] H := hP
    have hD : va_D A [(h0, .inr (0, [.ref ta, .ref ra, .int wet, .int less, .ref px, .ref py, .int pn, .ref qx, .ref qy, .int qn, .ref ml])), (qx, .inl (cI, 32, .inl (upd xf qn.toNatClampNeg x))), (qy, .inl (cI, 32, .inl (upd yf qn.toNatClampNeg y)))] := hD
    refine lv_aload_n hx hb dN_place_57 rfl (lv_at hl 0 rfl) ?_
    refine lv_dup hx hb dN_place_58 rfl ?_
    refine va_get (D := (dC, dI)) (ci := 0) (v := .int qn) (C := xR_N) (T := xF_N) (N := 11) hx hb hts xi_N hown hK hP 0 rfl rfl 9 (by decide) (hts _ xk_123) (fun _ h9 => h9) rfl dN_place_59 ?_
    refine lv_iconst (v := 1) hx hb dN_place_62 (by decide) ?_
    refine lv_iadd hx hb dN_place_63 ?_
    refine va_put (D := (dC, dI)) (ci := 0) (v := .int (qn + 1)) (ty := .int) (C := xR_N) (T := xF_N) (N := 11) hx hb hts xi_N xt_N xt_N_ok xn_N hown hK hP hD hS 0 rfl rfl 9 (by decide) (hts _ xk_123) (fun _ h9 => h9) rfl (by decide +kernel) rfl rfl (Nat.le_of_ble_eq_true rfl) dN_place_64 (fun H locs hP hD hS => ?_)
    have hP : va_P (dC, dI) classes [(h0, .inr (0, [.ref ta, .ref ra, .int wet, .int less, .ref px, .ref py, .int pn, .ref qx, .ref qy, .int (qn + 1), .ref ml])), (qx, .inl (cI, 32, .inl (upd xf qn.toNatClampNeg x))), (qy, .inl (cI, 32, .inl (upd yf qn.toNatClampNeg y)))] H := hP
    have hD : va_D A [(h0, .inr (0, [.ref ta, .ref ra, .int wet, .int less, .ref px, .ref py, .int pn, .ref qx, .ref qy, .int (qn + 1), .ref ml])), (qx, .inl (cI, 32, .inl (upd xf qn.toNatClampNeg x))), (qy, .inl (cI, 32, .inl (upd yf qn.toNatClampNeg y)))] := hD
    refine lv_aload_n hx hb dN_place_67 rfl (lv_at hl 0 rfl) ?_
    refine va_get (D := (dC, dI)) (ci := 0) (v := .int (qn + 1)) (C := xR_N) (T := xF_N) (N := 11) hx hb hts xi_N hown hK hP 0 rfl rfl 9 (by decide) (hts _ xk_123) (fun _ h9 => h9) rfl dN_place_68 ?_
    have e_0 : gN_place xf yf qn x y = (qn + 1) := rfl
    have e_1 : gN_place_9 xf yf qn x y = (qn + 1) := rfl
    have e_2 : gN_place_x xf yf qn x y = (upd xf qn.toNatClampNeg x) := rfl
    have e_3 : gN_place_y xf yf qn x y = (upd yf qn.toNatClampNeg y) := rfl
    have hP9 := hP.sub (ws' := [(h0, .inr (0, [.ref ta, .ref ra, .int wet, .int less, .ref px, .ref py, .int pn, .ref qx, .ref qy, .int (qn + 1), .ref ml])), (qx, .inl (cI, 32, .inl (upd xf qn.toNatClampNeg x))), (qy, .inl (cI, 32, .inl (upd yf qn.toNatClampNeg y)))]) [0, 1, 2] rfl
    have hD9 := hD.sub (ws' := [(h0, .inr (0, [.ref ta, .ref ra, .int wet, .int less, .ref px, .ref py, .int pn, .ref qx, .ref qy, .int (qn + 1), .ref ml])), (qx, .inl (cI, 32, .inl (upd xf qn.toNatClampNeg x))), (qy, .inl (cI, 32, .inl (upd yf qn.toNatClampNeg y)))]) [0, 1, 2] (by decide) rfl
    exact W.iret (v := (qn + 1)) hx hb hr (fun t ht hW => ⟨_, _, rfl, ⟨by first | rfl | (simp only [e_0, e_1, e_2, e_3]; try rfl), by first | rfl | (simp only [e_0, e_1, e_2, e_3]; try rfl)⟩, by rw [ht]; exact hP9, hD9, hS.F ht⟩) hS.2.2 dN_place_71
  · exact absurd q1 (by assumption)

def gR_unit (tf : Nat → Int32) (th : Int32) (zs : Int32) (u : Int32) : Bool := if u < 32 then (false) else (if 126 < u then (false) else (if 200 ≤ zs then (false) else (true)))
def gR_unit_0 (tf : Nat → Int32) (th : Int32) (zs : Int32) (u : Int32) : Int32 := if u < 32 then ((0)) else (if 126 < u then ((0)) else (if 200 ≤ zs then ((0)) else ((0))))
def gR_unit_2 (tf : Nat → Int32) (th : Int32) (zs : Int32) (u : Int32) : Int32 := if u < 32 then (zs) else (if 126 < u then (zs) else (if 200 ≤ zs then (zs) else (zs + 1)))
def gR_unit_f (tf : Nat → Int32) (th : Int32) (zs : Int32) (u : Int32) : Nat → Int32 := if u < 32 then (tf) else (if 126 < u then (tf) else (if 200 ≤ zs then (tf) else (upd tf zs.toNatClampNeg u)))
set_option maxHeartbeats 4000000 in
set_option maxRecDepth 100000 in
theorem cR_unit (l : Launch) {s0 : State} {dC : Nat → ClassId} {dI : Nat → Nat → Nat} {cI cC cL : ClassId} (E : xb_Env l s0 dC dI (xtys cI cC cL)) (sz : Nat) (h0 : Nat) (ta : Nat) (th : Int32) (zs : Int32) (po : Int32) (fa : Int32) (da : Nat) (ra : Nat) (la : Nat) (we : Int64) (le : Int64) (pk : Int32) (pm : Int32) (co : Int32) (pa : Nat) (pl : Int32) (xa : Nat) (ya : Nat) (mb : Int32) (ea : Nat) (wa : Nat) (tf : Nat → Int32) (u : Int32) (hz : 0 ≤ zs) : Met l yR_unit [.code yR_unit bR_unit 3 (some (.boolean))] ({ frames := 0, cells := 0, slots := 0, locals := 0 }) (va_Pc [.ref h0, .int u] (fun U => xb_At s0 U ∧ U.heap.size = sz ∧ va_P (dC, dI) classes [(h0, .inr (3, [.int th, .ref ta, .int zs, .int po, .int fa, .ref da, .ref ra, .ref la, .long we, .long le, .int pk, .int pm, .int co, .ref pa, .int pl, .ref xa, .ref ya, .int mb, .ref ea, .ref wa])), (ta, .inl (cI, 200, .inl tf))] U.heap ∧ va_D (fun q => s0.heap.size ≤ q) [(h0, .inr (3, [.int th, .ref ta, .int zs, .int po, .int fa, .ref da, .ref ra, .ref la, .long we, .long le, .int pk, .int pm, .int co, .ref pa, .int pl, .ref xa, .ref ya, .int mb, .ref ea, .ref wa])), (ta, .inl (cI, 200, .inl tf))])) (xb_W (dC, dI) (fun v w => v = some (.int (xb_bi (gR_unit tf th zs u))) ∧ w = [(h0, .inr (3, [.int (gR_unit_0 tf th zs u), .ref ta, .int (gR_unit_2 tf th zs u), .int po, .int fa, .ref da, .ref ra, .ref la, .long we, .long le, .int pk, .int pm, .int co, .ref pa, .int pl, .ref xa, .ref ya, .int mb, .ref ea, .ref wa])), (ta, .inl (cI, 200, .inl (gR_unit_f tf th zs u)))]) (va_A [(h0, .inr (3, [.int th, .ref ta, .int zs, .int po, .int fa, .ref da, .ref ra, .ref la, .long we, .long le, .int pk, .int pm, .int co, .ref pa, .int pl, .ref xa, .ref ya, .int mb, .ref ea, .ref wa])), (ta, .inl (cI, 200, .inl tf))] sz)) 0 0 (va_A [(h0, .inr (3, [.int th, .ref ta, .int zs, .int po, .int fa, .ref da, .ref ra, .ref la, .long we, .long le, .int pk, .int pm, .int co, .ref pa, .int pl, .ref xa, .ref ya, .int mb, .ref ea, .ref wa])), (ta, .inl (cI, 200, .inl tf))] sz) := by
  refine Met.ofW (cc := bR_unit) (maxL := 3) (ret := (some (.boolean))) (by decide) rfl ?_
  intro p e s m args below meth c s₁ B hml hv
  obtain ⟨rfl, hAt, hsz, hP, hD0⟩ := hv
  have hx := B.exec
  have hb := B.bytes
  have hr := B.returns
  have hts := xb_hts E hAt ([.ref h0, .int u] : List Value).toArray
  have hown : s.vm.findClass "NailRulesModel" = some m.cls := findClass_of_methodNamed B.named
  have hlocks := B.notSynchronized
  have hK := xb_K E hAt
  subst hsz
  have hA0 := xb_A0 hAt hD0
  have hD := hD0.self (sz := s.heap.size)
  generalize hAe : va_A [(h0, .inr (3, [.int th, .ref ta, .int zs, .int po, .int fa, .ref da, .ref ra, .ref la, .long we, .long le, .int pk, .int pm, .int co, .ref pa, .int pl, .ref xa, .ref ya, .int mb, .ref ea, .ref wa])), (ta, .inl (cI, 200, .inl tf))] s.heap.size = A at hD hA0 ⊢
  have hA : ∀ q : Nat, s.heap.size ≤ q → A q := fun q h => by rw [← hAe]; exact Or.inr h
  have hS : va_S A s.heap s.heap [] := va_S.rf
  have hl := lv_entry ([.ref h0, .int u]) (n := 3) (Nat.le_of_ble_eq_true rfl)
  rw [lg_entry_eq]
  generalize (lg_sl ([.ref h0, .int u]) ++ List.replicate (3 - (lg_sl ([.ref h0, .int u])).length) Slot.unset).toArray = ls at hl ⊢
  have hl : lv_has ls 3 [(0, .ref h0), (1, .int u)] := hl
  refine lv_aload_n hx hb dR_unit_0 rfl (lv_at hl 0 rfl) ?_
  refine lv_iconst (v := 0) hx hb dR_unit_1 (by decide) ?_
  refine va_put (D := (dC, dI)) (ci := 3) (v := .int 0) (ty := .int) (C := xR_R) (T := xF_R) (N := 20) hx hb hts xi_R xt_R xt_R_ok xn_R hown hK hP hD hS 0 rfl rfl 0 (by decide) (hts _ xk_646) (fun _ h9 => h9) rfl (by decide +kernel) rfl rfl (Nat.le_of_ble_eq_true rfl) dR_unit_2 (fun H locs hP hD hS => ?_)
  have hP : va_P (dC, dI) classes [(h0, .inr (3, [.int 0, .ref ta, .int zs, .int po, .int fa, .ref da, .ref ra, .ref la, .long we, .long le, .int pk, .int pm, .int co, .ref pa, .int pl, .ref xa, .ref ya, .int mb, .ref ea, .ref wa])), (ta, .inl (cI, 200, .inl tf))] H := hP
  have hD : va_D A [(h0, .inr (3, [.int 0, .ref ta, .int zs, .int po, .int fa, .ref da, .ref ra, .ref la, .long we, .long le, .int pk, .int pm, .int co, .ref pa, .int pl, .ref xa, .ref ya, .int mb, .ref ea, .ref wa])), (ta, .inl (cI, 200, .inl tf))] := hD
  refine lv_iload_n hx hb dR_unit_5 rfl (lv_at hl 1 rfl) ?_
  refine lv_bipush (v := 32) hx hb dR_unit_6 (by decide) ?_
  refine lv_icmp_lt (tgt := 31) hx hb dR_unit_8 (by decide) (fun c_1 => ?_) (fun c_1 => ?_)
  · refine lv_iconst (v := 0) hx hb dR_unit_31 (by decide) ?_
    refine lv_istore_n (lv' := [(2, .int 0), (0, .ref h0), (1, .int u)]) hx hb dR_unit_32 rfl hl (by decide) rfl (fun ls hl => ?_)
    refine lv_iload_n hx hb dR_unit_33 rfl (lv_at hl 0 rfl) ?_
    refine lv_if_eq (tgt := 57) hx hb dR_unit_34 (by decide) (fun c_2 => ?_) (fun c_2 => ?_)
    · refine lv_iload_n hx hb dR_unit_57 rfl (lv_at hl 0 rfl) ?_
      have e_0 : gR_unit tf th zs u = false := (if_pos c_1).trans (rfl)
      have e_1 : gR_unit_0 tf th zs u = (0 : Int32) := (if_pos c_1).trans (rfl)
      have e_2 : gR_unit_2 tf th zs u = zs := (if_pos c_1).trans (rfl)
      have e_3 : gR_unit_f tf th zs u = tf := (if_pos c_1).trans (rfl)
      have hP9 := hP.sub (ws' := [(h0, .inr (3, [.int 0, .ref ta, .int zs, .int po, .int fa, .ref da, .ref ra, .ref la, .long we, .long le, .int pk, .int pm, .int co, .ref pa, .int pl, .ref xa, .ref ya, .int mb, .ref ea, .ref wa])), (ta, .inl (cI, 200, .inl tf))]) [0, 1] rfl
      have hD9 := hD.sub (ws' := [(h0, .inr (3, [.int 0, .ref ta, .int zs, .int po, .int fa, .ref da, .ref ra, .ref la, .long we, .long le, .int pk, .int pm, .int co, .ref pa, .int pl, .ref xa, .ref ya, .int mb, .ref ea, .ref wa])), (ta, .inl (cI, 200, .inl tf))]) [0, 1] (by decide) rfl
      exact W.zret (v := 0) hx hb hr (by decide) (fun t ht hW => ⟨_, _, rfl, ⟨by first | rfl | (simp only [e_0, e_1, e_2, e_3]; try rfl), by first | rfl | (simp only [e_0, e_1, e_2, e_3]; try rfl)⟩, by rw [ht]; exact hP9, hD9, hS.F ht⟩) hS.2.2 dR_unit_58
    · exact absurd c_2 (by decide)
  · refine lv_iload_n hx hb dR_unit_11 rfl (lv_at hl 1 rfl) ?_
    refine lv_bipush (v := 126) hx hb dR_unit_12 (by decide) ?_
    refine lv_icmp_gt (tgt := 31) hx hb dR_unit_14 (by decide) (fun c_3 => ?_) (fun c_3 => ?_)
    · refine lv_iconst (v := 0) hx hb dR_unit_31 (by decide) ?_
      refine lv_istore_n (lv' := [(2, .int 0), (0, .ref h0), (1, .int u)]) hx hb dR_unit_32 rfl hl (by decide) rfl (fun ls hl => ?_)
      refine lv_iload_n hx hb dR_unit_33 rfl (lv_at hl 0 rfl) ?_
      refine lv_if_eq (tgt := 57) hx hb dR_unit_34 (by decide) (fun c_4 => ?_) (fun c_4 => ?_)
      · refine lv_iload_n hx hb dR_unit_57 rfl (lv_at hl 0 rfl) ?_
        have e_0 : gR_unit tf th zs u = false := (if_neg c_1).trans ((if_pos c_3).trans (rfl))
        have e_1 : gR_unit_0 tf th zs u = (0 : Int32) := (if_neg c_1).trans ((if_pos c_3).trans (rfl))
        have e_2 : gR_unit_2 tf th zs u = zs := (if_neg c_1).trans ((if_pos c_3).trans (rfl))
        have e_3 : gR_unit_f tf th zs u = tf := (if_neg c_1).trans ((if_pos c_3).trans (rfl))
        have hP9 := hP.sub (ws' := [(h0, .inr (3, [.int 0, .ref ta, .int zs, .int po, .int fa, .ref da, .ref ra, .ref la, .long we, .long le, .int pk, .int pm, .int co, .ref pa, .int pl, .ref xa, .ref ya, .int mb, .ref ea, .ref wa])), (ta, .inl (cI, 200, .inl tf))]) [0, 1] rfl
        have hD9 := hD.sub (ws' := [(h0, .inr (3, [.int 0, .ref ta, .int zs, .int po, .int fa, .ref da, .ref ra, .ref la, .long we, .long le, .int pk, .int pm, .int co, .ref pa, .int pl, .ref xa, .ref ya, .int mb, .ref ea, .ref wa])), (ta, .inl (cI, 200, .inl tf))]) [0, 1] (by decide) rfl
        exact W.zret (v := 0) hx hb hr (by decide) (fun t ht hW => ⟨_, _, rfl, ⟨by first | rfl | (simp only [e_0, e_1, e_2, e_3]; try rfl), by first | rfl | (simp only [e_0, e_1, e_2, e_3]; try rfl)⟩, by rw [ht]; exact hP9, hD9, hS.F ht⟩) hS.2.2 dR_unit_58
      · exact absurd c_4 (by decide)
    · refine lv_aload_n hx hb dR_unit_17 rfl (lv_at hl 0 rfl) ?_
      refine va_get (D := (dC, dI)) (ci := 3) (v := .int zs) (C := xR_R) (T := xF_R) (N := 20) hx hb hts xi_R hown hK hP 0 rfl rfl 2 (by decide) (hts _ xk_648) (fun _ h9 => h9) rfl dR_unit_18 ?_
      refine lv_sipush (v := 200) hx hb dR_unit_21 (by decide) ?_
      refine lv_icmp_ge (tgt := 31) hx hb dR_unit_24 (by decide) (fun c_5 => ?_) (fun c_5 => ?_)
      · refine lv_iconst (v := 0) hx hb dR_unit_31 (by decide) ?_
        refine lv_istore_n (lv' := [(2, .int 0), (0, .ref h0), (1, .int u)]) hx hb dR_unit_32 rfl hl (by decide) rfl (fun ls hl => ?_)
        refine lv_iload_n hx hb dR_unit_33 rfl (lv_at hl 0 rfl) ?_
        refine lv_if_eq (tgt := 57) hx hb dR_unit_34 (by decide) (fun c_6 => ?_) (fun c_6 => ?_)
        · refine lv_iload_n hx hb dR_unit_57 rfl (lv_at hl 0 rfl) ?_
          have e_0 : gR_unit tf th zs u = false := (if_neg c_1).trans ((if_neg c_3).trans ((if_pos c_5).trans (rfl)))
          have e_1 : gR_unit_0 tf th zs u = (0 : Int32) := (if_neg c_1).trans ((if_neg c_3).trans ((if_pos c_5).trans (rfl)))
          have e_2 : gR_unit_2 tf th zs u = zs := (if_neg c_1).trans ((if_neg c_3).trans ((if_pos c_5).trans (rfl)))
          have e_3 : gR_unit_f tf th zs u = tf := (if_neg c_1).trans ((if_neg c_3).trans ((if_pos c_5).trans (rfl)))
          have hP9 := hP.sub (ws' := [(h0, .inr (3, [.int 0, .ref ta, .int zs, .int po, .int fa, .ref da, .ref ra, .ref la, .long we, .long le, .int pk, .int pm, .int co, .ref pa, .int pl, .ref xa, .ref ya, .int mb, .ref ea, .ref wa])), (ta, .inl (cI, 200, .inl tf))]) [0, 1] rfl
          have hD9 := hD.sub (ws' := [(h0, .inr (3, [.int 0, .ref ta, .int zs, .int po, .int fa, .ref da, .ref ra, .ref la, .long we, .long le, .int pk, .int pm, .int co, .ref pa, .int pl, .ref xa, .ref ya, .int mb, .ref ea, .ref wa])), (ta, .inl (cI, 200, .inl tf))]) [0, 1] (by decide) rfl
          exact W.zret (v := 0) hx hb hr (by decide) (fun t ht hW => ⟨_, _, rfl, ⟨by first | rfl | (simp only [e_0, e_1, e_2, e_3]; try rfl), by first | rfl | (simp only [e_0, e_1, e_2, e_3]; try rfl)⟩, by rw [ht]; exact hP9, hD9, hS.F ht⟩) hS.2.2 dR_unit_58
        · exact absurd c_6 (by decide)
      · refine lv_iconst (v := 1) hx hb dR_unit_27 (by decide) ?_
        refine lv_goto (tgt := 32) hx hb dR_unit_28 (by decide) ?_
        refine lv_istore_n (lv' := [(2, .int 1), (0, .ref h0), (1, .int u)]) hx hb dR_unit_32 rfl hl (by decide) rfl (fun ls hl => ?_)
        refine lv_iload_n hx hb dR_unit_33 rfl (lv_at hl 0 rfl) ?_
        refine lv_if_eq (tgt := 57) hx hb dR_unit_34 (by decide) (fun c_7 => ?_) (fun c_7 => ?_)
        · exact absurd c_7 (by decide)
        · refine lv_aload_n hx hb dR_unit_37 rfl (lv_at hl 1 rfl) ?_
          refine va_get (D := (dC, dI)) (ci := 3) (v := .ref ta) (C := xR_R) (T := xF_R) (N := 20) hx hb hts xi_R hown hK hP 0 rfl rfl 1 (by decide) (hts _ xk_647) (fun _ h9 => h9) rfl dR_unit_38 ?_
          refine lv_aload_n hx hb dR_unit_41 rfl (lv_at hl 1 rfl) ?_
          refine va_get (D := (dC, dI)) (ci := 3) (v := .int zs) (C := xR_R) (T := xF_R) (N := 20) hx hb hts xi_R hown hK hP 0 rfl rfl 2 (by decide) (hts _ xk_648) (fun _ h9 => h9) rfl dR_unit_42 ?_
          refine lv_iload_n hx hb dR_unit_45 rfl (lv_at hl 2 rfl) ?_
          have o_8 : vp_in zs 200 := by exact xp_app hz (by assumption)
          refine va_iast hx hb hK hP hD hS 1 0 rfl rfl o_8 dR_unit_46 (fun H locs hP hD hS => ?_)
          have hP : va_P (dC, dI) classes [(h0, .inr (3, [.int 0, .ref ta, .int zs, .int po, .int fa, .ref da, .ref ra, .ref la, .long we, .long le, .int pk, .int pm, .int co, .ref pa, .int pl, .ref xa, .ref ya, .int mb, .ref ea, .ref wa])), (ta, .inl (cI, 200, .inl (upd tf zs.toNatClampNeg u)))] H := hP
          have hD : va_D A [(h0, .inr (3, [.int 0, .ref ta, .int zs, .int po, .int fa, .ref da, .ref ra, .ref la, .long we, .long le, .int pk, .int pm, .int co, .ref pa, .int pl, .ref xa, .ref ya, .int mb, .ref ea, .ref wa])), (ta, .inl (cI, 200, .inl (upd tf zs.toNatClampNeg u)))] := hD
          refine lv_aload_n hx hb dR_unit_47 rfl (lv_at hl 1 rfl) ?_
          refine lv_dup hx hb dR_unit_48 rfl ?_
          refine va_get (D := (dC, dI)) (ci := 3) (v := .int zs) (C := xR_R) (T := xF_R) (N := 20) hx hb hts xi_R hown hK hP 0 rfl rfl 2 (by decide) (hts _ xk_648) (fun _ h9 => h9) rfl dR_unit_49 ?_
          refine lv_iconst (v := 1) hx hb dR_unit_52 (by decide) ?_
          refine lv_iadd hx hb dR_unit_53 ?_
          refine va_put (D := (dC, dI)) (ci := 3) (v := .int (zs + 1)) (ty := .int) (C := xR_R) (T := xF_R) (N := 20) hx hb hts xi_R xt_R xt_R_ok xn_R hown hK hP hD hS 0 rfl rfl 2 (by decide) (hts _ xk_648) (fun _ h9 => h9) rfl (by decide +kernel) rfl rfl (Nat.le_of_ble_eq_true rfl) dR_unit_54 (fun H locs hP hD hS => ?_)
          have hP : va_P (dC, dI) classes [(h0, .inr (3, [.int 0, .ref ta, .int (zs + 1), .int po, .int fa, .ref da, .ref ra, .ref la, .long we, .long le, .int pk, .int pm, .int co, .ref pa, .int pl, .ref xa, .ref ya, .int mb, .ref ea, .ref wa])), (ta, .inl (cI, 200, .inl (upd tf zs.toNatClampNeg u)))] H := hP
          have hD : va_D A [(h0, .inr (3, [.int 0, .ref ta, .int (zs + 1), .int po, .int fa, .ref da, .ref ra, .ref la, .long we, .long le, .int pk, .int pm, .int co, .ref pa, .int pl, .ref xa, .ref ya, .int mb, .ref ea, .ref wa])), (ta, .inl (cI, 200, .inl (upd tf zs.toNatClampNeg u)))] := hD
          refine lv_iload_n hx hb dR_unit_57 rfl (lv_at hl 0 rfl) ?_
          have e_0 : gR_unit tf th zs u = true := (if_neg c_1).trans ((if_neg c_3).trans ((if_neg c_5).trans (rfl)))
          have e_1 : gR_unit_0 tf th zs u = (0 : Int32) := (if_neg c_1).trans ((if_neg c_3).trans ((if_neg c_5).trans (rfl)))
          have e_2 : gR_unit_2 tf th zs u = (zs + 1) := (if_neg c_1).trans ((if_neg c_3).trans ((if_neg c_5).trans (rfl)))
          have e_3 : gR_unit_f tf th zs u = (upd tf zs.toNatClampNeg u) := (if_neg c_1).trans ((if_neg c_3).trans ((if_neg c_5).trans (rfl)))
          have hP9 := hP.sub (ws' := [(h0, .inr (3, [.int 0, .ref ta, .int (zs + 1), .int po, .int fa, .ref da, .ref ra, .ref la, .long we, .long le, .int pk, .int pm, .int co, .ref pa, .int pl, .ref xa, .ref ya, .int mb, .ref ea, .ref wa])), (ta, .inl (cI, 200, .inl (upd tf zs.toNatClampNeg u)))]) [0, 1] rfl
          have hD9 := hD.sub (ws' := [(h0, .inr (3, [.int 0, .ref ta, .int (zs + 1), .int po, .int fa, .ref da, .ref ra, .ref la, .long we, .long le, .int pk, .int pm, .int co, .ref pa, .int pl, .ref xa, .ref ya, .int mb, .ref ea, .ref wa])), (ta, .inl (cI, 200, .inl (upd tf zs.toNatClampNeg u)))]) [0, 1] (by decide) rfl
          exact W.zret (v := 1) hx hb hr (by decide) (fun t ht hW => ⟨_, _, rfl, ⟨by first | rfl | (simp only [e_0, e_1, e_2, e_3]; try rfl), by first | rfl | (simp only [e_0, e_1, e_2, e_3]; try rfl)⟩, by rw [ht]; exact hP9, hD9, hS.F ht⟩) hS.2.2 dR_unit_58

def gR_must_3 (po : Int32) (fa : Int32) (is : Int32) : Int32 := if fa = (-1) then (if is = 0 then (if po = (-1) then (po + 1) else (po)) else (if fa = (-1) then (po + 1) else (po))) else (if fa = (-1) then (po + 1) else (po))
def gR_must_4 (po : Int32) (fa : Int32) (is : Int32) : Int32 := if fa = (-1) then (if is = 0 then (if po = (-1) then (po) else (po)) else (if fa = (-1) then (fa) else (fa))) else (if fa = (-1) then (fa) else (fa))
set_option maxHeartbeats 4000000 in
set_option maxRecDepth 100000 in
theorem cR_must (l : Launch) {s0 : State} {dC : Nat → ClassId} {dI : Nat → Nat → Nat} {cI cC cL : ClassId} (E : xb_Env l s0 dC dI (xtys cI cC cL)) (sz : Nat) (h0 : Nat) (th : Int32) (ta : Nat) (zs : Int32) (po : Int32) (fa : Int32) (da : Nat) (ra : Nat) (la : Nat) (we : Int64) (le : Int64) (pk : Int32) (pm : Int32) (co : Int32) (pa : Nat) (pl : Int32) (xa : Nat) (ya : Nat) (mb : Int32) (ea : Nat) (wa : Nat) (is : Int32) : Met l yR_must [.code yR_must bR_must 2 none] ({ frames := 0, cells := 0, slots := 0, locals := 0 }) (va_Pc [.ref h0, .int is] (fun U => xb_At s0 U ∧ U.heap.size = sz ∧ va_P (dC, dI) classes [(h0, .inr (3, [.int th, .ref ta, .int zs, .int po, .int fa, .ref da, .ref ra, .ref la, .long we, .long le, .int pk, .int pm, .int co, .ref pa, .int pl, .ref xa, .ref ya, .int mb, .ref ea, .ref wa]))] U.heap ∧ va_D (fun q => s0.heap.size ≤ q) [(h0, .inr (3, [.int th, .ref ta, .int zs, .int po, .int fa, .ref da, .ref ra, .ref la, .long we, .long le, .int pk, .int pm, .int co, .ref pa, .int pl, .ref xa, .ref ya, .int mb, .ref ea, .ref wa]))])) (xb_W (dC, dI) (fun v w => v = none ∧ w = [(h0, .inr (3, [.int th, .ref ta, .int zs, .int (gR_must_3 po fa is), .int (gR_must_4 po fa is), .ref da, .ref ra, .ref la, .long we, .long le, .int pk, .int pm, .int co, .ref pa, .int pl, .ref xa, .ref ya, .int mb, .ref ea, .ref wa]))]) (va_A [(h0, .inr (3, [.int th, .ref ta, .int zs, .int po, .int fa, .ref da, .ref ra, .ref la, .long we, .long le, .int pk, .int pm, .int co, .ref pa, .int pl, .ref xa, .ref ya, .int mb, .ref ea, .ref wa]))] sz)) 0 0 (va_A [(h0, .inr (3, [.int th, .ref ta, .int zs, .int po, .int fa, .ref da, .ref ra, .ref la, .long we, .long le, .int pk, .int pm, .int co, .ref pa, .int pl, .ref xa, .ref ya, .int mb, .ref ea, .ref wa]))] sz) := by
  refine Met.ofW (cc := bR_must) (maxL := 2) (ret := none) (by decide) rfl ?_
  intro p e s m args below meth c s₁ B hml hv
  obtain ⟨rfl, hAt, hsz, hP, hD0⟩ := hv
  have hx := B.exec
  have hb := B.bytes
  have hr := B.returns
  have hts := xb_hts E hAt ([.ref h0, .int is] : List Value).toArray
  have hown : s.vm.findClass "NailRulesModel" = some m.cls := findClass_of_methodNamed B.named
  have hlocks := B.notSynchronized
  have hK := xb_K E hAt
  subst hsz
  have hA0 := xb_A0 hAt hD0
  have hD := hD0.self (sz := s.heap.size)
  generalize hAe : va_A [(h0, .inr (3, [.int th, .ref ta, .int zs, .int po, .int fa, .ref da, .ref ra, .ref la, .long we, .long le, .int pk, .int pm, .int co, .ref pa, .int pl, .ref xa, .ref ya, .int mb, .ref ea, .ref wa]))] s.heap.size = A at hD hA0 ⊢
  have hA : ∀ q : Nat, s.heap.size ≤ q → A q := fun q h => by rw [← hAe]; exact Or.inr h
  have hS : va_S A s.heap s.heap [] := va_S.rf
  have hl := lv_entry ([.ref h0, .int is]) (n := 2) (Nat.le_of_ble_eq_true rfl)
  rw [lg_entry_eq]
  generalize (lg_sl ([.ref h0, .int is]) ++ List.replicate (2 - (lg_sl ([.ref h0, .int is])).length) Slot.unset).toArray = ls at hl ⊢
  have hl : lv_has ls 2 [(0, .ref h0), (1, .int is)] := hl
  refine lv_aload_n hx hb dR_must_0 rfl (lv_at hl 0 rfl) ?_
  refine va_get (D := (dC, dI)) (ci := 3) (v := .int fa) (C := xR_R) (T := xF_R) (N := 20) hx hb hts xi_R hown hK hP 0 rfl rfl 4 (by decide) (hts _ xk_650) (fun _ h9 => h9) rfl dR_must_1 ?_
  refine lv_iconst (v := (-1)) hx hb dR_must_4 (by decide) ?_
  refine lv_icmp_ne (tgt := 20) hx hb dR_must_5 (by decide) (fun c_1 => ?_) (fun c_1 => ?_)
  · refine lv_aload_n hx hb dR_must_20 rfl (lv_at hl 0 rfl) ?_
    refine va_get (D := (dC, dI)) (ci := 3) (v := .int fa) (C := xR_R) (T := xF_R) (N := 20) hx hb hts xi_R hown hK hP 0 rfl rfl 4 (by decide) (hts _ xk_650) (fun _ h9 => h9) rfl dR_must_21 ?_
    refine lv_iconst (v := (-1)) hx hb dR_must_24 (by decide) ?_
    refine lv_icmp_ne (tgt := 38) hx hb dR_must_25 (by decide) (fun c_2 => ?_) (fun c_2 => ?_)
    · have e_0 : gR_must_3 po fa is = po := (if_neg c_1).trans ((if_neg c_2).trans (rfl))
      have e_1 : gR_must_4 po fa is = fa := (if_neg c_1).trans ((if_neg c_2).trans (rfl))
      have hP9 := hP.sub (ws' := [(h0, .inr (3, [.int th, .ref ta, .int zs, .int po, .int fa, .ref da, .ref ra, .ref la, .long we, .long le, .int pk, .int pm, .int co, .ref pa, .int pl, .ref xa, .ref ya, .int mb, .ref ea, .ref wa]))]) [0] rfl
      have hD9 := hD.sub (ws' := [(h0, .inr (3, [.int th, .ref ta, .int zs, .int po, .int fa, .ref da, .ref ra, .ref la, .long we, .long le, .int pk, .int pm, .int co, .ref pa, .int pl, .ref xa, .ref ya, .int mb, .ref ea, .ref wa]))]) [0] (by decide) rfl
      exact W.vret hx hb hr (fun t ht hW => ⟨_, _, rfl, ⟨by first | rfl | (simp only [e_0, e_1]; try rfl), by first | rfl | (simp only [e_0, e_1]; try rfl)⟩, by rw [ht]; exact hP9, hD9, hS.F ht⟩) hS.2.2 dR_must_38
    · refine lv_aload_n hx hb dR_must_28 rfl (lv_at hl 0 rfl) ?_
      refine lv_dup hx hb dR_must_29 rfl ?_
      refine va_get (D := (dC, dI)) (ci := 3) (v := .int po) (C := xR_R) (T := xF_R) (N := 20) hx hb hts xi_R hown hK hP 0 rfl rfl 3 (by decide) (hts _ xk_649) (fun _ h9 => h9) rfl dR_must_30 ?_
      refine lv_iconst (v := 1) hx hb dR_must_33 (by decide) ?_
      refine lv_iadd hx hb dR_must_34 ?_
      refine va_put (D := (dC, dI)) (ci := 3) (v := .int (po + 1)) (ty := .int) (C := xR_R) (T := xF_R) (N := 20) hx hb hts xi_R xt_R xt_R_ok xn_R hown hK hP hD hS 0 rfl rfl 3 (by decide) (hts _ xk_649) (fun _ h9 => h9) rfl (by decide +kernel) rfl rfl (Nat.le_of_ble_eq_true rfl) dR_must_35 (fun H locs hP hD hS => ?_)
      have hP : va_P (dC, dI) classes [(h0, .inr (3, [.int th, .ref ta, .int zs, .int (po + 1), .int fa, .ref da, .ref ra, .ref la, .long we, .long le, .int pk, .int pm, .int co, .ref pa, .int pl, .ref xa, .ref ya, .int mb, .ref ea, .ref wa]))] H := hP
      have hD : va_D A [(h0, .inr (3, [.int th, .ref ta, .int zs, .int (po + 1), .int fa, .ref da, .ref ra, .ref la, .long we, .long le, .int pk, .int pm, .int co, .ref pa, .int pl, .ref xa, .ref ya, .int mb, .ref ea, .ref wa]))] := hD
      have e_0 : gR_must_3 po fa is = (po + 1) := (if_neg c_1).trans ((if_pos c_2).trans (rfl))
      have e_1 : gR_must_4 po fa is = fa := (if_neg c_1).trans ((if_pos c_2).trans (rfl))
      have hP9 := hP.sub (ws' := [(h0, .inr (3, [.int th, .ref ta, .int zs, .int (po + 1), .int fa, .ref da, .ref ra, .ref la, .long we, .long le, .int pk, .int pm, .int co, .ref pa, .int pl, .ref xa, .ref ya, .int mb, .ref ea, .ref wa]))]) [0] rfl
      have hD9 := hD.sub (ws' := [(h0, .inr (3, [.int th, .ref ta, .int zs, .int (po + 1), .int fa, .ref da, .ref ra, .ref la, .long we, .long le, .int pk, .int pm, .int co, .ref pa, .int pl, .ref xa, .ref ya, .int mb, .ref ea, .ref wa]))]) [0] (by decide) rfl
      exact W.vret hx hb hr (fun t ht hW => ⟨_, _, rfl, ⟨by first | rfl | (simp only [e_0, e_1]; try rfl), by first | rfl | (simp only [e_0, e_1]; try rfl)⟩, by rw [ht]; exact hP9, hD9, hS.F ht⟩) hS.2.2 dR_must_38
  · refine lv_iload_n hx hb dR_must_8 rfl (lv_at hl 1 rfl) ?_
    refine lv_if_ne (tgt := 20) hx hb dR_must_9 (by decide) (fun c_3 => ?_) (fun c_3 => ?_)
    · refine lv_aload_n hx hb dR_must_20 rfl (lv_at hl 0 rfl) ?_
      refine va_get (D := (dC, dI)) (ci := 3) (v := .int fa) (C := xR_R) (T := xF_R) (N := 20) hx hb hts xi_R hown hK hP 0 rfl rfl 4 (by decide) (hts _ xk_650) (fun _ h9 => h9) rfl dR_must_21 ?_
      refine lv_iconst (v := (-1)) hx hb dR_must_24 (by decide) ?_
      refine lv_icmp_ne (tgt := 38) hx hb dR_must_25 (by decide) (fun c_4 => ?_) (fun c_4 => ?_)
      · have e_0 : gR_must_3 po fa is = po := (if_pos c_1).trans ((if_neg c_3).trans ((if_neg c_4).trans (rfl)))
        have e_1 : gR_must_4 po fa is = fa := (if_pos c_1).trans ((if_neg c_3).trans ((if_neg c_4).trans (rfl)))
        have hP9 := hP.sub (ws' := [(h0, .inr (3, [.int th, .ref ta, .int zs, .int po, .int fa, .ref da, .ref ra, .ref la, .long we, .long le, .int pk, .int pm, .int co, .ref pa, .int pl, .ref xa, .ref ya, .int mb, .ref ea, .ref wa]))]) [0] rfl
        have hD9 := hD.sub (ws' := [(h0, .inr (3, [.int th, .ref ta, .int zs, .int po, .int fa, .ref da, .ref ra, .ref la, .long we, .long le, .int pk, .int pm, .int co, .ref pa, .int pl, .ref xa, .ref ya, .int mb, .ref ea, .ref wa]))]) [0] (by decide) rfl
        exact W.vret hx hb hr (fun t ht hW => ⟨_, _, rfl, ⟨by first | rfl | (simp only [e_0, e_1]; try rfl), by first | rfl | (simp only [e_0, e_1]; try rfl)⟩, by rw [ht]; exact hP9, hD9, hS.F ht⟩) hS.2.2 dR_must_38
      · refine lv_aload_n hx hb dR_must_28 rfl (lv_at hl 0 rfl) ?_
        refine lv_dup hx hb dR_must_29 rfl ?_
        refine va_get (D := (dC, dI)) (ci := 3) (v := .int po) (C := xR_R) (T := xF_R) (N := 20) hx hb hts xi_R hown hK hP 0 rfl rfl 3 (by decide) (hts _ xk_649) (fun _ h9 => h9) rfl dR_must_30 ?_
        refine lv_iconst (v := 1) hx hb dR_must_33 (by decide) ?_
        refine lv_iadd hx hb dR_must_34 ?_
        refine va_put (D := (dC, dI)) (ci := 3) (v := .int (po + 1)) (ty := .int) (C := xR_R) (T := xF_R) (N := 20) hx hb hts xi_R xt_R xt_R_ok xn_R hown hK hP hD hS 0 rfl rfl 3 (by decide) (hts _ xk_649) (fun _ h9 => h9) rfl (by decide +kernel) rfl rfl (Nat.le_of_ble_eq_true rfl) dR_must_35 (fun H locs hP hD hS => ?_)
        have hP : va_P (dC, dI) classes [(h0, .inr (3, [.int th, .ref ta, .int zs, .int (po + 1), .int fa, .ref da, .ref ra, .ref la, .long we, .long le, .int pk, .int pm, .int co, .ref pa, .int pl, .ref xa, .ref ya, .int mb, .ref ea, .ref wa]))] H := hP
        have hD : va_D A [(h0, .inr (3, [.int th, .ref ta, .int zs, .int (po + 1), .int fa, .ref da, .ref ra, .ref la, .long we, .long le, .int pk, .int pm, .int co, .ref pa, .int pl, .ref xa, .ref ya, .int mb, .ref ea, .ref wa]))] := hD
        have e_0 : gR_must_3 po fa is = (po + 1) := (if_pos c_1).trans ((if_neg c_3).trans ((if_pos c_4).trans (rfl)))
        have e_1 : gR_must_4 po fa is = fa := (if_pos c_1).trans ((if_neg c_3).trans ((if_pos c_4).trans (rfl)))
        have hP9 := hP.sub (ws' := [(h0, .inr (3, [.int th, .ref ta, .int zs, .int (po + 1), .int fa, .ref da, .ref ra, .ref la, .long we, .long le, .int pk, .int pm, .int co, .ref pa, .int pl, .ref xa, .ref ya, .int mb, .ref ea, .ref wa]))]) [0] rfl
        have hD9 := hD.sub (ws' := [(h0, .inr (3, [.int th, .ref ta, .int zs, .int (po + 1), .int fa, .ref da, .ref ra, .ref la, .long we, .long le, .int pk, .int pm, .int co, .ref pa, .int pl, .ref xa, .ref ya, .int mb, .ref ea, .ref wa]))]) [0] (by decide) rfl
        exact W.vret hx hb hr (fun t ht hW => ⟨_, _, rfl, ⟨by first | rfl | (simp only [e_0, e_1]; try rfl), by first | rfl | (simp only [e_0, e_1]; try rfl)⟩, by rw [ht]; exact hP9, hD9, hS.F ht⟩) hS.2.2 dR_must_38
    · refine lv_aload_n hx hb dR_must_12 rfl (lv_at hl 0 rfl) ?_
      refine lv_aload_n hx hb dR_must_13 rfl (lv_at hl 0 rfl) ?_
      refine va_get (D := (dC, dI)) (ci := 3) (v := .int po) (C := xR_R) (T := xF_R) (N := 20) hx hb hts xi_R hown hK hP 0 rfl rfl 3 (by decide) (hts _ xk_649) (fun _ h9 => h9) rfl dR_must_14 ?_
      refine va_put (D := (dC, dI)) (ci := 3) (v := .int po) (ty := .int) (C := xR_R) (T := xF_R) (N := 20) hx hb hts xi_R xt_R xt_R_ok xn_R hown hK hP hD hS 0 rfl rfl 4 (by decide) (hts _ xk_650) (fun _ h9 => h9) rfl (by decide +kernel) rfl rfl (Nat.le_of_ble_eq_true rfl) dR_must_17 (fun H locs hP hD hS => ?_)
      have hP : va_P (dC, dI) classes [(h0, .inr (3, [.int th, .ref ta, .int zs, .int po, .int po, .ref da, .ref ra, .ref la, .long we, .long le, .int pk, .int pm, .int co, .ref pa, .int pl, .ref xa, .ref ya, .int mb, .ref ea, .ref wa]))] H := hP
      have hD : va_D A [(h0, .inr (3, [.int th, .ref ta, .int zs, .int po, .int po, .ref da, .ref ra, .ref la, .long we, .long le, .int pk, .int pm, .int co, .ref pa, .int pl, .ref xa, .ref ya, .int mb, .ref ea, .ref wa]))] := hD
      refine lv_aload_n hx hb dR_must_20 rfl (lv_at hl 0 rfl) ?_
      refine va_get (D := (dC, dI)) (ci := 3) (v := .int po) (C := xR_R) (T := xF_R) (N := 20) hx hb hts xi_R hown hK hP 0 rfl rfl 4 (by decide) (hts _ xk_650) (fun _ h9 => h9) rfl dR_must_21 ?_
      refine lv_iconst (v := (-1)) hx hb dR_must_24 (by decide) ?_
      refine lv_icmp_ne (tgt := 38) hx hb dR_must_25 (by decide) (fun c_5 => ?_) (fun c_5 => ?_)
      · have e_0 : gR_must_3 po fa is = po := (if_pos c_1).trans ((if_pos c_3).trans ((if_neg c_5).trans (rfl)))
        have e_1 : gR_must_4 po fa is = po := (if_pos c_1).trans ((if_pos c_3).trans ((if_neg c_5).trans (rfl)))
        have hP9 := hP.sub (ws' := [(h0, .inr (3, [.int th, .ref ta, .int zs, .int po, .int po, .ref da, .ref ra, .ref la, .long we, .long le, .int pk, .int pm, .int co, .ref pa, .int pl, .ref xa, .ref ya, .int mb, .ref ea, .ref wa]))]) [0] rfl
        have hD9 := hD.sub (ws' := [(h0, .inr (3, [.int th, .ref ta, .int zs, .int po, .int po, .ref da, .ref ra, .ref la, .long we, .long le, .int pk, .int pm, .int co, .ref pa, .int pl, .ref xa, .ref ya, .int mb, .ref ea, .ref wa]))]) [0] (by decide) rfl
        exact W.vret hx hb hr (fun t ht hW => ⟨_, _, rfl, ⟨by first | rfl | (simp only [e_0, e_1]; try rfl), by first | rfl | (simp only [e_0, e_1]; try rfl)⟩, by rw [ht]; exact hP9, hD9, hS.F ht⟩) hS.2.2 dR_must_38
      · refine lv_aload_n hx hb dR_must_28 rfl (lv_at hl 0 rfl) ?_
        refine lv_dup hx hb dR_must_29 rfl ?_
        refine va_get (D := (dC, dI)) (ci := 3) (v := .int po) (C := xR_R) (T := xF_R) (N := 20) hx hb hts xi_R hown hK hP 0 rfl rfl 3 (by decide) (hts _ xk_649) (fun _ h9 => h9) rfl dR_must_30 ?_
        refine lv_iconst (v := 1) hx hb dR_must_33 (by decide) ?_
        refine lv_iadd hx hb dR_must_34 ?_
        refine va_put (D := (dC, dI)) (ci := 3) (v := .int (po + 1)) (ty := .int) (C := xR_R) (T := xF_R) (N := 20) hx hb hts xi_R xt_R xt_R_ok xn_R hown hK hP hD hS 0 rfl rfl 3 (by decide) (hts _ xk_649) (fun _ h9 => h9) rfl (by decide +kernel) rfl rfl (Nat.le_of_ble_eq_true rfl) dR_must_35 (fun H locs hP hD hS => ?_)
        have hP : va_P (dC, dI) classes [(h0, .inr (3, [.int th, .ref ta, .int zs, .int (po + 1), .int po, .ref da, .ref ra, .ref la, .long we, .long le, .int pk, .int pm, .int co, .ref pa, .int pl, .ref xa, .ref ya, .int mb, .ref ea, .ref wa]))] H := hP
        have hD : va_D A [(h0, .inr (3, [.int th, .ref ta, .int zs, .int (po + 1), .int po, .ref da, .ref ra, .ref la, .long we, .long le, .int pk, .int pm, .int co, .ref pa, .int pl, .ref xa, .ref ya, .int mb, .ref ea, .ref wa]))] := hD
        have e_0 : gR_must_3 po fa is = (po + 1) := (if_pos c_1).trans ((if_pos c_3).trans ((if_pos c_5).trans (rfl)))
        have e_1 : gR_must_4 po fa is = po := (if_pos c_1).trans ((if_pos c_3).trans ((if_pos c_5).trans (rfl)))
        have hP9 := hP.sub (ws' := [(h0, .inr (3, [.int th, .ref ta, .int zs, .int (po + 1), .int po, .ref da, .ref ra, .ref la, .long we, .long le, .int pk, .int pm, .int co, .ref pa, .int pl, .ref xa, .ref ya, .int mb, .ref ea, .ref wa]))]) [0] rfl
        have hD9 := hD.sub (ws' := [(h0, .inr (3, [.int th, .ref ta, .int zs, .int (po + 1), .int po, .ref da, .ref ra, .ref la, .long we, .long le, .int pk, .int pm, .int co, .ref pa, .int pl, .ref xa, .ref ya, .int mb, .ref ea, .ref wa]))]) [0] (by decide) rfl
        exact W.vret hx hb hr (fun t ht hW => ⟨_, _, rfl, ⟨by first | rfl | (simp only [e_0, e_1]; try rfl), by first | rfl | (simp only [e_0, e_1]; try rfl)⟩, by rw [ht]; exact hP9, hD9, hS.F ht⟩) hS.2.2 dR_must_38

def gR_clear_0  : Int32 := (0)
def gR_clear_14  : Int32 := (0)
set_option maxHeartbeats 4000000 in
set_option maxRecDepth 100000 in
theorem cR_clear (l : Launch) {s0 : State} {dC : Nat → ClassId} {dI : Nat → Nat → Nat} {cI cC cL : ClassId} (E : xb_Env l s0 dC dI (xtys cI cC cL)) (sz : Nat) (h0 : Nat) (th : Int32) (ta : Nat) (zs : Int32) (po : Int32) (fa : Int32) (da : Nat) (ra : Nat) (la : Nat) (we : Int64) (le : Int64) (pk : Int32) (pm : Int32) (co : Int32) (pa : Nat) (pl : Int32) (xa : Nat) (ya : Nat) (mb : Int32) (ea : Nat) (wa : Nat) : Met l yR_clear [.code yR_clear bR_clear 1 none] ({ frames := 0, cells := 0, slots := 0, locals := 0 }) (va_Pc [.ref h0] (fun U => xb_At s0 U ∧ U.heap.size = sz ∧ va_P (dC, dI) classes [(h0, .inr (3, [.int th, .ref ta, .int zs, .int po, .int fa, .ref da, .ref ra, .ref la, .long we, .long le, .int pk, .int pm, .int co, .ref pa, .int pl, .ref xa, .ref ya, .int mb, .ref ea, .ref wa]))] U.heap ∧ va_D (fun q => s0.heap.size ≤ q) [(h0, .inr (3, [.int th, .ref ta, .int zs, .int po, .int fa, .ref da, .ref ra, .ref la, .long we, .long le, .int pk, .int pm, .int co, .ref pa, .int pl, .ref xa, .ref ya, .int mb, .ref ea, .ref wa]))])) (xb_W (dC, dI) (fun v w => v = none ∧ w = [(h0, .inr (3, [.int (gR_clear_0 ), .ref ta, .int zs, .int po, .int fa, .ref da, .ref ra, .ref la, .long we, .long le, .int pk, .int pm, .int co, .ref pa, .int (gR_clear_14 ), .ref xa, .ref ya, .int mb, .ref ea, .ref wa]))]) (va_A [(h0, .inr (3, [.int th, .ref ta, .int zs, .int po, .int fa, .ref da, .ref ra, .ref la, .long we, .long le, .int pk, .int pm, .int co, .ref pa, .int pl, .ref xa, .ref ya, .int mb, .ref ea, .ref wa]))] sz)) 0 0 (va_A [(h0, .inr (3, [.int th, .ref ta, .int zs, .int po, .int fa, .ref da, .ref ra, .ref la, .long we, .long le, .int pk, .int pm, .int co, .ref pa, .int pl, .ref xa, .ref ya, .int mb, .ref ea, .ref wa]))] sz) := by
  refine Met.ofW (cc := bR_clear) (maxL := 1) (ret := none) (by decide) rfl ?_
  intro p e s m args below meth c s₁ B hml hv
  obtain ⟨rfl, hAt, hsz, hP, hD0⟩ := hv
  have hx := B.exec
  have hb := B.bytes
  have hr := B.returns
  have hts := xb_hts E hAt ([.ref h0] : List Value).toArray
  have hown : s.vm.findClass "NailRulesModel" = some m.cls := findClass_of_methodNamed B.named
  have hlocks := B.notSynchronized
  have hK := xb_K E hAt
  subst hsz
  have hA0 := xb_A0 hAt hD0
  have hD := hD0.self (sz := s.heap.size)
  generalize hAe : va_A [(h0, .inr (3, [.int th, .ref ta, .int zs, .int po, .int fa, .ref da, .ref ra, .ref la, .long we, .long le, .int pk, .int pm, .int co, .ref pa, .int pl, .ref xa, .ref ya, .int mb, .ref ea, .ref wa]))] s.heap.size = A at hD hA0 ⊢
  have hA : ∀ q : Nat, s.heap.size ≤ q → A q := fun q h => by rw [← hAe]; exact Or.inr h
  have hS : va_S A s.heap s.heap [] := va_S.rf
  have hl := lv_entry ([.ref h0]) (n := 1) (Nat.le_of_ble_eq_true rfl)
  rw [lg_entry_eq]
  generalize (lg_sl ([.ref h0]) ++ List.replicate (1 - (lg_sl ([.ref h0])).length) Slot.unset).toArray = ls at hl ⊢
  have hl : lv_has ls 1 [(0, .ref h0)] := hl
  refine lv_aload_n hx hb dR_clear_0 rfl (lv_at hl 0 rfl) ?_
  refine lv_iconst (v := 0) hx hb dR_clear_1 (by decide) ?_
  refine va_put (D := (dC, dI)) (ci := 3) (v := .int 0) (ty := .int) (C := xR_R) (T := xF_R) (N := 20) hx hb hts xi_R xt_R xt_R_ok xn_R hown hK hP hD hS 0 rfl rfl 0 (by decide) (hts _ xk_646) (fun _ h9 => h9) rfl (by decide +kernel) rfl rfl (Nat.le_of_ble_eq_true rfl) dR_clear_2 (fun H locs hP hD hS => ?_)
  have hP : va_P (dC, dI) classes [(h0, .inr (3, [.int 0, .ref ta, .int zs, .int po, .int fa, .ref da, .ref ra, .ref la, .long we, .long le, .int pk, .int pm, .int co, .ref pa, .int pl, .ref xa, .ref ya, .int mb, .ref ea, .ref wa]))] H := hP
  have hD : va_D A [(h0, .inr (3, [.int 0, .ref ta, .int zs, .int po, .int fa, .ref da, .ref ra, .ref la, .long we, .long le, .int pk, .int pm, .int co, .ref pa, .int pl, .ref xa, .ref ya, .int mb, .ref ea, .ref wa]))] := hD
  refine lv_aload_n hx hb dR_clear_5 rfl (lv_at hl 0 rfl) ?_
  refine lv_iconst (v := 0) hx hb dR_clear_6 (by decide) ?_
  refine va_put (D := (dC, dI)) (ci := 3) (v := .int 0) (ty := .int) (C := xR_R) (T := xF_R) (N := 20) hx hb hts xi_R xt_R xt_R_ok xn_R hown hK hP hD hS 0 rfl rfl 14 (by decide) (hts _ xk_660) (fun _ h9 => h9) rfl (by decide +kernel) rfl rfl (Nat.le_of_ble_eq_true rfl) dR_clear_7 (fun H locs hP hD hS => ?_)
  have hP : va_P (dC, dI) classes [(h0, .inr (3, [.int 0, .ref ta, .int zs, .int po, .int fa, .ref da, .ref ra, .ref la, .long we, .long le, .int pk, .int pm, .int co, .ref pa, .int 0, .ref xa, .ref ya, .int mb, .ref ea, .ref wa]))] H := hP
  have hD : va_D A [(h0, .inr (3, [.int 0, .ref ta, .int zs, .int po, .int fa, .ref da, .ref ra, .ref la, .long we, .long le, .int pk, .int pm, .int co, .ref pa, .int 0, .ref xa, .ref ya, .int mb, .ref ea, .ref wa]))] := hD
  have e_0 : gR_clear_0  = (0 : Int32) := rfl
  have e_1 : gR_clear_14  = (0 : Int32) := rfl
  have hP9 := hP.sub (ws' := [(h0, .inr (3, [.int 0, .ref ta, .int zs, .int po, .int fa, .ref da, .ref ra, .ref la, .long we, .long le, .int pk, .int pm, .int co, .ref pa, .int 0, .ref xa, .ref ya, .int mb, .ref ea, .ref wa]))]) [0] rfl
  have hD9 := hD.sub (ws' := [(h0, .inr (3, [.int 0, .ref ta, .int zs, .int po, .int fa, .ref da, .ref ra, .ref la, .long we, .long le, .int pk, .int pm, .int co, .ref pa, .int 0, .ref xa, .ref ya, .int mb, .ref ea, .ref wa]))]) [0] (by decide) rfl
  exact W.vret hx hb hr (fun t ht hW => ⟨_, _, rfl, ⟨by first | rfl | (simp only [e_0, e_1]; try rfl), by first | rfl | (simp only [e_0, e_1]; try rfl)⟩, by rw [ht]; exact hP9, hD9, hS.F ht⟩) hS.2.2 dR_clear_10

def gR_rule (rf : Nat → Int32) (kind : Int32) (what : Int32) : Int32 := if (fR_isFour kind) = true then (if (fR_isIn what.toInt64 (0) (6)) = true then (rf ((7 * kind) + what).toNatClampNeg) else ((0))) else ((0))
def gR_rule_0 (rf : Nat → Int32) (kind : Int32) (what : Int32) : Int32 := if (fR_isFour kind) = true then (if (fR_isIn what.toInt64 (0) (6)) = true then ((0)) else ((1))) else ((1))
set_option maxHeartbeats 4000000 in
set_option maxRecDepth 100000 in
theorem cR_rule (l : Launch) {s0 : State} {dC : Nat → ClassId} {dI : Nat → Nat → Nat} {cI cC cL : ClassId} (E : xb_Env l s0 dC dI (xtys cI cC cL)) (sz : Nat) (h0 : Nat) (ra : Nat) (th : Int32) (ta : Nat) (zs : Int32) (po : Int32) (fa : Int32) (da : Nat) (la : Nat) (we : Int64) (le : Int64) (pk : Int32) (pm : Int32) (co : Int32) (pa : Nat) (pl : Int32) (xa : Nat) (ya : Nat) (mb : Int32) (ea : Nat) (wa : Nat) (rf : Nat → Int32) (kind : Int32) (what : Int32) : Met l yR_rule [.code yR_rule bR_rule 3 (some (.int))] ({ frames := 1, cells := 0, slots := 0, locals := 25 }) (va_Pc [.ref h0, .int kind, .int what] (fun U => xb_At s0 U ∧ U.heap.size = sz ∧ va_P (dC, dI) classes [(h0, .inr (3, [.int th, .ref ta, .int zs, .int po, .int fa, .ref da, .ref ra, .ref la, .long we, .long le, .int pk, .int pm, .int co, .ref pa, .int pl, .ref xa, .ref ya, .int mb, .ref ea, .ref wa])), (ra, .inl (cI, 28, .inl rf))] U.heap ∧ va_D (fun q => s0.heap.size ≤ q) [(h0, .inr (3, [.int th, .ref ta, .int zs, .int po, .int fa, .ref da, .ref ra, .ref la, .long we, .long le, .int pk, .int pm, .int co, .ref pa, .int pl, .ref xa, .ref ya, .int mb, .ref ea, .ref wa])), (ra, .inl (cI, 28, .inl rf))])) (xb_W (dC, dI) (fun v w => v = some (.int (gR_rule rf kind what)) ∧ w = [(h0, .inr (3, [.int (gR_rule_0 rf kind what), .ref ta, .int zs, .int po, .int fa, .ref da, .ref ra, .ref la, .long we, .long le, .int pk, .int pm, .int co, .ref pa, .int pl, .ref xa, .ref ya, .int mb, .ref ea, .ref wa])), (ra, .inl (cI, 28, .inl rf))]) (va_A [(h0, .inr (3, [.int th, .ref ta, .int zs, .int po, .int fa, .ref da, .ref ra, .ref la, .long we, .long le, .int pk, .int pm, .int co, .ref pa, .int pl, .ref xa, .ref ya, .int mb, .ref ea, .ref wa])), (ra, .inl (cI, 28, .inl rf))] sz)) 0 0 (va_A [(h0, .inr (3, [.int th, .ref ta, .int zs, .int po, .int fa, .ref da, .ref ra, .ref la, .long we, .long le, .int pk, .int pm, .int co, .ref pa, .int pl, .ref xa, .ref ya, .int mb, .ref ea, .ref wa])), (ra, .inl (cI, 28, .inl rf))] sz) := by
  refine Met.ofW (cc := bR_rule) (maxL := 3) (ret := (some (.int))) (by decide) rfl ?_
  intro p e s m args below meth c s₁ B hml hv
  obtain ⟨rfl, hAt, hsz, hP, hD0⟩ := hv
  have hx := B.exec
  have hb := B.bytes
  have hr := B.returns
  have hts := xb_hts E hAt ([.ref h0, .int kind, .int what] : List Value).toArray
  have hown : s.vm.findClass "NailRulesModel" = some m.cls := findClass_of_methodNamed B.named
  have hlocks := B.notSynchronized
  have hK := xb_K E hAt
  subst hsz
  have hA0 := xb_A0 hAt hD0
  have hD := hD0.self (sz := s.heap.size)
  generalize hAe : va_A [(h0, .inr (3, [.int th, .ref ta, .int zs, .int po, .int fa, .ref da, .ref ra, .ref la, .long we, .long le, .int pk, .int pm, .int co, .ref pa, .int pl, .ref xa, .ref ya, .int mb, .ref ea, .ref wa])), (ra, .inl (cI, 28, .inl rf))] s.heap.size = A at hD hA0 ⊢
  have hA : ∀ q : Nat, s.heap.size ≤ q → A q := fun q h => by rw [← hAe]; exact Or.inr h
  have hS : va_S A s.heap s.heap [] := va_S.rf
  have hl := lv_entry ([.ref h0, .int kind, .int what]) (n := 3) (Nat.le_of_ble_eq_true rfl)
  rw [lg_entry_eq]
  generalize (lg_sl ([.ref h0, .int kind, .int what]) ++ List.replicate (3 - (lg_sl ([.ref h0, .int kind, .int what])).length) Slot.unset).toArray = ls at hl ⊢
  have hl : lv_has ls 3 [(0, .ref h0), (1, .int kind), (2, .int what)] := hl
  refine lv_aload_n hx hb dR_rule_0 rfl (lv_at hl 0 rfl) ?_
  refine lv_iload_n hx hb dR_rule_1 rfl (lv_at hl 1 rfl) ?_
  refine xb_rd (W.runS (As := [.int kind]) (rest := [.ref h0]) ⟨hx, hb, hml, hown, hts⟩ (cR_isFour l E kind) (cwS 1 hts (xb_gi (List.forall_mem_cons.mpr ⟨xk_750, List.forall_mem_cons.mpr ⟨xk_751, List.forall_mem_cons.mpr ⟨xk_45, List.forall_mem_cons.mpr ⟨xk_752, fun _ h => absurd h List.not_mem_nil⟩⟩⟩⟩)) rfl rfl rfl (by decide +kernel) ⟨Nat.le_of_ble_eq_true rfl, Nat.le_of_ble_eq_true rfl⟩) ⟨fun _ _ _ _ q => q, fun U hU hW => ⟨rfl, xb_atS hAt hS hA0 hU hW, fun k q h => by simp at h⟩⟩ rfl rfl hl.1 rfl (lv_room (Nat.le_of_ble_eq_true rfl)) dR_rule_2 ⟨Nat.zero_le _, Nat.zero_le _⟩) ?_
  refine lv_if_eq (tgt := 24) hx hb dR_rule_5 (by decide) (fun c_1 => ?_) (fun c_1 => ?_)
  · have c_1 := xb_bi_f.mp c_1
    refine lv_iconst (v := 1) hx hb dR_rule_24 (by decide) ?_
    refine va_put (D := (dC, dI)) (ci := 3) (v := .int 1) (ty := .int) (C := xR_R) (T := xF_R) (N := 20) hx hb hts xi_R xt_R xt_R_ok xn_R hown hK hP hD hS 0 rfl rfl 0 (by decide) (hts _ xk_646) (fun _ h9 => h9) rfl (by decide +kernel) rfl rfl (Nat.le_of_ble_eq_true rfl) dR_rule_25 (fun H locs hP hD hS => ?_)
    have hP : va_P (dC, dI) classes [(h0, .inr (3, [.int 1, .ref ta, .int zs, .int po, .int fa, .ref da, .ref ra, .ref la, .long we, .long le, .int pk, .int pm, .int co, .ref pa, .int pl, .ref xa, .ref ya, .int mb, .ref ea, .ref wa])), (ra, .inl (cI, 28, .inl rf))] H := hP
    have hD : va_D A [(h0, .inr (3, [.int 1, .ref ta, .int zs, .int po, .int fa, .ref da, .ref ra, .ref la, .long we, .long le, .int pk, .int pm, .int co, .ref pa, .int pl, .ref xa, .ref ya, .int mb, .ref ea, .ref wa])), (ra, .inl (cI, 28, .inl rf))] := hD
    refine lv_aload_n hx hb dR_rule_28 rfl (lv_at hl 0 rfl) ?_
    refine va_get (D := (dC, dI)) (ci := 3) (v := .int 1) (C := xR_R) (T := xF_R) (N := 20) hx hb hts xi_R hown hK hP 0 rfl rfl 0 (by decide) (hts _ xk_646) (fun _ h9 => h9) rfl dR_rule_29 ?_
    refine lv_if_le (tgt := 39) hx hb dR_rule_32 (by decide) (fun c_2 => ?_) (fun c_2 => ?_)
    · exact absurd c_2 (by decide)
    · refine lv_iconst (v := 0) hx hb dR_rule_35 (by decide) ?_
      refine lv_goto (tgt := 50) hx hb dR_rule_36 (by decide) ?_
      have e_0 : gR_rule rf kind what = (0 : Int32) := (if_neg c_1).trans (rfl)
      have e_1 : gR_rule_0 rf kind what = (1 : Int32) := (if_neg c_1).trans (rfl)
      have hP9 := hP.sub (ws' := [(h0, .inr (3, [.int 1, .ref ta, .int zs, .int po, .int fa, .ref da, .ref ra, .ref la, .long we, .long le, .int pk, .int pm, .int co, .ref pa, .int pl, .ref xa, .ref ya, .int mb, .ref ea, .ref wa])), (ra, .inl (cI, 28, .inl rf))]) [0, 1] rfl
      have hD9 := hD.sub (ws' := [(h0, .inr (3, [.int 1, .ref ta, .int zs, .int po, .int fa, .ref da, .ref ra, .ref la, .long we, .long le, .int pk, .int pm, .int co, .ref pa, .int pl, .ref xa, .ref ya, .int mb, .ref ea, .ref wa])), (ra, .inl (cI, 28, .inl rf))]) [0, 1] (by decide) rfl
      exact W.iret (v := 0) hx hb hr (fun t ht hW => ⟨_, _, rfl, ⟨by first | rfl | (simp only [e_0, e_1]; try rfl), by first | rfl | (simp only [e_0, e_1]; try rfl)⟩, by rw [ht]; exact hP9, hD9, hS.F ht⟩) hS.2.2 dR_rule_50
  · have c_1 := xb_bi_t.mp c_1
    refine lv_iload_n hx hb dR_rule_8 rfl (lv_at hl 2 rfl) ?_
    refine lv_i2l hx hb dR_rule_9 rfl ?_
    refine lv_lconst (v := 0) hx hb dR_rule_10 (by decide) ?_
    refine lv_ldc2 (v := 6) hx hb hown (hts _ xk_753) dR_rule_11 ?_
    refine xb_rd (W.runS (As := [.long what.toInt64, .long 0, .long 6]) (rest := [.ref h0]) ⟨hx, hb, hml, hown, hts⟩ (cR_isIn l E what.toInt64 0 6) (cwS 3 hts (xb_gi (List.forall_mem_cons.mpr ⟨xk_754, List.forall_mem_cons.mpr ⟨xk_755, List.forall_mem_cons.mpr ⟨xk_45, List.forall_mem_cons.mpr ⟨xk_756, fun _ h => absurd h List.not_mem_nil⟩⟩⟩⟩)) rfl rfl rfl (by decide +kernel) ⟨Nat.le_of_ble_eq_true rfl, Nat.le_of_ble_eq_true rfl⟩) ⟨fun _ _ _ _ q => q, fun U hU hW => ⟨rfl, xb_atS hAt hS hA0 hU hW, fun k q h => by simp at h⟩⟩ rfl rfl hl.1 rfl (lv_room (Nat.le_of_ble_eq_true rfl)) dR_rule_14 ⟨Nat.zero_le _, Nat.zero_le _⟩) ?_
    refine lv_if_eq (tgt := 24) hx hb dR_rule_17 (by decide) (fun c_3 => ?_) (fun c_3 => ?_)
    · have c_3 := xb_bi_f.mp c_3
      refine lv_iconst (v := 1) hx hb dR_rule_24 (by decide) ?_
      refine va_put (D := (dC, dI)) (ci := 3) (v := .int 1) (ty := .int) (C := xR_R) (T := xF_R) (N := 20) hx hb hts xi_R xt_R xt_R_ok xn_R hown hK hP hD hS 0 rfl rfl 0 (by decide) (hts _ xk_646) (fun _ h9 => h9) rfl (by decide +kernel) rfl rfl (Nat.le_of_ble_eq_true rfl) dR_rule_25 (fun H locs hP hD hS => ?_)
      have hP : va_P (dC, dI) classes [(h0, .inr (3, [.int 1, .ref ta, .int zs, .int po, .int fa, .ref da, .ref ra, .ref la, .long we, .long le, .int pk, .int pm, .int co, .ref pa, .int pl, .ref xa, .ref ya, .int mb, .ref ea, .ref wa])), (ra, .inl (cI, 28, .inl rf))] H := hP
      have hD : va_D A [(h0, .inr (3, [.int 1, .ref ta, .int zs, .int po, .int fa, .ref da, .ref ra, .ref la, .long we, .long le, .int pk, .int pm, .int co, .ref pa, .int pl, .ref xa, .ref ya, .int mb, .ref ea, .ref wa])), (ra, .inl (cI, 28, .inl rf))] := hD
      refine lv_aload_n hx hb dR_rule_28 rfl (lv_at hl 0 rfl) ?_
      refine va_get (D := (dC, dI)) (ci := 3) (v := .int 1) (C := xR_R) (T := xF_R) (N := 20) hx hb hts xi_R hown hK hP 0 rfl rfl 0 (by decide) (hts _ xk_646) (fun _ h9 => h9) rfl dR_rule_29 ?_
      refine lv_if_le (tgt := 39) hx hb dR_rule_32 (by decide) (fun c_4 => ?_) (fun c_4 => ?_)
      · exact absurd c_4 (by decide)
      · refine lv_iconst (v := 0) hx hb dR_rule_35 (by decide) ?_
        refine lv_goto (tgt := 50) hx hb dR_rule_36 (by decide) ?_
        have e_0 : gR_rule rf kind what = (0 : Int32) := (if_pos c_1).trans ((if_neg c_3).trans (rfl))
        have e_1 : gR_rule_0 rf kind what = (1 : Int32) := (if_pos c_1).trans ((if_neg c_3).trans (rfl))
        have hP9 := hP.sub (ws' := [(h0, .inr (3, [.int 1, .ref ta, .int zs, .int po, .int fa, .ref da, .ref ra, .ref la, .long we, .long le, .int pk, .int pm, .int co, .ref pa, .int pl, .ref xa, .ref ya, .int mb, .ref ea, .ref wa])), (ra, .inl (cI, 28, .inl rf))]) [0, 1] rfl
        have hD9 := hD.sub (ws' := [(h0, .inr (3, [.int 1, .ref ta, .int zs, .int po, .int fa, .ref da, .ref ra, .ref la, .long we, .long le, .int pk, .int pm, .int co, .ref pa, .int pl, .ref xa, .ref ya, .int mb, .ref ea, .ref wa])), (ra, .inl (cI, 28, .inl rf))]) [0, 1] (by decide) rfl
        exact W.iret (v := 0) hx hb hr (fun t ht hW => ⟨_, _, rfl, ⟨by first | rfl | (simp only [e_0, e_1]; try rfl), by first | rfl | (simp only [e_0, e_1]; try rfl)⟩, by rw [ht]; exact hP9, hD9, hS.F ht⟩) hS.2.2 dR_rule_50
    · have c_3 := xb_bi_t.mp c_3
      refine lv_iconst (v := 0) hx hb dR_rule_20 (by decide) ?_
      refine lv_goto (tgt := 25) hx hb dR_rule_21 (by decide) ?_
      refine va_put (D := (dC, dI)) (ci := 3) (v := .int 0) (ty := .int) (C := xR_R) (T := xF_R) (N := 20) hx hb hts xi_R xt_R xt_R_ok xn_R hown hK hP hD hS 0 rfl rfl 0 (by decide) (hts _ xk_646) (fun _ h9 => h9) rfl (by decide +kernel) rfl rfl (Nat.le_of_ble_eq_true rfl) dR_rule_25 (fun H locs hP hD hS => ?_)
      have hP : va_P (dC, dI) classes [(h0, .inr (3, [.int 0, .ref ta, .int zs, .int po, .int fa, .ref da, .ref ra, .ref la, .long we, .long le, .int pk, .int pm, .int co, .ref pa, .int pl, .ref xa, .ref ya, .int mb, .ref ea, .ref wa])), (ra, .inl (cI, 28, .inl rf))] H := hP
      have hD : va_D A [(h0, .inr (3, [.int 0, .ref ta, .int zs, .int po, .int fa, .ref da, .ref ra, .ref la, .long we, .long le, .int pk, .int pm, .int co, .ref pa, .int pl, .ref xa, .ref ya, .int mb, .ref ea, .ref wa])), (ra, .inl (cI, 28, .inl rf))] := hD
      refine lv_aload_n hx hb dR_rule_28 rfl (lv_at hl 0 rfl) ?_
      refine va_get (D := (dC, dI)) (ci := 3) (v := .int 0) (C := xR_R) (T := xF_R) (N := 20) hx hb hts xi_R hown hK hP 0 rfl rfl 0 (by decide) (hts _ xk_646) (fun _ h9 => h9) rfl dR_rule_29 ?_
      refine lv_if_le (tgt := 39) hx hb dR_rule_32 (by decide) (fun c_5 => ?_) (fun c_5 => ?_)
      · refine lv_aload_n hx hb dR_rule_39 rfl (lv_at hl 0 rfl) ?_
        refine va_get (D := (dC, dI)) (ci := 3) (v := .ref ra) (C := xR_R) (T := xF_R) (N := 20) hx hb hts xi_R hown hK hP 0 rfl rfl 6 (by decide) (hts _ xk_652) (fun _ h9 => h9) rfl dR_rule_40 ?_
        refine lv_bipush (v := 7) hx hb dR_rule_43 (by decide) ?_
        refine lv_iload_n hx hb dR_rule_45 rfl (lv_at hl 1 rfl) ?_
        refine lv_imul hx hb dR_rule_46 ?_
        refine lv_iload_n hx hb dR_rule_47 rfl (lv_at hl 2 rfl) ?_
        refine lv_iadd hx hb dR_rule_48 ?_
        have o_6 : vp_in ((7 * kind) + what) 28 := by exact xp_rule (by assumption) (by assumption)
        refine va_iald hx hb hK hP 1 0 rfl rfl o_6 dR_rule_49 ?_
        have e_0 : gR_rule rf kind what = (rf ((7 * kind) + what).toNatClampNeg) := (if_pos c_1).trans ((if_pos c_3).trans (rfl))
        have e_1 : gR_rule_0 rf kind what = (0 : Int32) := (if_pos c_1).trans ((if_pos c_3).trans (rfl))
        have hP9 := hP.sub (ws' := [(h0, .inr (3, [.int 0, .ref ta, .int zs, .int po, .int fa, .ref da, .ref ra, .ref la, .long we, .long le, .int pk, .int pm, .int co, .ref pa, .int pl, .ref xa, .ref ya, .int mb, .ref ea, .ref wa])), (ra, .inl (cI, 28, .inl rf))]) [0, 1] rfl
        have hD9 := hD.sub (ws' := [(h0, .inr (3, [.int 0, .ref ta, .int zs, .int po, .int fa, .ref da, .ref ra, .ref la, .long we, .long le, .int pk, .int pm, .int co, .ref pa, .int pl, .ref xa, .ref ya, .int mb, .ref ea, .ref wa])), (ra, .inl (cI, 28, .inl rf))]) [0, 1] (by decide) rfl
        exact W.iret (v := (rf ((7 * kind) + what).toNatClampNeg)) hx hb hr (fun t ht hW => ⟨_, _, rfl, ⟨by first | rfl | (simp only [e_0, e_1]; try rfl), by first | rfl | (simp only [e_0, e_1]; try rfl)⟩, by rw [ht]; exact hP9, hD9, hS.F ht⟩) hS.2.2 dR_rule_50
      · exact absurd c_5 (by decide)

def gR_set_0 (we : Int64) (le : Int64) (what : Int32) (pct : Int32) : Int32 := if what < 0 then ((1)) else (if what ≤ 1 then (if (fR_isIn pct.toInt64 (1 - what.toInt64) (100)) = true then (if what = 0 then ((0)) else ((0))) else ((2))) else ((1)))
def gR_set_8 (we : Int64) (le : Int64) (what : Int32) (pct : Int32) : Int64 := if what < 0 then (we) else (if what ≤ 1 then (if (fR_isIn pct.toInt64 (1 - what.toInt64) (100)) = true then (if what = 0 then (pct.toInt64) else (we)) else (we)) else (we))
def gR_set_9 (we : Int64) (le : Int64) (what : Int32) (pct : Int32) : Int64 := if what < 0 then (le) else (if what ≤ 1 then (if (fR_isIn pct.toInt64 (1 - what.toInt64) (100)) = true then (if what = 0 then (le) else (pct.toInt64)) else (le)) else (le))
set_option maxHeartbeats 4000000 in
set_option maxRecDepth 100000 in
theorem cR_set (l : Launch) {s0 : State} {dC : Nat → ClassId} {dI : Nat → Nat → Nat} {cI cC cL : ClassId} (E : xb_Env l s0 dC dI (xtys cI cC cL)) (sz : Nat) (h0 : Nat) (th : Int32) (ta : Nat) (zs : Int32) (po : Int32) (fa : Int32) (da : Nat) (ra : Nat) (la : Nat) (we : Int64) (le : Int64) (pk : Int32) (pm : Int32) (co : Int32) (pa : Nat) (pl : Int32) (xa : Nat) (ya : Nat) (mb : Int32) (ea : Nat) (wa : Nat) (what : Int32) (pct : Int32) : Met l yR_set [.code yR_set bR_set 3 none] ({ frames := 1, cells := 0, slots := 0, locals := 25 }) (va_Pc [.ref h0, .int what, .int pct] (fun U => xb_At s0 U ∧ U.heap.size = sz ∧ va_P (dC, dI) classes [(h0, .inr (3, [.int th, .ref ta, .int zs, .int po, .int fa, .ref da, .ref ra, .ref la, .long we, .long le, .int pk, .int pm, .int co, .ref pa, .int pl, .ref xa, .ref ya, .int mb, .ref ea, .ref wa]))] U.heap ∧ va_D (fun q => s0.heap.size ≤ q) [(h0, .inr (3, [.int th, .ref ta, .int zs, .int po, .int fa, .ref da, .ref ra, .ref la, .long we, .long le, .int pk, .int pm, .int co, .ref pa, .int pl, .ref xa, .ref ya, .int mb, .ref ea, .ref wa]))])) (xb_W (dC, dI) (fun v w => v = none ∧ w = [(h0, .inr (3, [.int (gR_set_0 we le what pct), .ref ta, .int zs, .int po, .int fa, .ref da, .ref ra, .ref la, .long (gR_set_8 we le what pct), .long (gR_set_9 we le what pct), .int pk, .int pm, .int co, .ref pa, .int pl, .ref xa, .ref ya, .int mb, .ref ea, .ref wa]))]) (va_A [(h0, .inr (3, [.int th, .ref ta, .int zs, .int po, .int fa, .ref da, .ref ra, .ref la, .long we, .long le, .int pk, .int pm, .int co, .ref pa, .int pl, .ref xa, .ref ya, .int mb, .ref ea, .ref wa]))] sz)) 0 0 (va_A [(h0, .inr (3, [.int th, .ref ta, .int zs, .int po, .int fa, .ref da, .ref ra, .ref la, .long we, .long le, .int pk, .int pm, .int co, .ref pa, .int pl, .ref xa, .ref ya, .int mb, .ref ea, .ref wa]))] sz) := by
  refine Met.ofW (cc := bR_set) (maxL := 3) (ret := none) (by decide) rfl ?_
  intro p e s m args below meth c s₁ B hml hv
  obtain ⟨rfl, hAt, hsz, hP, hD0⟩ := hv
  have hx := B.exec
  have hb := B.bytes
  have hr := B.returns
  have hts := xb_hts E hAt ([.ref h0, .int what, .int pct] : List Value).toArray
  have hown : s.vm.findClass "NailRulesModel" = some m.cls := findClass_of_methodNamed B.named
  have hlocks := B.notSynchronized
  have hK := xb_K E hAt
  subst hsz
  have hA0 := xb_A0 hAt hD0
  have hD := hD0.self (sz := s.heap.size)
  generalize hAe : va_A [(h0, .inr (3, [.int th, .ref ta, .int zs, .int po, .int fa, .ref da, .ref ra, .ref la, .long we, .long le, .int pk, .int pm, .int co, .ref pa, .int pl, .ref xa, .ref ya, .int mb, .ref ea, .ref wa]))] s.heap.size = A at hD hA0 ⊢
  have hA : ∀ q : Nat, s.heap.size ≤ q → A q := fun q h => by rw [← hAe]; exact Or.inr h
  have hS : va_S A s.heap s.heap [] := va_S.rf
  have hl := lv_entry ([.ref h0, .int what, .int pct]) (n := 3) (Nat.le_of_ble_eq_true rfl)
  rw [lg_entry_eq]
  generalize (lg_sl ([.ref h0, .int what, .int pct]) ++ List.replicate (3 - (lg_sl ([.ref h0, .int what, .int pct])).length) Slot.unset).toArray = ls at hl ⊢
  have hl : lv_has ls 3 [(0, .ref h0), (1, .int what), (2, .int pct)] := hl
  refine lv_aload_n hx hb dR_set_0 rfl (lv_at hl 0 rfl) ?_
  refine lv_iload_n hx hb dR_set_1 rfl (lv_at hl 1 rfl) ?_
  refine lv_if_lt (tgt := 10) hx hb dR_set_2 (by decide) (fun c_1 => ?_) (fun c_1 => ?_)
  · refine lv_iconst (v := 1) hx hb dR_set_10 (by decide) ?_
    refine lv_goto (tgt := 34) hx hb dR_set_11 (by decide) ?_
    refine va_put (D := (dC, dI)) (ci := 3) (v := .int 1) (ty := .int) (C := xR_R) (T := xF_R) (N := 20) hx hb hts xi_R xt_R xt_R_ok xn_R hown hK hP hD hS 0 rfl rfl 0 (by decide) (hts _ xk_646) (fun _ h9 => h9) rfl (by decide +kernel) rfl rfl (Nat.le_of_ble_eq_true rfl) dR_set_34 (fun H locs hP hD hS => ?_)
    have hP : va_P (dC, dI) classes [(h0, .inr (3, [.int 1, .ref ta, .int zs, .int po, .int fa, .ref da, .ref ra, .ref la, .long we, .long le, .int pk, .int pm, .int co, .ref pa, .int pl, .ref xa, .ref ya, .int mb, .ref ea, .ref wa]))] H := hP
    have hD : va_D A [(h0, .inr (3, [.int 1, .ref ta, .int zs, .int po, .int fa, .ref da, .ref ra, .ref la, .long we, .long le, .int pk, .int pm, .int co, .ref pa, .int pl, .ref xa, .ref ya, .int mb, .ref ea, .ref wa]))] := hD
    refine lv_aload_n hx hb dR_set_37 rfl (lv_at hl 0 rfl) ?_
    refine va_get (D := (dC, dI)) (ci := 3) (v := .int 1) (C := xR_R) (T := xF_R) (N := 20) hx hb hts xi_R hown hK hP 0 rfl rfl 0 (by decide) (hts _ xk_646) (fun _ h9 => h9) rfl dR_set_38 ?_
    refine lv_if_ne (tgt := 57) hx hb dR_set_41 (by decide) (fun c_2 => ?_) (fun c_2 => ?_)
    · refine lv_aload_n hx hb dR_set_57 rfl (lv_at hl 0 rfl) ?_
      refine va_get (D := (dC, dI)) (ci := 3) (v := .int 1) (C := xR_R) (T := xF_R) (N := 20) hx hb hts xi_R hown hK hP 0 rfl rfl 0 (by decide) (hts _ xk_646) (fun _ h9 => h9) rfl dR_set_58 ?_
      refine lv_if_ne (tgt := 70) hx hb dR_set_61 (by decide) (fun c_3 => ?_) (fun c_3 => ?_)
      · have e_0 : gR_set_0 we le what pct = (1 : Int32) := (if_pos c_1).trans (rfl)
        have e_1 : gR_set_8 we le what pct = we := (if_pos c_1).trans (rfl)
        have e_2 : gR_set_9 we le what pct = le := (if_pos c_1).trans (rfl)
        have hP9 := hP.sub (ws' := [(h0, .inr (3, [.int 1, .ref ta, .int zs, .int po, .int fa, .ref da, .ref ra, .ref la, .long we, .long le, .int pk, .int pm, .int co, .ref pa, .int pl, .ref xa, .ref ya, .int mb, .ref ea, .ref wa]))]) [0] rfl
        have hD9 := hD.sub (ws' := [(h0, .inr (3, [.int 1, .ref ta, .int zs, .int po, .int fa, .ref da, .ref ra, .ref la, .long we, .long le, .int pk, .int pm, .int co, .ref pa, .int pl, .ref xa, .ref ya, .int mb, .ref ea, .ref wa]))]) [0] (by decide) rfl
        exact W.vret hx hb hr (fun t ht hW => ⟨_, _, rfl, ⟨by first | rfl | (simp only [e_0, e_1, e_2]; try rfl), by first | rfl | (simp only [e_0, e_1, e_2]; try rfl)⟩, by rw [ht]; exact hP9, hD9, hS.F ht⟩) hS.2.2 dR_set_70
      · exact absurd c_3 (by decide)
    · exact absurd c_2 (by decide)
  · refine lv_iload_n hx hb dR_set_5 rfl (lv_at hl 1 rfl) ?_
    refine lv_iconst (v := 1) hx hb dR_set_6 (by decide) ?_
    refine lv_icmp_le (tgt := 14) hx hb dR_set_7 (by decide) (fun c_4 => ?_) (fun c_4 => ?_)
    · refine lv_iload_n hx hb dR_set_14 rfl (lv_at hl 2 rfl) ?_
      refine lv_i2l hx hb dR_set_15 rfl ?_
      refine lv_lconst (v := 1) hx hb dR_set_16 (by decide) ?_
      refine lv_iload_n hx hb dR_set_17 rfl (lv_at hl 1 rfl) ?_
      refine lv_i2l hx hb dR_set_18 rfl ?_
      refine lv_lsub hx hb dR_set_19 ?_
      refine lv_ldc2 (v := 100) hx hb hown (hts _ xk_644) dR_set_20 ?_
      refine xb_rd (W.runS (As := [.long pct.toInt64, .long (1 - what.toInt64), .long 100]) (rest := [.ref h0]) ⟨hx, hb, hml, hown, hts⟩ (cR_isIn l E pct.toInt64 (1 - what.toInt64) 100) (cwS 3 hts (xb_gi (List.forall_mem_cons.mpr ⟨xk_754, List.forall_mem_cons.mpr ⟨xk_755, List.forall_mem_cons.mpr ⟨xk_45, List.forall_mem_cons.mpr ⟨xk_756, fun _ h => absurd h List.not_mem_nil⟩⟩⟩⟩)) rfl rfl rfl (by decide +kernel) ⟨Nat.le_of_ble_eq_true rfl, Nat.le_of_ble_eq_true rfl⟩) ⟨fun _ _ _ _ q => q, fun U hU hW => ⟨rfl, xb_atS hAt hS hA0 hU hW, fun k q h => by simp at h⟩⟩ rfl rfl hl.1 rfl (lv_room (Nat.le_of_ble_eq_true rfl)) dR_set_23 ⟨Nat.zero_le _, Nat.zero_le _⟩) ?_
      refine lv_if_eq (tgt := 33) hx hb dR_set_26 (by decide) (fun c_5 => ?_) (fun c_5 => ?_)
      · have c_5 := xb_bi_f.mp c_5
        refine lv_iconst (v := 2) hx hb dR_set_33 (by decide) ?_
        refine va_put (D := (dC, dI)) (ci := 3) (v := .int 2) (ty := .int) (C := xR_R) (T := xF_R) (N := 20) hx hb hts xi_R xt_R xt_R_ok xn_R hown hK hP hD hS 0 rfl rfl 0 (by decide) (hts _ xk_646) (fun _ h9 => h9) rfl (by decide +kernel) rfl rfl (Nat.le_of_ble_eq_true rfl) dR_set_34 (fun H locs hP hD hS => ?_)
        have hP : va_P (dC, dI) classes [(h0, .inr (3, [.int 2, .ref ta, .int zs, .int po, .int fa, .ref da, .ref ra, .ref la, .long we, .long le, .int pk, .int pm, .int co, .ref pa, .int pl, .ref xa, .ref ya, .int mb, .ref ea, .ref wa]))] H := hP
        have hD : va_D A [(h0, .inr (3, [.int 2, .ref ta, .int zs, .int po, .int fa, .ref da, .ref ra, .ref la, .long we, .long le, .int pk, .int pm, .int co, .ref pa, .int pl, .ref xa, .ref ya, .int mb, .ref ea, .ref wa]))] := hD
        refine lv_aload_n hx hb dR_set_37 rfl (lv_at hl 0 rfl) ?_
        refine va_get (D := (dC, dI)) (ci := 3) (v := .int 2) (C := xR_R) (T := xF_R) (N := 20) hx hb hts xi_R hown hK hP 0 rfl rfl 0 (by decide) (hts _ xk_646) (fun _ h9 => h9) rfl dR_set_38 ?_
        refine lv_if_ne (tgt := 57) hx hb dR_set_41 (by decide) (fun c_6 => ?_) (fun c_6 => ?_)
        · refine lv_aload_n hx hb dR_set_57 rfl (lv_at hl 0 rfl) ?_
          refine va_get (D := (dC, dI)) (ci := 3) (v := .int 2) (C := xR_R) (T := xF_R) (N := 20) hx hb hts xi_R hown hK hP 0 rfl rfl 0 (by decide) (hts _ xk_646) (fun _ h9 => h9) rfl dR_set_58 ?_
          refine lv_if_ne (tgt := 70) hx hb dR_set_61 (by decide) (fun c_7 => ?_) (fun c_7 => ?_)
          · have e_0 : gR_set_0 we le what pct = (2 : Int32) := (if_neg c_1).trans ((if_pos c_4).trans ((if_neg c_5).trans (rfl)))
            have e_1 : gR_set_8 we le what pct = we := (if_neg c_1).trans ((if_pos c_4).trans ((if_neg c_5).trans (rfl)))
            have e_2 : gR_set_9 we le what pct = le := (if_neg c_1).trans ((if_pos c_4).trans ((if_neg c_5).trans (rfl)))
            have hP9 := hP.sub (ws' := [(h0, .inr (3, [.int 2, .ref ta, .int zs, .int po, .int fa, .ref da, .ref ra, .ref la, .long we, .long le, .int pk, .int pm, .int co, .ref pa, .int pl, .ref xa, .ref ya, .int mb, .ref ea, .ref wa]))]) [0] rfl
            have hD9 := hD.sub (ws' := [(h0, .inr (3, [.int 2, .ref ta, .int zs, .int po, .int fa, .ref da, .ref ra, .ref la, .long we, .long le, .int pk, .int pm, .int co, .ref pa, .int pl, .ref xa, .ref ya, .int mb, .ref ea, .ref wa]))]) [0] (by decide) rfl
            exact W.vret hx hb hr (fun t ht hW => ⟨_, _, rfl, ⟨by first | rfl | (simp only [e_0, e_1, e_2]; try rfl), by first | rfl | (simp only [e_0, e_1, e_2]; try rfl)⟩, by rw [ht]; exact hP9, hD9, hS.F ht⟩) hS.2.2 dR_set_70
          · exact absurd c_7 (by decide)
        · exact absurd c_6 (by decide)
      · have c_5 := xb_bi_t.mp c_5
        refine lv_iconst (v := 0) hx hb dR_set_29 (by decide) ?_
        refine lv_goto (tgt := 34) hx hb dR_set_30 (by decide) ?_
        refine va_put (D := (dC, dI)) (ci := 3) (v := .int 0) (ty := .int) (C := xR_R) (T := xF_R) (N := 20) hx hb hts xi_R xt_R xt_R_ok xn_R hown hK hP hD hS 0 rfl rfl 0 (by decide) (hts _ xk_646) (fun _ h9 => h9) rfl (by decide +kernel) rfl rfl (Nat.le_of_ble_eq_true rfl) dR_set_34 (fun H locs hP hD hS => ?_)
        have hP : va_P (dC, dI) classes [(h0, .inr (3, [.int 0, .ref ta, .int zs, .int po, .int fa, .ref da, .ref ra, .ref la, .long we, .long le, .int pk, .int pm, .int co, .ref pa, .int pl, .ref xa, .ref ya, .int mb, .ref ea, .ref wa]))] H := hP
        have hD : va_D A [(h0, .inr (3, [.int 0, .ref ta, .int zs, .int po, .int fa, .ref da, .ref ra, .ref la, .long we, .long le, .int pk, .int pm, .int co, .ref pa, .int pl, .ref xa, .ref ya, .int mb, .ref ea, .ref wa]))] := hD
        refine lv_aload_n hx hb dR_set_37 rfl (lv_at hl 0 rfl) ?_
        refine va_get (D := (dC, dI)) (ci := 3) (v := .int 0) (C := xR_R) (T := xF_R) (N := 20) hx hb hts xi_R hown hK hP 0 rfl rfl 0 (by decide) (hts _ xk_646) (fun _ h9 => h9) rfl dR_set_38 ?_
        refine lv_if_ne (tgt := 57) hx hb dR_set_41 (by decide) (fun c_8 => ?_) (fun c_8 => ?_)
        · exact absurd c_8 (by decide)
        · refine lv_iload_n hx hb dR_set_44 rfl (lv_at hl 1 rfl) ?_
          refine lv_if_ne (tgt := 57) hx hb dR_set_45 (by decide) (fun c_9 => ?_) (fun c_9 => ?_)
          · refine lv_aload_n hx hb dR_set_57 rfl (lv_at hl 0 rfl) ?_
            refine va_get (D := (dC, dI)) (ci := 3) (v := .int 0) (C := xR_R) (T := xF_R) (N := 20) hx hb hts xi_R hown hK hP 0 rfl rfl 0 (by decide) (hts _ xk_646) (fun _ h9 => h9) rfl dR_set_58 ?_
            refine lv_if_ne (tgt := 70) hx hb dR_set_61 (by decide) (fun c_10 => ?_) (fun c_10 => ?_)
            · exact absurd c_10 (by decide)
            · refine lv_aload_n hx hb dR_set_64 rfl (lv_at hl 0 rfl) ?_
              refine lv_iload_n hx hb dR_set_65 rfl (lv_at hl 2 rfl) ?_
              refine lv_i2l hx hb dR_set_66 rfl ?_
              refine va_put (D := (dC, dI)) (ci := 3) (v := .long pct.toInt64) (ty := .long) (C := xR_R) (T := xF_R) (N := 20) hx hb hts xi_R xt_R xt_R_ok xn_R hown hK hP hD hS 0 rfl rfl 9 (by decide) (hts _ xk_655) (fun _ h9 => h9) rfl (by decide +kernel) rfl rfl (Nat.le_of_ble_eq_true rfl) dR_set_67 (fun H locs hP hD hS => ?_)
              have hP : va_P (dC, dI) classes [(h0, .inr (3, [.int 0, .ref ta, .int zs, .int po, .int fa, .ref da, .ref ra, .ref la, .long we, .long pct.toInt64, .int pk, .int pm, .int co, .ref pa, .int pl, .ref xa, .ref ya, .int mb, .ref ea, .ref wa]))] H := hP
              have hD : va_D A [(h0, .inr (3, [.int 0, .ref ta, .int zs, .int po, .int fa, .ref da, .ref ra, .ref la, .long we, .long pct.toInt64, .int pk, .int pm, .int co, .ref pa, .int pl, .ref xa, .ref ya, .int mb, .ref ea, .ref wa]))] := hD
              have e_0 : gR_set_0 we le what pct = (0 : Int32) := (if_neg c_1).trans ((if_pos c_4).trans ((if_pos c_5).trans ((if_neg c_9).trans (rfl))))
              have e_1 : gR_set_8 we le what pct = we := (if_neg c_1).trans ((if_pos c_4).trans ((if_pos c_5).trans ((if_neg c_9).trans (rfl))))
              have e_2 : gR_set_9 we le what pct = pct.toInt64 := (if_neg c_1).trans ((if_pos c_4).trans ((if_pos c_5).trans ((if_neg c_9).trans (rfl))))
              have hP9 := hP.sub (ws' := [(h0, .inr (3, [.int 0, .ref ta, .int zs, .int po, .int fa, .ref da, .ref ra, .ref la, .long we, .long pct.toInt64, .int pk, .int pm, .int co, .ref pa, .int pl, .ref xa, .ref ya, .int mb, .ref ea, .ref wa]))]) [0] rfl
              have hD9 := hD.sub (ws' := [(h0, .inr (3, [.int 0, .ref ta, .int zs, .int po, .int fa, .ref da, .ref ra, .ref la, .long we, .long pct.toInt64, .int pk, .int pm, .int co, .ref pa, .int pl, .ref xa, .ref ya, .int mb, .ref ea, .ref wa]))]) [0] (by decide) rfl
              exact W.vret hx hb hr (fun t ht hW => ⟨_, _, rfl, ⟨by first | rfl | (simp only [e_0, e_1, e_2]; try rfl), by first | rfl | (simp only [e_0, e_1, e_2]; try rfl)⟩, by rw [ht]; exact hP9, hD9, hS.F ht⟩) hS.2.2 dR_set_70
          · refine lv_aload_n hx hb dR_set_48 rfl (lv_at hl 0 rfl) ?_
            refine lv_iload_n hx hb dR_set_49 rfl (lv_at hl 2 rfl) ?_
            refine lv_i2l hx hb dR_set_50 rfl ?_
            refine va_put (D := (dC, dI)) (ci := 3) (v := .long pct.toInt64) (ty := .long) (C := xR_R) (T := xF_R) (N := 20) hx hb hts xi_R xt_R xt_R_ok xn_R hown hK hP hD hS 0 rfl rfl 8 (by decide) (hts _ xk_654) (fun _ h9 => h9) rfl (by decide +kernel) rfl rfl (Nat.le_of_ble_eq_true rfl) dR_set_51 (fun H locs hP hD hS => ?_)
            have hP : va_P (dC, dI) classes [(h0, .inr (3, [.int 0, .ref ta, .int zs, .int po, .int fa, .ref da, .ref ra, .ref la, .long pct.toInt64, .long le, .int pk, .int pm, .int co, .ref pa, .int pl, .ref xa, .ref ya, .int mb, .ref ea, .ref wa]))] H := hP
            have hD : va_D A [(h0, .inr (3, [.int 0, .ref ta, .int zs, .int po, .int fa, .ref da, .ref ra, .ref la, .long pct.toInt64, .long le, .int pk, .int pm, .int co, .ref pa, .int pl, .ref xa, .ref ya, .int mb, .ref ea, .ref wa]))] := hD
            refine lv_goto (tgt := 70) hx hb dR_set_54 (by decide) ?_
            have e_0 : gR_set_0 we le what pct = (0 : Int32) := (if_neg c_1).trans ((if_pos c_4).trans ((if_pos c_5).trans ((if_pos c_9).trans (rfl))))
            have e_1 : gR_set_8 we le what pct = pct.toInt64 := (if_neg c_1).trans ((if_pos c_4).trans ((if_pos c_5).trans ((if_pos c_9).trans (rfl))))
            have e_2 : gR_set_9 we le what pct = le := (if_neg c_1).trans ((if_pos c_4).trans ((if_pos c_5).trans ((if_pos c_9).trans (rfl))))
            have hP9 := hP.sub (ws' := [(h0, .inr (3, [.int 0, .ref ta, .int zs, .int po, .int fa, .ref da, .ref ra, .ref la, .long pct.toInt64, .long le, .int pk, .int pm, .int co, .ref pa, .int pl, .ref xa, .ref ya, .int mb, .ref ea, .ref wa]))]) [0] rfl
            have hD9 := hD.sub (ws' := [(h0, .inr (3, [.int 0, .ref ta, .int zs, .int po, .int fa, .ref da, .ref ra, .ref la, .long pct.toInt64, .long le, .int pk, .int pm, .int co, .ref pa, .int pl, .ref xa, .ref ya, .int mb, .ref ea, .ref wa]))]) [0] (by decide) rfl
            exact W.vret hx hb hr (fun t ht hW => ⟨_, _, rfl, ⟨by first | rfl | (simp only [e_0, e_1, e_2]; try rfl), by first | rfl | (simp only [e_0, e_1, e_2]; try rfl)⟩, by rw [ht]; exact hP9, hD9, hS.F ht⟩) hS.2.2 dR_set_70
    · refine lv_iconst (v := 1) hx hb dR_set_10 (by decide) ?_
      refine lv_goto (tgt := 34) hx hb dR_set_11 (by decide) ?_
      refine va_put (D := (dC, dI)) (ci := 3) (v := .int 1) (ty := .int) (C := xR_R) (T := xF_R) (N := 20) hx hb hts xi_R xt_R xt_R_ok xn_R hown hK hP hD hS 0 rfl rfl 0 (by decide) (hts _ xk_646) (fun _ h9 => h9) rfl (by decide +kernel) rfl rfl (Nat.le_of_ble_eq_true rfl) dR_set_34 (fun H locs hP hD hS => ?_)
      have hP : va_P (dC, dI) classes [(h0, .inr (3, [.int 1, .ref ta, .int zs, .int po, .int fa, .ref da, .ref ra, .ref la, .long we, .long le, .int pk, .int pm, .int co, .ref pa, .int pl, .ref xa, .ref ya, .int mb, .ref ea, .ref wa]))] H := hP
      have hD : va_D A [(h0, .inr (3, [.int 1, .ref ta, .int zs, .int po, .int fa, .ref da, .ref ra, .ref la, .long we, .long le, .int pk, .int pm, .int co, .ref pa, .int pl, .ref xa, .ref ya, .int mb, .ref ea, .ref wa]))] := hD
      refine lv_aload_n hx hb dR_set_37 rfl (lv_at hl 0 rfl) ?_
      refine va_get (D := (dC, dI)) (ci := 3) (v := .int 1) (C := xR_R) (T := xF_R) (N := 20) hx hb hts xi_R hown hK hP 0 rfl rfl 0 (by decide) (hts _ xk_646) (fun _ h9 => h9) rfl dR_set_38 ?_
      refine lv_if_ne (tgt := 57) hx hb dR_set_41 (by decide) (fun c_11 => ?_) (fun c_11 => ?_)
      · refine lv_aload_n hx hb dR_set_57 rfl (lv_at hl 0 rfl) ?_
        refine va_get (D := (dC, dI)) (ci := 3) (v := .int 1) (C := xR_R) (T := xF_R) (N := 20) hx hb hts xi_R hown hK hP 0 rfl rfl 0 (by decide) (hts _ xk_646) (fun _ h9 => h9) rfl dR_set_58 ?_
        refine lv_if_ne (tgt := 70) hx hb dR_set_61 (by decide) (fun c_12 => ?_) (fun c_12 => ?_)
        · have e_0 : gR_set_0 we le what pct = (1 : Int32) := (if_neg c_1).trans ((if_neg c_4).trans (rfl))
          have e_1 : gR_set_8 we le what pct = we := (if_neg c_1).trans ((if_neg c_4).trans (rfl))
          have e_2 : gR_set_9 we le what pct = le := (if_neg c_1).trans ((if_neg c_4).trans (rfl))
          have hP9 := hP.sub (ws' := [(h0, .inr (3, [.int 1, .ref ta, .int zs, .int po, .int fa, .ref da, .ref ra, .ref la, .long we, .long le, .int pk, .int pm, .int co, .ref pa, .int pl, .ref xa, .ref ya, .int mb, .ref ea, .ref wa]))]) [0] rfl
          have hD9 := hD.sub (ws' := [(h0, .inr (3, [.int 1, .ref ta, .int zs, .int po, .int fa, .ref da, .ref ra, .ref la, .long we, .long le, .int pk, .int pm, .int co, .ref pa, .int pl, .ref xa, .ref ya, .int mb, .ref ea, .ref wa]))]) [0] (by decide) rfl
          exact W.vret hx hb hr (fun t ht hW => ⟨_, _, rfl, ⟨by first | rfl | (simp only [e_0, e_1, e_2]; try rfl), by first | rfl | (simp only [e_0, e_1, e_2]; try rfl)⟩, by rw [ht]; exact hP9, hD9, hS.F ht⟩) hS.2.2 dR_set_70
        · exact absurd c_12 (by decide)
      · exact absurd c_11 (by decide)

def gR_together (le : Int64) (n : Int32) (one : Int64) : Int64 := if (fR_isIn n.toInt64 (0) (1000)) = true then (if (fR_isIn one (0) (1000000000000)) = true then (fR_all le n.toInt64 one) else ((0))) else ((0))
def gR_together_0 (le : Int64) (n : Int32) (one : Int64) : Int32 := if (fR_isIn n.toInt64 (0) (1000)) = true then (if (fR_isIn one (0) (1000000000000)) = true then ((0)) else ((1))) else ((1))
set_option maxHeartbeats 4000000 in
set_option maxRecDepth 100000 in
theorem cR_together (l : Launch) {s0 : State} {dC : Nat → ClassId} {dI : Nat → Nat → Nat} {cI cC cL : ClassId} (E : xb_Env l s0 dC dI (xtys cI cC cL)) (sz : Nat) (h0 : Nat) (th : Int32) (ta : Nat) (zs : Int32) (po : Int32) (fa : Int32) (da : Nat) (ra : Nat) (la : Nat) (we : Int64) (le : Int64) (pk : Int32) (pm : Int32) (co : Int32) (pa : Nat) (pl : Int32) (xa : Nat) (ya : Nat) (mb : Int32) (ea : Nat) (wa : Nat) (n : Int32) (one : Int64) : Met l yR_together [.code yR_together bR_together 4 (some (.long))] ({ frames := 1, cells := 0, slots := 0, locals := 26 }) (va_Pc [.ref h0, .int n, .long one] (fun U => xb_At s0 U ∧ U.heap.size = sz ∧ va_P (dC, dI) classes [(h0, .inr (3, [.int th, .ref ta, .int zs, .int po, .int fa, .ref da, .ref ra, .ref la, .long we, .long le, .int pk, .int pm, .int co, .ref pa, .int pl, .ref xa, .ref ya, .int mb, .ref ea, .ref wa]))] U.heap ∧ va_D (fun q => s0.heap.size ≤ q) [(h0, .inr (3, [.int th, .ref ta, .int zs, .int po, .int fa, .ref da, .ref ra, .ref la, .long we, .long le, .int pk, .int pm, .int co, .ref pa, .int pl, .ref xa, .ref ya, .int mb, .ref ea, .ref wa]))])) (xb_W (dC, dI) (fun v w => v = some (.long (gR_together le n one)) ∧ w = [(h0, .inr (3, [.int (gR_together_0 le n one), .ref ta, .int zs, .int po, .int fa, .ref da, .ref ra, .ref la, .long we, .long le, .int pk, .int pm, .int co, .ref pa, .int pl, .ref xa, .ref ya, .int mb, .ref ea, .ref wa]))]) (va_A [(h0, .inr (3, [.int th, .ref ta, .int zs, .int po, .int fa, .ref da, .ref ra, .ref la, .long we, .long le, .int pk, .int pm, .int co, .ref pa, .int pl, .ref xa, .ref ya, .int mb, .ref ea, .ref wa]))] sz)) 0 0 (va_A [(h0, .inr (3, [.int th, .ref ta, .int zs, .int po, .int fa, .ref da, .ref ra, .ref la, .long we, .long le, .int pk, .int pm, .int co, .ref pa, .int pl, .ref xa, .ref ya, .int mb, .ref ea, .ref wa]))] sz) := by
  refine Met.ofW (cc := bR_together) (maxL := 4) (ret := (some (.long))) (by decide) rfl ?_
  intro p e s m args below meth c s₁ B hml hv
  obtain ⟨rfl, hAt, hsz, hP, hD0⟩ := hv
  have hx := B.exec
  have hb := B.bytes
  have hr := B.returns
  have hts := xb_hts E hAt ([.ref h0, .int n, .long one] : List Value).toArray
  have hown : s.vm.findClass "NailRulesModel" = some m.cls := findClass_of_methodNamed B.named
  have hlocks := B.notSynchronized
  have hK := xb_K E hAt
  subst hsz
  have hA0 := xb_A0 hAt hD0
  have hD := hD0.self (sz := s.heap.size)
  generalize hAe : va_A [(h0, .inr (3, [.int th, .ref ta, .int zs, .int po, .int fa, .ref da, .ref ra, .ref la, .long we, .long le, .int pk, .int pm, .int co, .ref pa, .int pl, .ref xa, .ref ya, .int mb, .ref ea, .ref wa]))] s.heap.size = A at hD hA0 ⊢
  have hA : ∀ q : Nat, s.heap.size ≤ q → A q := fun q h => by rw [← hAe]; exact Or.inr h
  have hS : va_S A s.heap s.heap [] := va_S.rf
  have hl := lv_entry ([.ref h0, .int n, .long one]) (n := 4) (Nat.le_of_ble_eq_true rfl)
  rw [lg_entry_eq]
  generalize (lg_sl ([.ref h0, .int n, .long one]) ++ List.replicate (4 - (lg_sl ([.ref h0, .int n, .long one])).length) Slot.unset).toArray = ls at hl ⊢
  have hl : lv_has ls 4 [(0, .ref h0), (1, .int n), (2, .long one)] := hl
  refine lv_aload_n hx hb dR_together_0 rfl (lv_at hl 0 rfl) ?_
  refine lv_iload_n hx hb dR_together_1 rfl (lv_at hl 1 rfl) ?_
  refine lv_i2l hx hb dR_together_2 rfl ?_
  refine lv_lconst (v := 0) hx hb dR_together_3 (by decide) ?_
  refine lv_ldc2 (v := 1000) hx hb hown (hts _ xk_765) dR_together_4 ?_
  refine xb_rd (W.runS (As := [.long n.toInt64, .long 0, .long 1000]) (rest := [.ref h0]) ⟨hx, hb, hml, hown, hts⟩ (cR_isIn l E n.toInt64 0 1000) (cwS 3 hts (xb_gi (List.forall_mem_cons.mpr ⟨xk_754, List.forall_mem_cons.mpr ⟨xk_755, List.forall_mem_cons.mpr ⟨xk_45, List.forall_mem_cons.mpr ⟨xk_756, fun _ h => absurd h List.not_mem_nil⟩⟩⟩⟩)) rfl rfl rfl (by decide +kernel) ⟨Nat.le_of_ble_eq_true rfl, Nat.le_of_ble_eq_true rfl⟩) ⟨fun _ _ _ _ q => q, fun U hU hW => ⟨rfl, xb_atS hAt hS hA0 hU hW, fun k q h => by simp at h⟩⟩ rfl rfl hl.1 rfl (lv_room (Nat.le_of_ble_eq_true rfl)) dR_together_7 ⟨Nat.zero_le _, Nat.zero_le _⟩) ?_
  refine lv_if_eq (tgt := 28) hx hb dR_together_10 (by decide) (fun c_1 => ?_) (fun c_1 => ?_)
  · have c_1 := xb_bi_f.mp c_1
    refine lv_iconst (v := 1) hx hb dR_together_28 (by decide) ?_
    refine va_put (D := (dC, dI)) (ci := 3) (v := .int 1) (ty := .int) (C := xR_R) (T := xF_R) (N := 20) hx hb hts xi_R xt_R xt_R_ok xn_R hown hK hP hD hS 0 rfl rfl 0 (by decide) (hts _ xk_646) (fun _ h9 => h9) rfl (by decide +kernel) rfl rfl (Nat.le_of_ble_eq_true rfl) dR_together_29 (fun H locs hP hD hS => ?_)
    have hP : va_P (dC, dI) classes [(h0, .inr (3, [.int 1, .ref ta, .int zs, .int po, .int fa, .ref da, .ref ra, .ref la, .long we, .long le, .int pk, .int pm, .int co, .ref pa, .int pl, .ref xa, .ref ya, .int mb, .ref ea, .ref wa]))] H := hP
    have hD : va_D A [(h0, .inr (3, [.int 1, .ref ta, .int zs, .int po, .int fa, .ref da, .ref ra, .ref la, .long we, .long le, .int pk, .int pm, .int co, .ref pa, .int pl, .ref xa, .ref ya, .int mb, .ref ea, .ref wa]))] := hD
    refine lv_aload_n hx hb dR_together_32 rfl (lv_at hl 0 rfl) ?_
    refine va_get (D := (dC, dI)) (ci := 3) (v := .int 1) (C := xR_R) (T := xF_R) (N := 20) hx hb hts xi_R hown hK hP 0 rfl rfl 0 (by decide) (hts _ xk_646) (fun _ h9 => h9) rfl dR_together_33 ?_
    refine lv_if_le (tgt := 43) hx hb dR_together_36 (by decide) (fun c_2 => ?_) (fun c_2 => ?_)
    · exact absurd c_2 (by decide)
    · refine lv_lconst (v := 0) hx hb dR_together_39 (by decide) ?_
      refine lv_goto (tgt := 50) hx hb dR_together_40 (by decide) ?_
      have e_0 : gR_together le n one = (0 : Int64) := (if_neg c_1).trans (rfl)
      have e_1 : gR_together_0 le n one = (1 : Int32) := (if_neg c_1).trans (rfl)
      have hP9 := hP.sub (ws' := [(h0, .inr (3, [.int 1, .ref ta, .int zs, .int po, .int fa, .ref da, .ref ra, .ref la, .long we, .long le, .int pk, .int pm, .int co, .ref pa, .int pl, .ref xa, .ref ya, .int mb, .ref ea, .ref wa]))]) [0] rfl
      have hD9 := hD.sub (ws' := [(h0, .inr (3, [.int 1, .ref ta, .int zs, .int po, .int fa, .ref da, .ref ra, .ref la, .long we, .long le, .int pk, .int pm, .int co, .ref pa, .int pl, .ref xa, .ref ya, .int mb, .ref ea, .ref wa]))]) [0] (by decide) rfl
      exact W.lret (v := 0) hx hb hr (fun t ht hW => ⟨_, _, rfl, ⟨by first | rfl | (simp only [e_0, e_1]; try rfl), by first | rfl | (simp only [e_0, e_1]; try rfl)⟩, by rw [ht]; exact hP9, hD9, hS.F ht⟩) hS.2.2 dR_together_50
  · have c_1 := xb_bi_t.mp c_1
    refine lv_lload_n hx hb dR_together_13 rfl (lv_at hl 2 rfl) ?_
    refine lv_lconst (v := 0) hx hb dR_together_14 (by decide) ?_
    refine lv_ldc2 (v := 1000000000000) hx hb hown (hts _ xk_777) dR_together_15 ?_
    refine xb_rd (W.runS (As := [.long one, .long 0, .long 1000000000000]) (rest := [.ref h0]) ⟨hx, hb, hml, hown, hts⟩ (cR_isIn l E one 0 1000000000000) (cwS 3 hts (xb_gi (List.forall_mem_cons.mpr ⟨xk_754, List.forall_mem_cons.mpr ⟨xk_755, List.forall_mem_cons.mpr ⟨xk_45, List.forall_mem_cons.mpr ⟨xk_756, fun _ h => absurd h List.not_mem_nil⟩⟩⟩⟩)) rfl rfl rfl (by decide +kernel) ⟨Nat.le_of_ble_eq_true rfl, Nat.le_of_ble_eq_true rfl⟩) ⟨fun _ _ _ _ q => q, fun U hU hW => ⟨rfl, xb_atS hAt hS hA0 hU hW, fun k q h => by simp at h⟩⟩ rfl rfl hl.1 rfl (lv_room (Nat.le_of_ble_eq_true rfl)) dR_together_18 ⟨Nat.zero_le _, Nat.zero_le _⟩) ?_
    refine lv_if_eq (tgt := 28) hx hb dR_together_21 (by decide) (fun c_3 => ?_) (fun c_3 => ?_)
    · have c_3 := xb_bi_f.mp c_3
      refine lv_iconst (v := 1) hx hb dR_together_28 (by decide) ?_
      refine va_put (D := (dC, dI)) (ci := 3) (v := .int 1) (ty := .int) (C := xR_R) (T := xF_R) (N := 20) hx hb hts xi_R xt_R xt_R_ok xn_R hown hK hP hD hS 0 rfl rfl 0 (by decide) (hts _ xk_646) (fun _ h9 => h9) rfl (by decide +kernel) rfl rfl (Nat.le_of_ble_eq_true rfl) dR_together_29 (fun H locs hP hD hS => ?_)
      have hP : va_P (dC, dI) classes [(h0, .inr (3, [.int 1, .ref ta, .int zs, .int po, .int fa, .ref da, .ref ra, .ref la, .long we, .long le, .int pk, .int pm, .int co, .ref pa, .int pl, .ref xa, .ref ya, .int mb, .ref ea, .ref wa]))] H := hP
      have hD : va_D A [(h0, .inr (3, [.int 1, .ref ta, .int zs, .int po, .int fa, .ref da, .ref ra, .ref la, .long we, .long le, .int pk, .int pm, .int co, .ref pa, .int pl, .ref xa, .ref ya, .int mb, .ref ea, .ref wa]))] := hD
      refine lv_aload_n hx hb dR_together_32 rfl (lv_at hl 0 rfl) ?_
      refine va_get (D := (dC, dI)) (ci := 3) (v := .int 1) (C := xR_R) (T := xF_R) (N := 20) hx hb hts xi_R hown hK hP 0 rfl rfl 0 (by decide) (hts _ xk_646) (fun _ h9 => h9) rfl dR_together_33 ?_
      refine lv_if_le (tgt := 43) hx hb dR_together_36 (by decide) (fun c_4 => ?_) (fun c_4 => ?_)
      · exact absurd c_4 (by decide)
      · refine lv_lconst (v := 0) hx hb dR_together_39 (by decide) ?_
        refine lv_goto (tgt := 50) hx hb dR_together_40 (by decide) ?_
        have e_0 : gR_together le n one = (0 : Int64) := (if_pos c_1).trans ((if_neg c_3).trans (rfl))
        have e_1 : gR_together_0 le n one = (1 : Int32) := (if_pos c_1).trans ((if_neg c_3).trans (rfl))
        have hP9 := hP.sub (ws' := [(h0, .inr (3, [.int 1, .ref ta, .int zs, .int po, .int fa, .ref da, .ref ra, .ref la, .long we, .long le, .int pk, .int pm, .int co, .ref pa, .int pl, .ref xa, .ref ya, .int mb, .ref ea, .ref wa]))]) [0] rfl
        have hD9 := hD.sub (ws' := [(h0, .inr (3, [.int 1, .ref ta, .int zs, .int po, .int fa, .ref da, .ref ra, .ref la, .long we, .long le, .int pk, .int pm, .int co, .ref pa, .int pl, .ref xa, .ref ya, .int mb, .ref ea, .ref wa]))]) [0] (by decide) rfl
        exact W.lret (v := 0) hx hb hr (fun t ht hW => ⟨_, _, rfl, ⟨by first | rfl | (simp only [e_0, e_1]; try rfl), by first | rfl | (simp only [e_0, e_1]; try rfl)⟩, by rw [ht]; exact hP9, hD9, hS.F ht⟩) hS.2.2 dR_together_50
    · have c_3 := xb_bi_t.mp c_3
      refine lv_iconst (v := 0) hx hb dR_together_24 (by decide) ?_
      refine lv_goto (tgt := 29) hx hb dR_together_25 (by decide) ?_
      refine va_put (D := (dC, dI)) (ci := 3) (v := .int 0) (ty := .int) (C := xR_R) (T := xF_R) (N := 20) hx hb hts xi_R xt_R xt_R_ok xn_R hown hK hP hD hS 0 rfl rfl 0 (by decide) (hts _ xk_646) (fun _ h9 => h9) rfl (by decide +kernel) rfl rfl (Nat.le_of_ble_eq_true rfl) dR_together_29 (fun H locs hP hD hS => ?_)
      have hP : va_P (dC, dI) classes [(h0, .inr (3, [.int 0, .ref ta, .int zs, .int po, .int fa, .ref da, .ref ra, .ref la, .long we, .long le, .int pk, .int pm, .int co, .ref pa, .int pl, .ref xa, .ref ya, .int mb, .ref ea, .ref wa]))] H := hP
      have hD : va_D A [(h0, .inr (3, [.int 0, .ref ta, .int zs, .int po, .int fa, .ref da, .ref ra, .ref la, .long we, .long le, .int pk, .int pm, .int co, .ref pa, .int pl, .ref xa, .ref ya, .int mb, .ref ea, .ref wa]))] := hD
      refine lv_aload_n hx hb dR_together_32 rfl (lv_at hl 0 rfl) ?_
      refine va_get (D := (dC, dI)) (ci := 3) (v := .int 0) (C := xR_R) (T := xF_R) (N := 20) hx hb hts xi_R hown hK hP 0 rfl rfl 0 (by decide) (hts _ xk_646) (fun _ h9 => h9) rfl dR_together_33 ?_
      refine lv_if_le (tgt := 43) hx hb dR_together_36 (by decide) (fun c_5 => ?_) (fun c_5 => ?_)
      · refine lv_aload_n hx hb dR_together_43 rfl (lv_at hl 0 rfl) ?_
        refine lv_iload_n hx hb dR_together_44 rfl (lv_at hl 1 rfl) ?_
        refine lv_i2l hx hb dR_together_45 rfl ?_
        refine lv_lload_n hx hb dR_together_46 rfl (lv_at hl 2 rfl) ?_
        refine xb_rd (W.runV (C := "NailRulesModel") (As := [.long n.toInt64, .long one]) (rest := []) ⟨hx, hb, hml, hown, hts⟩ (cR_all l E h0 ([.int 0, .ref ta, .int zs, .int po, .int fa, .ref da, .ref ra, .ref la, .long we, .long le, .int pk, .int pm, .int co, .ref pa, .int pl, .ref xa, .ref ya, .int mb, .ref ea, .ref wa]) le n.toInt64 one rfl) (cwV 2 hts (xb_gi (List.forall_mem_cons.mpr ⟨xk_778, List.forall_mem_cons.mpr ⟨xk_780, List.forall_mem_cons.mpr ⟨xk_35, List.forall_mem_cons.mpr ⟨xk_45, List.forall_mem_cons.mpr ⟨xk_781, fun _ h => absurd h List.not_mem_nil⟩⟩⟩⟩⟩)) rfl rfl rfl (by decide +kernel) ⟨Nat.le_of_ble_eq_true rfl, Nat.le_of_ble_eq_true rfl⟩) ⟨fun _ _ _ _ q => q, va_recv hK hP (ci := 3) (q0 := 0) rfl rfl, fun U hU hW => ⟨rfl, xb_atS hAt hS hA0 hU hW, by rw [hU]; exact hP.sub (ws' := [(h0, .inr (3, [.int 0, .ref ta, .int zs, .int po, .int fa, .ref da, .ref ra, .ref la, .long we, .long le, .int pk, .int pm, .int co, .ref pa, .int pl, .ref xa, .ref ya, .int mb, .ref ea, .ref wa]))]) [0] rfl⟩⟩ rfl rfl hl.1 rfl (lv_room (Nat.le_of_ble_eq_true rfl)) dR_together_47 ⟨Nat.zero_le _, Nat.zero_le _⟩) ?_
        have e_0 : gR_together le n one = (fR_all le n.toInt64 one) := (if_pos c_1).trans ((if_pos c_3).trans (rfl))
        have e_1 : gR_together_0 le n one = (0 : Int32) := (if_pos c_1).trans ((if_pos c_3).trans (rfl))
        have hP9 := hP.sub (ws' := [(h0, .inr (3, [.int 0, .ref ta, .int zs, .int po, .int fa, .ref da, .ref ra, .ref la, .long we, .long le, .int pk, .int pm, .int co, .ref pa, .int pl, .ref xa, .ref ya, .int mb, .ref ea, .ref wa]))]) [0] rfl
        have hD9 := hD.sub (ws' := [(h0, .inr (3, [.int 0, .ref ta, .int zs, .int po, .int fa, .ref da, .ref ra, .ref la, .long we, .long le, .int pk, .int pm, .int co, .ref pa, .int pl, .ref xa, .ref ya, .int mb, .ref ea, .ref wa]))]) [0] (by decide) rfl
        exact W.lret (v := (fR_all le n.toInt64 one)) hx hb hr (fun t ht hW => ⟨_, _, rfl, ⟨by first | rfl | (simp only [e_0, e_1]; try rfl), by first | rfl | (simp only [e_0, e_1]; try rfl)⟩, by rw [ht]; exact hP9, hD9, hS.F ht⟩) hS.2.2 dR_together_50
      · exact absurd c_5 (by decide)

def gR_place (xf : Nat → Int32) (yf : Nat → Int32) (pl : Int32) (x : Int32) (y : Int32) : Int32 := if (fR_isIn x.toInt64 (0) (100000)) = true then (if (fR_isIn y.toInt64 (0) (100000)) = true then (if pl = 32 then ((0)) else (pl + 1)) else ((0))) else ((0))
def gR_place_0 (xf : Nat → Int32) (yf : Nat → Int32) (pl : Int32) (x : Int32) (y : Int32) : Int32 := if (fR_isIn x.toInt64 (0) (100000)) = true then (if (fR_isIn y.toInt64 (0) (100000)) = true then (if pl = 32 then ((2)) else ((0))) else ((1))) else ((1))
def gR_place_14 (xf : Nat → Int32) (yf : Nat → Int32) (pl : Int32) (x : Int32) (y : Int32) : Int32 := if (fR_isIn x.toInt64 (0) (100000)) = true then (if (fR_isIn y.toInt64 (0) (100000)) = true then (if pl = 32 then (pl) else (pl + 1)) else (pl)) else (pl)
def gR_place_x (xf : Nat → Int32) (yf : Nat → Int32) (pl : Int32) (x : Int32) (y : Int32) : Nat → Int32 := if (fR_isIn x.toInt64 (0) (100000)) = true then (if (fR_isIn y.toInt64 (0) (100000)) = true then (if pl = 32 then (xf) else (upd xf pl.toNatClampNeg x)) else (xf)) else (xf)
def gR_place_y (xf : Nat → Int32) (yf : Nat → Int32) (pl : Int32) (x : Int32) (y : Int32) : Nat → Int32 := if (fR_isIn x.toInt64 (0) (100000)) = true then (if (fR_isIn y.toInt64 (0) (100000)) = true then (if pl = 32 then (yf) else (upd yf pl.toNatClampNeg y)) else (yf)) else (yf)
set_option maxHeartbeats 4000000 in
set_option maxRecDepth 100000 in
theorem cR_place (l : Launch) {s0 : State} {dC : Nat → ClassId} {dI : Nat → Nat → Nat} {cI cC cL : ClassId} (E : xb_Env l s0 dC dI (xtys cI cC cL)) (sz : Nat) (h0 : Nat) (xa : Nat) (ya : Nat) (th : Int32) (ta : Nat) (zs : Int32) (po : Int32) (fa : Int32) (da : Nat) (ra : Nat) (la : Nat) (we : Int64) (le : Int64) (pk : Int32) (pm : Int32) (co : Int32) (pa : Nat) (pl : Int32) (mb : Int32) (ea : Nat) (wa : Nat) (xf : Nat → Int32) (yf : Nat → Int32) (x : Int32) (y : Int32) (q0 : 0 ≤ pl) (q1 : pl ≤ 32) : Met l yR_place [.code yR_place bR_place 3 (some (.int))] ({ frames := 1, cells := 0, slots := 0, locals := 25 }) (va_Pc [.ref h0, .int x, .int y] (fun U => xb_At s0 U ∧ U.heap.size = sz ∧ va_P (dC, dI) classes [(h0, .inr (3, [.int th, .ref ta, .int zs, .int po, .int fa, .ref da, .ref ra, .ref la, .long we, .long le, .int pk, .int pm, .int co, .ref pa, .int pl, .ref xa, .ref ya, .int mb, .ref ea, .ref wa])), (xa, .inl (cI, 32, .inl xf)), (ya, .inl (cI, 32, .inl yf))] U.heap ∧ va_D (fun q => s0.heap.size ≤ q) [(h0, .inr (3, [.int th, .ref ta, .int zs, .int po, .int fa, .ref da, .ref ra, .ref la, .long we, .long le, .int pk, .int pm, .int co, .ref pa, .int pl, .ref xa, .ref ya, .int mb, .ref ea, .ref wa])), (xa, .inl (cI, 32, .inl xf)), (ya, .inl (cI, 32, .inl yf))])) (xb_W (dC, dI) (fun v w => v = some (.int (gR_place xf yf pl x y)) ∧ w = [(h0, .inr (3, [.int (gR_place_0 xf yf pl x y), .ref ta, .int zs, .int po, .int fa, .ref da, .ref ra, .ref la, .long we, .long le, .int pk, .int pm, .int co, .ref pa, .int (gR_place_14 xf yf pl x y), .ref xa, .ref ya, .int mb, .ref ea, .ref wa])), (xa, .inl (cI, 32, .inl (gR_place_x xf yf pl x y))), (ya, .inl (cI, 32, .inl (gR_place_y xf yf pl x y)))]) (va_A [(h0, .inr (3, [.int th, .ref ta, .int zs, .int po, .int fa, .ref da, .ref ra, .ref la, .long we, .long le, .int pk, .int pm, .int co, .ref pa, .int pl, .ref xa, .ref ya, .int mb, .ref ea, .ref wa])), (xa, .inl (cI, 32, .inl xf)), (ya, .inl (cI, 32, .inl yf))] sz)) 0 0 (va_A [(h0, .inr (3, [.int th, .ref ta, .int zs, .int po, .int fa, .ref da, .ref ra, .ref la, .long we, .long le, .int pk, .int pm, .int co, .ref pa, .int pl, .ref xa, .ref ya, .int mb, .ref ea, .ref wa])), (xa, .inl (cI, 32, .inl xf)), (ya, .inl (cI, 32, .inl yf))] sz) := by
  refine Met.ofW (cc := bR_place) (maxL := 3) (ret := (some (.int))) (by decide) rfl ?_
  intro p e s m args below meth c s₁ B hml hv
  obtain ⟨rfl, hAt, hsz, hP, hD0⟩ := hv
  have hx := B.exec
  have hb := B.bytes
  have hr := B.returns
  have hts := xb_hts E hAt ([.ref h0, .int x, .int y] : List Value).toArray
  have hown : s.vm.findClass "NailRulesModel" = some m.cls := findClass_of_methodNamed B.named
  have hlocks := B.notSynchronized
  have hK := xb_K E hAt
  subst hsz
  have hA0 := xb_A0 hAt hD0
  have hD := hD0.self (sz := s.heap.size)
  generalize hAe : va_A [(h0, .inr (3, [.int th, .ref ta, .int zs, .int po, .int fa, .ref da, .ref ra, .ref la, .long we, .long le, .int pk, .int pm, .int co, .ref pa, .int pl, .ref xa, .ref ya, .int mb, .ref ea, .ref wa])), (xa, .inl (cI, 32, .inl xf)), (ya, .inl (cI, 32, .inl yf))] s.heap.size = A at hD hA0 ⊢
  have hA : ∀ q : Nat, s.heap.size ≤ q → A q := fun q h => by rw [← hAe]; exact Or.inr h
  have hS : va_S A s.heap s.heap [] := va_S.rf
  have hl := lv_entry ([.ref h0, .int x, .int y]) (n := 3) (Nat.le_of_ble_eq_true rfl)
  rw [lg_entry_eq]
  generalize (lg_sl ([.ref h0, .int x, .int y]) ++ List.replicate (3 - (lg_sl ([.ref h0, .int x, .int y])).length) Slot.unset).toArray = ls at hl ⊢
  have hl : lv_has ls 3 [(0, .ref h0), (1, .int x), (2, .int y)] := hl
  refine lv_aload_n hx hb dR_place_0 rfl (lv_at hl 0 rfl) ?_
  refine lv_iload_n hx hb dR_place_1 rfl (lv_at hl 1 rfl) ?_
  refine lv_i2l hx hb dR_place_2 rfl ?_
  refine lv_lconst (v := 0) hx hb dR_place_3 (by decide) ?_
  refine lv_ldc2 (v := 100000) hx hb hown (hts _ xk_791) dR_place_4 ?_
  refine xb_rd (W.runS (As := [.long x.toInt64, .long 0, .long 100000]) (rest := [.ref h0]) ⟨hx, hb, hml, hown, hts⟩ (cR_isIn l E x.toInt64 0 100000) (cwS 3 hts (xb_gi (List.forall_mem_cons.mpr ⟨xk_754, List.forall_mem_cons.mpr ⟨xk_755, List.forall_mem_cons.mpr ⟨xk_45, List.forall_mem_cons.mpr ⟨xk_756, fun _ h => absurd h List.not_mem_nil⟩⟩⟩⟩)) rfl rfl rfl (by decide +kernel) ⟨Nat.le_of_ble_eq_true rfl, Nat.le_of_ble_eq_true rfl⟩) ⟨fun _ _ _ _ q => q, fun U hU hW => ⟨rfl, xb_atS hAt hS hA0 hU hW, fun k q h => by simp at h⟩⟩ rfl rfl hl.1 rfl (lv_room (Nat.le_of_ble_eq_true rfl)) dR_place_7 ⟨Nat.zero_le _, Nat.zero_le _⟩) ?_
  refine lv_if_eq (tgt := 25) hx hb dR_place_10 (by decide) (fun c_1 => ?_) (fun c_1 => ?_)
  · have c_1 := xb_bi_f.mp c_1
    refine lv_iconst (v := 1) hx hb dR_place_25 (by decide) ?_
    refine lv_goto (tgt := 43) hx hb dR_place_26 (by decide) ?_
    refine va_put (D := (dC, dI)) (ci := 3) (v := .int 1) (ty := .int) (C := xR_R) (T := xF_R) (N := 20) hx hb hts xi_R xt_R xt_R_ok xn_R hown hK hP hD hS 0 rfl rfl 0 (by decide) (hts _ xk_646) (fun _ h9 => h9) rfl (by decide +kernel) rfl rfl (Nat.le_of_ble_eq_true rfl) dR_place_43 (fun H locs hP hD hS => ?_)
    have hP : va_P (dC, dI) classes [(h0, .inr (3, [.int 1, .ref ta, .int zs, .int po, .int fa, .ref da, .ref ra, .ref la, .long we, .long le, .int pk, .int pm, .int co, .ref pa, .int pl, .ref xa, .ref ya, .int mb, .ref ea, .ref wa])), (xa, .inl (cI, 32, .inl xf)), (ya, .inl (cI, 32, .inl yf))] H := hP
    have hD : va_D A [(h0, .inr (3, [.int 1, .ref ta, .int zs, .int po, .int fa, .ref da, .ref ra, .ref la, .long we, .long le, .int pk, .int pm, .int co, .ref pa, .int pl, .ref xa, .ref ya, .int mb, .ref ea, .ref wa])), (xa, .inl (cI, 32, .inl xf)), (ya, .inl (cI, 32, .inl yf))] := hD
    refine lv_aload_n hx hb dR_place_46 rfl (lv_at hl 0 rfl) ?_
    refine va_get (D := (dC, dI)) (ci := 3) (v := .int 1) (C := xR_R) (T := xF_R) (N := 20) hx hb hts xi_R hown hK hP 0 rfl rfl 0 (by decide) (hts _ xk_646) (fun _ h9 => h9) rfl dR_place_47 ?_
    refine lv_if_le (tgt := 55) hx hb dR_place_50 (by decide) (fun c_2 => ?_) (fun c_2 => ?_)
    · exact absurd c_2 (by decide)
    · refine lv_iconst (v := 0) hx hb dR_place_53 (by decide) ?_
      have e_0 : gR_place xf yf pl x y = (0 : Int32) := (if_neg c_1).trans (rfl)
      have e_1 : gR_place_0 xf yf pl x y = (1 : Int32) := (if_neg c_1).trans (rfl)
      have e_2 : gR_place_14 xf yf pl x y = pl := (if_neg c_1).trans (rfl)
      have e_3 : gR_place_x xf yf pl x y = xf := (if_neg c_1).trans (rfl)
      have e_4 : gR_place_y xf yf pl x y = yf := (if_neg c_1).trans (rfl)
      have hP9 := hP.sub (ws' := [(h0, .inr (3, [.int 1, .ref ta, .int zs, .int po, .int fa, .ref da, .ref ra, .ref la, .long we, .long le, .int pk, .int pm, .int co, .ref pa, .int pl, .ref xa, .ref ya, .int mb, .ref ea, .ref wa])), (xa, .inl (cI, 32, .inl xf)), (ya, .inl (cI, 32, .inl yf))]) [0, 1, 2] rfl
      have hD9 := hD.sub (ws' := [(h0, .inr (3, [.int 1, .ref ta, .int zs, .int po, .int fa, .ref da, .ref ra, .ref la, .long we, .long le, .int pk, .int pm, .int co, .ref pa, .int pl, .ref xa, .ref ya, .int mb, .ref ea, .ref wa])), (xa, .inl (cI, 32, .inl xf)), (ya, .inl (cI, 32, .inl yf))]) [0, 1, 2] (by decide) rfl
      exact W.iret (v := 0) hx hb hr (fun t ht hW => ⟨_, _, rfl, ⟨by first | rfl | (simp only [e_0, e_1, e_2, e_3, e_4]; try rfl), by first | rfl | (simp only [e_0, e_1, e_2, e_3, e_4]; try rfl)⟩, by rw [ht]; exact hP9, hD9, hS.F ht⟩) hS.2.2 dR_place_54
  · have c_1 := xb_bi_t.mp c_1
    refine lv_iload_n hx hb dR_place_13 rfl (lv_at hl 2 rfl) ?_
    refine lv_i2l hx hb dR_place_14 rfl ?_
    refine lv_lconst (v := 0) hx hb dR_place_15 (by decide) ?_
    refine lv_ldc2 (v := 100000) hx hb hown (hts _ xk_791) dR_place_16 ?_
    refine xb_rd (W.runS (As := [.long y.toInt64, .long 0, .long 100000]) (rest := [.ref h0]) ⟨hx, hb, hml, hown, hts⟩ (cR_isIn l E y.toInt64 0 100000) (cwS 3 hts (xb_gi (List.forall_mem_cons.mpr ⟨xk_754, List.forall_mem_cons.mpr ⟨xk_755, List.forall_mem_cons.mpr ⟨xk_45, List.forall_mem_cons.mpr ⟨xk_756, fun _ h => absurd h List.not_mem_nil⟩⟩⟩⟩)) rfl rfl rfl (by decide +kernel) ⟨Nat.le_of_ble_eq_true rfl, Nat.le_of_ble_eq_true rfl⟩) ⟨fun _ _ _ _ q => q, fun U hU hW => ⟨rfl, xb_atS hAt hS hA0 hU hW, fun k q h => by simp at h⟩⟩ rfl rfl hl.1 rfl (lv_room (Nat.le_of_ble_eq_true rfl)) dR_place_19 ⟨Nat.zero_le _, Nat.zero_le _⟩) ?_
    refine lv_if_ne (tgt := 29) hx hb dR_place_22 (by decide) (fun c_3 => ?_) (fun c_3 => ?_)
    · have c_3 := xb_bi_t.mp c_3
      refine lv_aload_n hx hb dR_place_29 rfl (lv_at hl 0 rfl) ?_
      refine va_get (D := (dC, dI)) (ci := 3) (v := .int pl) (C := xR_R) (T := xF_R) (N := 20) hx hb hts xi_R hown hK hP 0 rfl rfl 14 (by decide) (hts _ xk_660) (fun _ h9 => h9) rfl dR_place_30 ?_
      refine lv_bipush (v := 32) hx hb dR_place_33 (by decide) ?_
      refine lv_icmp_ne (tgt := 42) hx hb dR_place_35 (by decide) (fun c_4 => ?_) (fun c_4 => ?_)
      · refine lv_iconst (v := 0) hx hb dR_place_42 (by decide) ?_
        refine va_put (D := (dC, dI)) (ci := 3) (v := .int 0) (ty := .int) (C := xR_R) (T := xF_R) (N := 20) hx hb hts xi_R xt_R xt_R_ok xn_R hown hK hP hD hS 0 rfl rfl 0 (by decide) (hts _ xk_646) (fun _ h9 => h9) rfl (by decide +kernel) rfl rfl (Nat.le_of_ble_eq_true rfl) dR_place_43 (fun H locs hP hD hS => ?_)
        have hP : va_P (dC, dI) classes [(h0, .inr (3, [.int 0, .ref ta, .int zs, .int po, .int fa, .ref da, .ref ra, .ref la, .long we, .long le, .int pk, .int pm, .int co, .ref pa, .int pl, .ref xa, .ref ya, .int mb, .ref ea, .ref wa])), (xa, .inl (cI, 32, .inl xf)), (ya, .inl (cI, 32, .inl yf))] H := hP
        have hD : va_D A [(h0, .inr (3, [.int 0, .ref ta, .int zs, .int po, .int fa, .ref da, .ref ra, .ref la, .long we, .long le, .int pk, .int pm, .int co, .ref pa, .int pl, .ref xa, .ref ya, .int mb, .ref ea, .ref wa])), (xa, .inl (cI, 32, .inl xf)), (ya, .inl (cI, 32, .inl yf))] := hD
        refine lv_aload_n hx hb dR_place_46 rfl (lv_at hl 0 rfl) ?_
        refine va_get (D := (dC, dI)) (ci := 3) (v := .int 0) (C := xR_R) (T := xF_R) (N := 20) hx hb hts xi_R hown hK hP 0 rfl rfl 0 (by decide) (hts _ xk_646) (fun _ h9 => h9) rfl dR_place_47 ?_
        refine lv_if_le (tgt := 55) hx hb dR_place_50 (by decide) (fun c_5 => ?_) (fun c_5 => ?_)
        · refine lv_aload_n hx hb dR_place_55 rfl (lv_at hl 0 rfl) ?_
          refine va_get (D := (dC, dI)) (ci := 3) (v := .ref xa) (C := xR_R) (T := xF_R) (N := 20) hx hb hts xi_R hown hK hP 0 rfl rfl 15 (by decide) (hts _ xk_661) (fun _ h9 => h9) rfl dR_place_56 ?_
          refine lv_aload_n hx hb dR_place_59 rfl (lv_at hl 0 rfl) ?_
          refine va_get (D := (dC, dI)) (ci := 3) (v := .int pl) (C := xR_R) (T := xF_R) (N := 20) hx hb hts xi_R hown hK hP 0 rfl rfl 14 (by decide) (hts _ xk_660) (fun _ h9 => h9) rfl dR_place_60 ?_
          refine lv_iload_n hx hb dR_place_63 rfl (lv_at hl 1 rfl) ?_
          have o_6 : vp_in pl 32 := by exact xp_ne (by decide) q0 q1 (by assumption)
          refine va_iast hx hb hK hP hD hS 1 0 rfl rfl o_6 dR_place_64 (fun H locs hP hD hS => ?_)
          have hP : va_P (dC, dI) classes [(h0, .inr (3, [.int 0, .ref ta, .int zs, .int po, .int fa, .ref da, .ref ra, .ref la, .long we, .long le, .int pk, .int pm, .int co, .ref pa, .int pl, .ref xa, .ref ya, .int mb, .ref ea, .ref wa])), (xa, .inl (cI, 32, .inl (upd xf pl.toNatClampNeg x))), (ya, .inl (cI, 32, .inl yf))] H := hP
          have hD : va_D A [(h0, .inr (3, [.int 0, .ref ta, .int zs, .int po, .int fa, .ref da, .ref ra, .ref la, .long we, .long le, .int pk, .int pm, .int co, .ref pa, .int pl, .ref xa, .ref ya, .int mb, .ref ea, .ref wa])), (xa, .inl (cI, 32, .inl (upd xf pl.toNatClampNeg x))), (ya, .inl (cI, 32, .inl yf))] := hD
          refine lv_aload_n hx hb dR_place_65 rfl (lv_at hl 0 rfl) ?_
          refine va_get (D := (dC, dI)) (ci := 3) (v := .ref ya) (C := xR_R) (T := xF_R) (N := 20) hx hb hts xi_R hown hK hP 0 rfl rfl 16 (by decide) (hts _ xk_662) (fun _ h9 => h9) rfl dR_place_66 ?_
          refine lv_aload_n hx hb dR_place_69 rfl (lv_at hl 0 rfl) ?_
          refine va_get (D := (dC, dI)) (ci := 3) (v := .int pl) (C := xR_R) (T := xF_R) (N := 20) hx hb hts xi_R hown hK hP 0 rfl rfl 14 (by decide) (hts _ xk_660) (fun _ h9 => h9) rfl dR_place_70 ?_
          refine lv_iload_n hx hb dR_place_73 rfl (lv_at hl 2 rfl) ?_
          have o_7 : vp_in pl 32 := by exact xp_ne (by decide) q0 q1 (by assumption)
          refine va_iast hx hb hK hP hD hS 2 0 rfl rfl o_7 dR_place_74 (fun H locs hP hD hS => ?_)
          have hP : va_P (dC, dI) classes [(h0, .inr (3, [.int 0, .ref ta, .int zs, .int po, .int fa, .ref da, .ref ra, .ref la, .long we, .long le, .int pk, .int pm, .int co, .ref pa, .int pl, .ref xa, .ref ya, .int mb, .ref ea, .ref wa])), (xa, .inl (cI, 32, .inl (upd xf pl.toNatClampNeg x))), (ya, .inl (cI, 32, .inl (upd yf pl.toNatClampNeg y)))] H := hP
          have hD : va_D A [(h0, .inr (3, [.int 0, .ref ta, .int zs, .int po, .int fa, .ref da, .ref ra, .ref la, .long we, .long le, .int pk, .int pm, .int co, .ref pa, .int pl, .ref xa, .ref ya, .int mb, .ref ea, .ref wa])), (xa, .inl (cI, 32, .inl (upd xf pl.toNatClampNeg x))), (ya, .inl (cI, 32, .inl (upd yf pl.toNatClampNeg y)))] := hD
          refine lv_aload_n hx hb dR_place_75 rfl (lv_at hl 0 rfl) ?_
          refine lv_dup hx hb dR_place_76 rfl ?_
          refine va_get (D := (dC, dI)) (ci := 3) (v := .int pl) (C := xR_R) (T := xF_R) (N := 20) hx hb hts xi_R hown hK hP 0 rfl rfl 14 (by decide) (hts _ xk_660) (fun _ h9 => h9) rfl dR_place_77 ?_
          refine lv_iconst (v := 1) hx hb dR_place_80 (by decide) ?_
          refine lv_iadd hx hb dR_place_81 ?_
          refine va_put (D := (dC, dI)) (ci := 3) (v := .int (pl + 1)) (ty := .int) (C := xR_R) (T := xF_R) (N := 20) hx hb hts xi_R xt_R xt_R_ok xn_R hown hK hP hD hS 0 rfl rfl 14 (by decide) (hts _ xk_660) (fun _ h9 => h9) rfl (by decide +kernel) rfl rfl (Nat.le_of_ble_eq_true rfl) dR_place_82 (fun H locs hP hD hS => ?_)
          have hP : va_P (dC, dI) classes [(h0, .inr (3, [.int 0, .ref ta, .int zs, .int po, .int fa, .ref da, .ref ra, .ref la, .long we, .long le, .int pk, .int pm, .int co, .ref pa, .int (pl + 1), .ref xa, .ref ya, .int mb, .ref ea, .ref wa])), (xa, .inl (cI, 32, .inl (upd xf pl.toNatClampNeg x))), (ya, .inl (cI, 32, .inl (upd yf pl.toNatClampNeg y)))] H := hP
          have hD : va_D A [(h0, .inr (3, [.int 0, .ref ta, .int zs, .int po, .int fa, .ref da, .ref ra, .ref la, .long we, .long le, .int pk, .int pm, .int co, .ref pa, .int (pl + 1), .ref xa, .ref ya, .int mb, .ref ea, .ref wa])), (xa, .inl (cI, 32, .inl (upd xf pl.toNatClampNeg x))), (ya, .inl (cI, 32, .inl (upd yf pl.toNatClampNeg y)))] := hD
          refine lv_aload_n hx hb dR_place_85 rfl (lv_at hl 0 rfl) ?_
          refine va_get (D := (dC, dI)) (ci := 3) (v := .int (pl + 1)) (C := xR_R) (T := xF_R) (N := 20) hx hb hts xi_R hown hK hP 0 rfl rfl 14 (by decide) (hts _ xk_660) (fun _ h9 => h9) rfl dR_place_86 ?_
          have e_0 : gR_place xf yf pl x y = (pl + 1) := (if_pos c_1).trans ((if_pos c_3).trans ((if_neg c_4).trans (rfl)))
          have e_1 : gR_place_0 xf yf pl x y = (0 : Int32) := (if_pos c_1).trans ((if_pos c_3).trans ((if_neg c_4).trans (rfl)))
          have e_2 : gR_place_14 xf yf pl x y = (pl + 1) := (if_pos c_1).trans ((if_pos c_3).trans ((if_neg c_4).trans (rfl)))
          have e_3 : gR_place_x xf yf pl x y = (upd xf pl.toNatClampNeg x) := (if_pos c_1).trans ((if_pos c_3).trans ((if_neg c_4).trans (rfl)))
          have e_4 : gR_place_y xf yf pl x y = (upd yf pl.toNatClampNeg y) := (if_pos c_1).trans ((if_pos c_3).trans ((if_neg c_4).trans (rfl)))
          have hP9 := hP.sub (ws' := [(h0, .inr (3, [.int 0, .ref ta, .int zs, .int po, .int fa, .ref da, .ref ra, .ref la, .long we, .long le, .int pk, .int pm, .int co, .ref pa, .int (pl + 1), .ref xa, .ref ya, .int mb, .ref ea, .ref wa])), (xa, .inl (cI, 32, .inl (upd xf pl.toNatClampNeg x))), (ya, .inl (cI, 32, .inl (upd yf pl.toNatClampNeg y)))]) [0, 1, 2] rfl
          have hD9 := hD.sub (ws' := [(h0, .inr (3, [.int 0, .ref ta, .int zs, .int po, .int fa, .ref da, .ref ra, .ref la, .long we, .long le, .int pk, .int pm, .int co, .ref pa, .int (pl + 1), .ref xa, .ref ya, .int mb, .ref ea, .ref wa])), (xa, .inl (cI, 32, .inl (upd xf pl.toNatClampNeg x))), (ya, .inl (cI, 32, .inl (upd yf pl.toNatClampNeg y)))]) [0, 1, 2] (by decide) rfl
          exact W.iret (v := (pl + 1)) hx hb hr (fun t ht hW => ⟨_, _, rfl, ⟨by first | rfl | (simp only [e_0, e_1, e_2, e_3, e_4]; try rfl), by first | rfl | (simp only [e_0, e_1, e_2, e_3, e_4]; try rfl)⟩, by rw [ht]; exact hP9, hD9, hS.F ht⟩) hS.2.2 dR_place_89
        · exact absurd c_5 (by decide)
      · refine lv_iconst (v := 2) hx hb dR_place_38 (by decide) ?_
        refine lv_goto (tgt := 43) hx hb dR_place_39 (by decide) ?_
        refine va_put (D := (dC, dI)) (ci := 3) (v := .int 2) (ty := .int) (C := xR_R) (T := xF_R) (N := 20) hx hb hts xi_R xt_R xt_R_ok xn_R hown hK hP hD hS 0 rfl rfl 0 (by decide) (hts _ xk_646) (fun _ h9 => h9) rfl (by decide +kernel) rfl rfl (Nat.le_of_ble_eq_true rfl) dR_place_43 (fun H locs hP hD hS => ?_)
        have hP : va_P (dC, dI) classes [(h0, .inr (3, [.int 2, .ref ta, .int zs, .int po, .int fa, .ref da, .ref ra, .ref la, .long we, .long le, .int pk, .int pm, .int co, .ref pa, .int pl, .ref xa, .ref ya, .int mb, .ref ea, .ref wa])), (xa, .inl (cI, 32, .inl xf)), (ya, .inl (cI, 32, .inl yf))] H := hP
        have hD : va_D A [(h0, .inr (3, [.int 2, .ref ta, .int zs, .int po, .int fa, .ref da, .ref ra, .ref la, .long we, .long le, .int pk, .int pm, .int co, .ref pa, .int pl, .ref xa, .ref ya, .int mb, .ref ea, .ref wa])), (xa, .inl (cI, 32, .inl xf)), (ya, .inl (cI, 32, .inl yf))] := hD
        refine lv_aload_n hx hb dR_place_46 rfl (lv_at hl 0 rfl) ?_
        refine va_get (D := (dC, dI)) (ci := 3) (v := .int 2) (C := xR_R) (T := xF_R) (N := 20) hx hb hts xi_R hown hK hP 0 rfl rfl 0 (by decide) (hts _ xk_646) (fun _ h9 => h9) rfl dR_place_47 ?_
        refine lv_if_le (tgt := 55) hx hb dR_place_50 (by decide) (fun c_8 => ?_) (fun c_8 => ?_)
        · exact absurd c_8 (by decide)
        · refine lv_iconst (v := 0) hx hb dR_place_53 (by decide) ?_
          have e_0 : gR_place xf yf pl x y = (0 : Int32) := (if_pos c_1).trans ((if_pos c_3).trans ((if_pos c_4).trans (rfl)))
          have e_1 : gR_place_0 xf yf pl x y = (2 : Int32) := (if_pos c_1).trans ((if_pos c_3).trans ((if_pos c_4).trans (rfl)))
          have e_2 : gR_place_14 xf yf pl x y = pl := (if_pos c_1).trans ((if_pos c_3).trans ((if_pos c_4).trans (rfl)))
          have e_3 : gR_place_x xf yf pl x y = xf := (if_pos c_1).trans ((if_pos c_3).trans ((if_pos c_4).trans (rfl)))
          have e_4 : gR_place_y xf yf pl x y = yf := (if_pos c_1).trans ((if_pos c_3).trans ((if_pos c_4).trans (rfl)))
          have hP9 := hP.sub (ws' := [(h0, .inr (3, [.int 2, .ref ta, .int zs, .int po, .int fa, .ref da, .ref ra, .ref la, .long we, .long le, .int pk, .int pm, .int co, .ref pa, .int pl, .ref xa, .ref ya, .int mb, .ref ea, .ref wa])), (xa, .inl (cI, 32, .inl xf)), (ya, .inl (cI, 32, .inl yf))]) [0, 1, 2] rfl
          have hD9 := hD.sub (ws' := [(h0, .inr (3, [.int 2, .ref ta, .int zs, .int po, .int fa, .ref da, .ref ra, .ref la, .long we, .long le, .int pk, .int pm, .int co, .ref pa, .int pl, .ref xa, .ref ya, .int mb, .ref ea, .ref wa])), (xa, .inl (cI, 32, .inl xf)), (ya, .inl (cI, 32, .inl yf))]) [0, 1, 2] (by decide) rfl
          exact W.iret (v := 0) hx hb hr (fun t ht hW => ⟨_, _, rfl, ⟨by first | rfl | (simp only [e_0, e_1, e_2, e_3, e_4]; try rfl), by first | rfl | (simp only [e_0, e_1, e_2, e_3, e_4]; try rfl)⟩, by rw [ht]; exact hP9, hD9, hS.F ht⟩) hS.2.2 dR_place_54
    · have c_3 := xb_bi_f.mp c_3
      refine lv_iconst (v := 1) hx hb dR_place_25 (by decide) ?_
      refine lv_goto (tgt := 43) hx hb dR_place_26 (by decide) ?_
      refine va_put (D := (dC, dI)) (ci := 3) (v := .int 1) (ty := .int) (C := xR_R) (T := xF_R) (N := 20) hx hb hts xi_R xt_R xt_R_ok xn_R hown hK hP hD hS 0 rfl rfl 0 (by decide) (hts _ xk_646) (fun _ h9 => h9) rfl (by decide +kernel) rfl rfl (Nat.le_of_ble_eq_true rfl) dR_place_43 (fun H locs hP hD hS => ?_)
      have hP : va_P (dC, dI) classes [(h0, .inr (3, [.int 1, .ref ta, .int zs, .int po, .int fa, .ref da, .ref ra, .ref la, .long we, .long le, .int pk, .int pm, .int co, .ref pa, .int pl, .ref xa, .ref ya, .int mb, .ref ea, .ref wa])), (xa, .inl (cI, 32, .inl xf)), (ya, .inl (cI, 32, .inl yf))] H := hP
      have hD : va_D A [(h0, .inr (3, [.int 1, .ref ta, .int zs, .int po, .int fa, .ref da, .ref ra, .ref la, .long we, .long le, .int pk, .int pm, .int co, .ref pa, .int pl, .ref xa, .ref ya, .int mb, .ref ea, .ref wa])), (xa, .inl (cI, 32, .inl xf)), (ya, .inl (cI, 32, .inl yf))] := hD
      refine lv_aload_n hx hb dR_place_46 rfl (lv_at hl 0 rfl) ?_
      refine va_get (D := (dC, dI)) (ci := 3) (v := .int 1) (C := xR_R) (T := xF_R) (N := 20) hx hb hts xi_R hown hK hP 0 rfl rfl 0 (by decide) (hts _ xk_646) (fun _ h9 => h9) rfl dR_place_47 ?_
      refine lv_if_le (tgt := 55) hx hb dR_place_50 (by decide) (fun c_9 => ?_) (fun c_9 => ?_)
      · exact absurd c_9 (by decide)
      · refine lv_iconst (v := 0) hx hb dR_place_53 (by decide) ?_
        have e_0 : gR_place xf yf pl x y = (0 : Int32) := (if_pos c_1).trans ((if_neg c_3).trans (rfl))
        have e_1 : gR_place_0 xf yf pl x y = (1 : Int32) := (if_pos c_1).trans ((if_neg c_3).trans (rfl))
        have e_2 : gR_place_14 xf yf pl x y = pl := (if_pos c_1).trans ((if_neg c_3).trans (rfl))
        have e_3 : gR_place_x xf yf pl x y = xf := (if_pos c_1).trans ((if_neg c_3).trans (rfl))
        have e_4 : gR_place_y xf yf pl x y = yf := (if_pos c_1).trans ((if_neg c_3).trans (rfl))
        have hP9 := hP.sub (ws' := [(h0, .inr (3, [.int 1, .ref ta, .int zs, .int po, .int fa, .ref da, .ref ra, .ref la, .long we, .long le, .int pk, .int pm, .int co, .ref pa, .int pl, .ref xa, .ref ya, .int mb, .ref ea, .ref wa])), (xa, .inl (cI, 32, .inl xf)), (ya, .inl (cI, 32, .inl yf))]) [0, 1, 2] rfl
        have hD9 := hD.sub (ws' := [(h0, .inr (3, [.int 1, .ref ta, .int zs, .int po, .int fa, .ref da, .ref ra, .ref la, .long we, .long le, .int pk, .int pm, .int co, .ref pa, .int pl, .ref xa, .ref ya, .int mb, .ref ea, .ref wa])), (xa, .inl (cI, 32, .inl xf)), (ya, .inl (cI, 32, .inl yf))]) [0, 1, 2] (by decide) rfl
        exact W.iret (v := 0) hx hb hr (fun t ht hW => ⟨_, _, rfl, ⟨by first | rfl | (simp only [e_0, e_1, e_2, e_3, e_4]; try rfl), by first | rfl | (simp only [e_0, e_1, e_2, e_3, e_4]; try rfl)⟩, by rw [ht]; exact hP9, hD9, hS.F ht⟩) hS.2.2 dR_place_54

def gR_thick (rf : Nat → Int32) (kind : Int32) (tk : Int32) : Bool := if (fR_isFour kind) = true then (if 0 ≤ tk then (if tk.toInt64 < (fR_space rf kind (6)) then (false) else (true)) else (false)) else (false)
def gR_thick_0 (rf : Nat → Int32) (kind : Int32) (tk : Int32) : Int32 := if (fR_isFour kind) = true then (if 0 ≤ tk then (if tk.toInt64 < (fR_space rf kind (6)) then ((0)) else ((0))) else ((2))) else ((1))
set_option maxHeartbeats 4000000 in
set_option maxRecDepth 100000 in
theorem cR_thick (l : Launch) {s0 : State} {dC : Nat → ClassId} {dI : Nat → Nat → Nat} {cI cC cL : ClassId} (E : xb_Env l s0 dC dI (xtys cI cC cL)) (sz : Nat) (h0 : Nat) (ra : Nat) (th : Int32) (ta : Nat) (zs : Int32) (po : Int32) (fa : Int32) (da : Nat) (la : Nat) (we : Int64) (le : Int64) (pk : Int32) (pm : Int32) (co : Int32) (pa : Nat) (pl : Int32) (xa : Nat) (ya : Nat) (mb : Int32) (ea : Nat) (wa : Nat) (rf : Nat → Int32) (kind : Int32) (tk : Int32) : Met l yR_thick [.code yR_thick bR_thick 3 (some (.boolean))] ({ frames := 1, cells := 0, slots := 0, locals := 22 }) (va_Pc [.ref h0, .int kind, .int tk] (fun U => xb_At s0 U ∧ U.heap.size = sz ∧ va_P (dC, dI) classes [(h0, .inr (3, [.int th, .ref ta, .int zs, .int po, .int fa, .ref da, .ref ra, .ref la, .long we, .long le, .int pk, .int pm, .int co, .ref pa, .int pl, .ref xa, .ref ya, .int mb, .ref ea, .ref wa])), (ra, .inl (cI, 28, .inl rf))] U.heap ∧ va_D (fun q => s0.heap.size ≤ q) [(h0, .inr (3, [.int th, .ref ta, .int zs, .int po, .int fa, .ref da, .ref ra, .ref la, .long we, .long le, .int pk, .int pm, .int co, .ref pa, .int pl, .ref xa, .ref ya, .int mb, .ref ea, .ref wa])), (ra, .inl (cI, 28, .inl rf))])) (xb_W (dC, dI) (fun v w => v = some (.int (xb_bi (gR_thick rf kind tk))) ∧ w = [(h0, .inr (3, [.int (gR_thick_0 rf kind tk), .ref ta, .int zs, .int po, .int fa, .ref da, .ref ra, .ref la, .long we, .long le, .int pk, .int pm, .int co, .ref pa, .int pl, .ref xa, .ref ya, .int mb, .ref ea, .ref wa])), (ra, .inl (cI, 28, .inl rf))]) (va_A [(h0, .inr (3, [.int th, .ref ta, .int zs, .int po, .int fa, .ref da, .ref ra, .ref la, .long we, .long le, .int pk, .int pm, .int co, .ref pa, .int pl, .ref xa, .ref ya, .int mb, .ref ea, .ref wa])), (ra, .inl (cI, 28, .inl rf))] sz)) 0 0 (va_A [(h0, .inr (3, [.int th, .ref ta, .int zs, .int po, .int fa, .ref da, .ref ra, .ref la, .long we, .long le, .int pk, .int pm, .int co, .ref pa, .int pl, .ref xa, .ref ya, .int mb, .ref ea, .ref wa])), (ra, .inl (cI, 28, .inl rf))] sz) := by
  refine Met.ofW (cc := bR_thick) (maxL := 3) (ret := (some (.boolean))) (by decide) rfl ?_
  intro p e s m args below meth c s₁ B hml hv
  obtain ⟨rfl, hAt, hsz, hP, hD0⟩ := hv
  have hx := B.exec
  have hb := B.bytes
  have hr := B.returns
  have hts := xb_hts E hAt ([.ref h0, .int kind, .int tk] : List Value).toArray
  have hown : s.vm.findClass "NailRulesModel" = some m.cls := findClass_of_methodNamed B.named
  have hlocks := B.notSynchronized
  have hK := xb_K E hAt
  subst hsz
  have hA0 := xb_A0 hAt hD0
  have hD := hD0.self (sz := s.heap.size)
  generalize hAe : va_A [(h0, .inr (3, [.int th, .ref ta, .int zs, .int po, .int fa, .ref da, .ref ra, .ref la, .long we, .long le, .int pk, .int pm, .int co, .ref pa, .int pl, .ref xa, .ref ya, .int mb, .ref ea, .ref wa])), (ra, .inl (cI, 28, .inl rf))] s.heap.size = A at hD hA0 ⊢
  have hA : ∀ q : Nat, s.heap.size ≤ q → A q := fun q h => by rw [← hAe]; exact Or.inr h
  have hS : va_S A s.heap s.heap [] := va_S.rf
  have hl := lv_entry ([.ref h0, .int kind, .int tk]) (n := 3) (Nat.le_of_ble_eq_true rfl)
  rw [lg_entry_eq]
  generalize (lg_sl ([.ref h0, .int kind, .int tk]) ++ List.replicate (3 - (lg_sl ([.ref h0, .int kind, .int tk])).length) Slot.unset).toArray = ls at hl ⊢
  have hl : lv_has ls 3 [(0, .ref h0), (1, .int kind), (2, .int tk)] := hl
  refine lv_aload_n hx hb dR_thick_0 rfl (lv_at hl 0 rfl) ?_
  refine lv_iload_n hx hb dR_thick_1 rfl (lv_at hl 1 rfl) ?_
  refine xb_rd (W.runS (As := [.int kind]) (rest := [.ref h0]) ⟨hx, hb, hml, hown, hts⟩ (cR_isFour l E kind) (cwS 1 hts (xb_gi (List.forall_mem_cons.mpr ⟨xk_750, List.forall_mem_cons.mpr ⟨xk_751, List.forall_mem_cons.mpr ⟨xk_45, List.forall_mem_cons.mpr ⟨xk_752, fun _ h => absurd h List.not_mem_nil⟩⟩⟩⟩)) rfl rfl rfl (by decide +kernel) ⟨Nat.le_of_ble_eq_true rfl, Nat.le_of_ble_eq_true rfl⟩) ⟨fun _ _ _ _ q => q, fun U hU hW => ⟨rfl, xb_atS hAt hS hA0 hU hW, fun k q h => by simp at h⟩⟩ rfl rfl hl.1 rfl (lv_room (Nat.le_of_ble_eq_true rfl)) dR_thick_2 ⟨Nat.zero_le _, Nat.zero_le _⟩) ?_
  refine lv_if_ne (tgt := 12) hx hb dR_thick_5 (by decide) (fun c_1 => ?_) (fun c_1 => ?_)
  · have c_1 := xb_bi_t.mp c_1
    refine lv_iload_n hx hb dR_thick_12 rfl (lv_at hl 2 rfl) ?_
    refine lv_if_ge (tgt := 20) hx hb dR_thick_13 (by decide) (fun c_2 => ?_) (fun c_2 => ?_)
    · refine lv_iconst (v := 0) hx hb dR_thick_20 (by decide) ?_
      refine va_put (D := (dC, dI)) (ci := 3) (v := .int 0) (ty := .int) (C := xR_R) (T := xF_R) (N := 20) hx hb hts xi_R xt_R xt_R_ok xn_R hown hK hP hD hS 0 rfl rfl 0 (by decide) (hts _ xk_646) (fun _ h9 => h9) rfl (by decide +kernel) rfl rfl (Nat.le_of_ble_eq_true rfl) dR_thick_21 (fun H locs hP hD hS => ?_)
      have hP : va_P (dC, dI) classes [(h0, .inr (3, [.int 0, .ref ta, .int zs, .int po, .int fa, .ref da, .ref ra, .ref la, .long we, .long le, .int pk, .int pm, .int co, .ref pa, .int pl, .ref xa, .ref ya, .int mb, .ref ea, .ref wa])), (ra, .inl (cI, 28, .inl rf))] H := hP
      have hD : va_D A [(h0, .inr (3, [.int 0, .ref ta, .int zs, .int po, .int fa, .ref da, .ref ra, .ref la, .long we, .long le, .int pk, .int pm, .int co, .ref pa, .int pl, .ref xa, .ref ya, .int mb, .ref ea, .ref wa])), (ra, .inl (cI, 28, .inl rf))] := hD
      refine lv_aload_n hx hb dR_thick_24 rfl (lv_at hl 0 rfl) ?_
      refine va_get (D := (dC, dI)) (ci := 3) (v := .int 0) (C := xR_R) (T := xF_R) (N := 20) hx hb hts xi_R hown hK hP 0 rfl rfl 0 (by decide) (hts _ xk_646) (fun _ h9 => h9) rfl dR_thick_25 ?_
      refine lv_if_ne (tgt := 48) hx hb dR_thick_28 (by decide) (fun c_3 => ?_) (fun c_3 => ?_)
      · exact absurd c_3 (by decide)
      · refine lv_iload_n hx hb dR_thick_31 rfl (lv_at hl 2 rfl) ?_
        refine lv_i2l hx hb dR_thick_32 rfl ?_
        refine lv_aload_n hx hb dR_thick_33 rfl (lv_at hl 0 rfl) ?_
        refine lv_iload_n hx hb dR_thick_34 rfl (lv_at hl 1 rfl) ?_
        refine lv_bipush (v := 6) hx hb dR_thick_35 (by decide) ?_
        refine xb_rd (W.runV (C := "NailRulesModel") (As := [.int kind, .int 6]) (rest := [.long tk.toInt64]) ⟨hx, hb, hml, hown, hts⟩ (cR_space l E h0 ([.int 0, .ref ta, .int zs, .int po, .int fa, .ref da, .ref ra, .ref la, .long we, .long le, .int pk, .int pm, .int co, .ref pa, .int pl, .ref xa, .ref ya, .int mb, .ref ea, .ref wa]) ra rf kind 6 rfl (xp_rul0 (by assumption)) (xp_rulN 6 (by decide) (by assumption))) (cwV 2 hts (xb_gi (List.forall_mem_cons.mpr ⟨xk_792, List.forall_mem_cons.mpr ⟨xk_794, List.forall_mem_cons.mpr ⟨xk_36, List.forall_mem_cons.mpr ⟨xk_45, List.forall_mem_cons.mpr ⟨xk_795, fun _ h => absurd h List.not_mem_nil⟩⟩⟩⟩⟩)) rfl rfl rfl (by decide +kernel) ⟨Nat.le_of_ble_eq_true rfl, Nat.le_of_ble_eq_true rfl⟩) ⟨fun _ _ _ _ q => q, va_recv hK hP (ci := 3) (q0 := 0) rfl rfl, fun U hU hW => ⟨rfl, xb_atS hAt hS hA0 hU hW, by rw [hU]; exact hP.sub (ws' := [(h0, .inr (3, [.int 0, .ref ta, .int zs, .int po, .int fa, .ref da, .ref ra, .ref la, .long we, .long le, .int pk, .int pm, .int co, .ref pa, .int pl, .ref xa, .ref ya, .int mb, .ref ea, .ref wa])), (ra, .inl (cI, 28, .inl rf))]) [0, 1] rfl⟩⟩ rfl rfl hl.1 rfl (lv_room (Nat.le_of_ble_eq_true rfl)) dR_thick_37 ⟨Nat.zero_le _, Nat.zero_le _⟩) ?_
        refine W.lcmp hx hb dR_thick_40 ?_
        refine lv_if_lt (tgt := 48) hx hb dR_thick_41 (by decide) (fun c_4 => ?_) (fun c_4 => ?_)
        · have c_4 := (lg_cmp_lt _ _).mp c_4
          refine lv_iconst (v := 0) hx hb dR_thick_48 (by decide) ?_
          have e_0 : gR_thick rf kind tk = false := (if_pos c_1).trans ((if_pos c_2).trans ((if_pos c_4).trans (rfl)))
          have e_1 : gR_thick_0 rf kind tk = (0 : Int32) := (if_pos c_1).trans ((if_pos c_2).trans ((if_pos c_4).trans (rfl)))
          have hP9 := hP.sub (ws' := [(h0, .inr (3, [.int 0, .ref ta, .int zs, .int po, .int fa, .ref da, .ref ra, .ref la, .long we, .long le, .int pk, .int pm, .int co, .ref pa, .int pl, .ref xa, .ref ya, .int mb, .ref ea, .ref wa])), (ra, .inl (cI, 28, .inl rf))]) [0, 1] rfl
          have hD9 := hD.sub (ws' := [(h0, .inr (3, [.int 0, .ref ta, .int zs, .int po, .int fa, .ref da, .ref ra, .ref la, .long we, .long le, .int pk, .int pm, .int co, .ref pa, .int pl, .ref xa, .ref ya, .int mb, .ref ea, .ref wa])), (ra, .inl (cI, 28, .inl rf))]) [0, 1] (by decide) rfl
          exact W.zret (v := 0) hx hb hr (by decide) (fun t ht hW => ⟨_, _, rfl, ⟨by first | rfl | (simp only [e_0, e_1]; try rfl), by first | rfl | (simp only [e_0, e_1]; try rfl)⟩, by rw [ht]; exact hP9, hD9, hS.F ht⟩) hS.2.2 dR_thick_49
        · have c_4 := fun q => c_4 ((lg_cmp_lt _ _).mpr q)
          refine lv_iconst (v := 1) hx hb dR_thick_44 (by decide) ?_
          refine lv_goto (tgt := 49) hx hb dR_thick_45 (by decide) ?_
          have e_0 : gR_thick rf kind tk = true := (if_pos c_1).trans ((if_pos c_2).trans ((if_neg c_4).trans (rfl)))
          have e_1 : gR_thick_0 rf kind tk = (0 : Int32) := (if_pos c_1).trans ((if_pos c_2).trans ((if_neg c_4).trans (rfl)))
          have hP9 := hP.sub (ws' := [(h0, .inr (3, [.int 0, .ref ta, .int zs, .int po, .int fa, .ref da, .ref ra, .ref la, .long we, .long le, .int pk, .int pm, .int co, .ref pa, .int pl, .ref xa, .ref ya, .int mb, .ref ea, .ref wa])), (ra, .inl (cI, 28, .inl rf))]) [0, 1] rfl
          have hD9 := hD.sub (ws' := [(h0, .inr (3, [.int 0, .ref ta, .int zs, .int po, .int fa, .ref da, .ref ra, .ref la, .long we, .long le, .int pk, .int pm, .int co, .ref pa, .int pl, .ref xa, .ref ya, .int mb, .ref ea, .ref wa])), (ra, .inl (cI, 28, .inl rf))]) [0, 1] (by decide) rfl
          exact W.zret (v := 1) hx hb hr (by decide) (fun t ht hW => ⟨_, _, rfl, ⟨by first | rfl | (simp only [e_0, e_1]; try rfl), by first | rfl | (simp only [e_0, e_1]; try rfl)⟩, by rw [ht]; exact hP9, hD9, hS.F ht⟩) hS.2.2 dR_thick_49
    · refine lv_iconst (v := 2) hx hb dR_thick_16 (by decide) ?_
      refine lv_goto (tgt := 21) hx hb dR_thick_17 (by decide) ?_
      refine va_put (D := (dC, dI)) (ci := 3) (v := .int 2) (ty := .int) (C := xR_R) (T := xF_R) (N := 20) hx hb hts xi_R xt_R xt_R_ok xn_R hown hK hP hD hS 0 rfl rfl 0 (by decide) (hts _ xk_646) (fun _ h9 => h9) rfl (by decide +kernel) rfl rfl (Nat.le_of_ble_eq_true rfl) dR_thick_21 (fun H locs hP hD hS => ?_)
      have hP : va_P (dC, dI) classes [(h0, .inr (3, [.int 2, .ref ta, .int zs, .int po, .int fa, .ref da, .ref ra, .ref la, .long we, .long le, .int pk, .int pm, .int co, .ref pa, .int pl, .ref xa, .ref ya, .int mb, .ref ea, .ref wa])), (ra, .inl (cI, 28, .inl rf))] H := hP
      have hD : va_D A [(h0, .inr (3, [.int 2, .ref ta, .int zs, .int po, .int fa, .ref da, .ref ra, .ref la, .long we, .long le, .int pk, .int pm, .int co, .ref pa, .int pl, .ref xa, .ref ya, .int mb, .ref ea, .ref wa])), (ra, .inl (cI, 28, .inl rf))] := hD
      refine lv_aload_n hx hb dR_thick_24 rfl (lv_at hl 0 rfl) ?_
      refine va_get (D := (dC, dI)) (ci := 3) (v := .int 2) (C := xR_R) (T := xF_R) (N := 20) hx hb hts xi_R hown hK hP 0 rfl rfl 0 (by decide) (hts _ xk_646) (fun _ h9 => h9) rfl dR_thick_25 ?_
      refine lv_if_ne (tgt := 48) hx hb dR_thick_28 (by decide) (fun c_5 => ?_) (fun c_5 => ?_)
      · refine lv_iconst (v := 0) hx hb dR_thick_48 (by decide) ?_
        have e_0 : gR_thick rf kind tk = false := (if_pos c_1).trans ((if_neg c_2).trans (rfl))
        have e_1 : gR_thick_0 rf kind tk = (2 : Int32) := (if_pos c_1).trans ((if_neg c_2).trans (rfl))
        have hP9 := hP.sub (ws' := [(h0, .inr (3, [.int 2, .ref ta, .int zs, .int po, .int fa, .ref da, .ref ra, .ref la, .long we, .long le, .int pk, .int pm, .int co, .ref pa, .int pl, .ref xa, .ref ya, .int mb, .ref ea, .ref wa])), (ra, .inl (cI, 28, .inl rf))]) [0, 1] rfl
        have hD9 := hD.sub (ws' := [(h0, .inr (3, [.int 2, .ref ta, .int zs, .int po, .int fa, .ref da, .ref ra, .ref la, .long we, .long le, .int pk, .int pm, .int co, .ref pa, .int pl, .ref xa, .ref ya, .int mb, .ref ea, .ref wa])), (ra, .inl (cI, 28, .inl rf))]) [0, 1] (by decide) rfl
        exact W.zret (v := 0) hx hb hr (by decide) (fun t ht hW => ⟨_, _, rfl, ⟨by first | rfl | (simp only [e_0, e_1]; try rfl), by first | rfl | (simp only [e_0, e_1]; try rfl)⟩, by rw [ht]; exact hP9, hD9, hS.F ht⟩) hS.2.2 dR_thick_49
      · exact absurd c_5 (by decide)
  · have c_1 := xb_bi_f.mp c_1
    refine lv_iconst (v := 1) hx hb dR_thick_8 (by decide) ?_
    refine lv_goto (tgt := 21) hx hb dR_thick_9 (by decide) ?_
    refine va_put (D := (dC, dI)) (ci := 3) (v := .int 1) (ty := .int) (C := xR_R) (T := xF_R) (N := 20) hx hb hts xi_R xt_R xt_R_ok xn_R hown hK hP hD hS 0 rfl rfl 0 (by decide) (hts _ xk_646) (fun _ h9 => h9) rfl (by decide +kernel) rfl rfl (Nat.le_of_ble_eq_true rfl) dR_thick_21 (fun H locs hP hD hS => ?_)
    have hP : va_P (dC, dI) classes [(h0, .inr (3, [.int 1, .ref ta, .int zs, .int po, .int fa, .ref da, .ref ra, .ref la, .long we, .long le, .int pk, .int pm, .int co, .ref pa, .int pl, .ref xa, .ref ya, .int mb, .ref ea, .ref wa])), (ra, .inl (cI, 28, .inl rf))] H := hP
    have hD : va_D A [(h0, .inr (3, [.int 1, .ref ta, .int zs, .int po, .int fa, .ref da, .ref ra, .ref la, .long we, .long le, .int pk, .int pm, .int co, .ref pa, .int pl, .ref xa, .ref ya, .int mb, .ref ea, .ref wa])), (ra, .inl (cI, 28, .inl rf))] := hD
    refine lv_aload_n hx hb dR_thick_24 rfl (lv_at hl 0 rfl) ?_
    refine va_get (D := (dC, dI)) (ci := 3) (v := .int 1) (C := xR_R) (T := xF_R) (N := 20) hx hb hts xi_R hown hK hP 0 rfl rfl 0 (by decide) (hts _ xk_646) (fun _ h9 => h9) rfl dR_thick_25 ?_
    refine lv_if_ne (tgt := 48) hx hb dR_thick_28 (by decide) (fun c_6 => ?_) (fun c_6 => ?_)
    · refine lv_iconst (v := 0) hx hb dR_thick_48 (by decide) ?_
      have e_0 : gR_thick rf kind tk = false := (if_neg c_1).trans (rfl)
      have e_1 : gR_thick_0 rf kind tk = (1 : Int32) := (if_neg c_1).trans (rfl)
      have hP9 := hP.sub (ws' := [(h0, .inr (3, [.int 1, .ref ta, .int zs, .int po, .int fa, .ref da, .ref ra, .ref la, .long we, .long le, .int pk, .int pm, .int co, .ref pa, .int pl, .ref xa, .ref ya, .int mb, .ref ea, .ref wa])), (ra, .inl (cI, 28, .inl rf))]) [0, 1] rfl
      have hD9 := hD.sub (ws' := [(h0, .inr (3, [.int 1, .ref ta, .int zs, .int po, .int fa, .ref da, .ref ra, .ref la, .long we, .long le, .int pk, .int pm, .int co, .ref pa, .int pl, .ref xa, .ref ya, .int mb, .ref ea, .ref wa])), (ra, .inl (cI, 28, .inl rf))]) [0, 1] (by decide) rfl
      exact W.zret (v := 0) hx hb hr (by decide) (fun t ht hW => ⟨_, _, rfl, ⟨by first | rfl | (simp only [e_0, e_1]; try rfl), by first | rfl | (simp only [e_0, e_1]; try rfl)⟩, by rw [ht]; exact hP9, hD9, hS.F ht⟩) hS.2.2 dR_thick_49
    · exact absurd c_6 (by decide)

def gR_hole (rf : Nat → Int32) (kind : Int32) : Int32 := if (fR_isFour kind) = true then (if kind = 3 then (rf (7 * kind).toNatClampNeg) else (if kind = 2 then ((rf (7 * kind).toNatClampNeg) + 10) else (if kind = 1 then (((rf (7 * kind).toNatClampNeg) * 7) / 10) else (if (rf (7 * kind).toNatClampNeg) ≤ 50 then ((0)) else (((rf (7 * kind).toNatClampNeg) * 7) / 10))))) else ((0))
def gR_hole_0 (rf : Nat → Int32) (kind : Int32) : Int32 := if (fR_isFour kind) = true then (if kind = 3 then ((0)) else (if kind = 2 then ((0)) else (if kind = 1 then ((0)) else (if (rf (7 * kind).toNatClampNeg) ≤ 50 then ((0)) else ((0)))))) else ((1))
set_option maxHeartbeats 4000000 in
set_option maxRecDepth 100000 in
theorem cR_hole (l : Launch) {s0 : State} {dC : Nat → ClassId} {dI : Nat → Nat → Nat} {cI cC cL : ClassId} (E : xb_Env l s0 dC dI (xtys cI cC cL)) (sz : Nat) (h0 : Nat) (ra : Nat) (th : Int32) (ta : Nat) (zs : Int32) (po : Int32) (fa : Int32) (da : Nat) (la : Nat) (we : Int64) (le : Int64) (pk : Int32) (pm : Int32) (co : Int32) (pa : Nat) (pl : Int32) (xa : Nat) (ya : Nat) (mb : Int32) (ea : Nat) (wa : Nat) (rf : Nat → Int32) (kind : Int32) : Met l yR_hole [.code yR_hole bR_hole 3 (some (.int))] ({ frames := 1, cells := 0, slots := 0, locals := 20 }) (va_Pc [.ref h0, .int kind] (fun U => xb_At s0 U ∧ U.heap.size = sz ∧ va_P (dC, dI) classes [(h0, .inr (3, [.int th, .ref ta, .int zs, .int po, .int fa, .ref da, .ref ra, .ref la, .long we, .long le, .int pk, .int pm, .int co, .ref pa, .int pl, .ref xa, .ref ya, .int mb, .ref ea, .ref wa])), (ra, .inl (cI, 28, .inl rf))] U.heap ∧ va_D (fun q => s0.heap.size ≤ q) [(h0, .inr (3, [.int th, .ref ta, .int zs, .int po, .int fa, .ref da, .ref ra, .ref la, .long we, .long le, .int pk, .int pm, .int co, .ref pa, .int pl, .ref xa, .ref ya, .int mb, .ref ea, .ref wa])), (ra, .inl (cI, 28, .inl rf))])) (xb_W (dC, dI) (fun v w => v = some (.int (gR_hole rf kind)) ∧ w = [(h0, .inr (3, [.int (gR_hole_0 rf kind), .ref ta, .int zs, .int po, .int fa, .ref da, .ref ra, .ref la, .long we, .long le, .int pk, .int pm, .int co, .ref pa, .int pl, .ref xa, .ref ya, .int mb, .ref ea, .ref wa])), (ra, .inl (cI, 28, .inl rf))]) (va_A [(h0, .inr (3, [.int th, .ref ta, .int zs, .int po, .int fa, .ref da, .ref ra, .ref la, .long we, .long le, .int pk, .int pm, .int co, .ref pa, .int pl, .ref xa, .ref ya, .int mb, .ref ea, .ref wa])), (ra, .inl (cI, 28, .inl rf))] sz)) 0 0 (va_A [(h0, .inr (3, [.int th, .ref ta, .int zs, .int po, .int fa, .ref da, .ref ra, .ref la, .long we, .long le, .int pk, .int pm, .int co, .ref pa, .int pl, .ref xa, .ref ya, .int mb, .ref ea, .ref wa])), (ra, .inl (cI, 28, .inl rf))] sz) := by
  refine Met.ofW (cc := bR_hole) (maxL := 3) (ret := (some (.int))) (by decide) rfl ?_
  intro p e s m args below meth c s₁ B hml hv
  obtain ⟨rfl, hAt, hsz, hP, hD0⟩ := hv
  have hx := B.exec
  have hb := B.bytes
  have hr := B.returns
  have hts := xb_hts E hAt ([.ref h0, .int kind] : List Value).toArray
  have hown : s.vm.findClass "NailRulesModel" = some m.cls := findClass_of_methodNamed B.named
  have hlocks := B.notSynchronized
  have hK := xb_K E hAt
  subst hsz
  have hA0 := xb_A0 hAt hD0
  have hD := hD0.self (sz := s.heap.size)
  generalize hAe : va_A [(h0, .inr (3, [.int th, .ref ta, .int zs, .int po, .int fa, .ref da, .ref ra, .ref la, .long we, .long le, .int pk, .int pm, .int co, .ref pa, .int pl, .ref xa, .ref ya, .int mb, .ref ea, .ref wa])), (ra, .inl (cI, 28, .inl rf))] s.heap.size = A at hD hA0 ⊢
  have hA : ∀ q : Nat, s.heap.size ≤ q → A q := fun q h => by rw [← hAe]; exact Or.inr h
  have hS : va_S A s.heap s.heap [] := va_S.rf
  have hl := lv_entry ([.ref h0, .int kind]) (n := 3) (Nat.le_of_ble_eq_true rfl)
  rw [lg_entry_eq]
  generalize (lg_sl ([.ref h0, .int kind]) ++ List.replicate (3 - (lg_sl ([.ref h0, .int kind])).length) Slot.unset).toArray = ls at hl ⊢
  have hl : lv_has ls 3 [(0, .ref h0), (1, .int kind)] := hl
  refine lv_aload_n hx hb dR_hole_0 rfl (lv_at hl 0 rfl) ?_
  refine lv_iload_n hx hb dR_hole_1 rfl (lv_at hl 1 rfl) ?_
  refine xb_rd (W.runS (As := [.int kind]) (rest := [.ref h0]) ⟨hx, hb, hml, hown, hts⟩ (cR_isFour l E kind) (cwS 1 hts (xb_gi (List.forall_mem_cons.mpr ⟨xk_750, List.forall_mem_cons.mpr ⟨xk_751, List.forall_mem_cons.mpr ⟨xk_45, List.forall_mem_cons.mpr ⟨xk_752, fun _ h => absurd h List.not_mem_nil⟩⟩⟩⟩)) rfl rfl rfl (by decide +kernel) ⟨Nat.le_of_ble_eq_true rfl, Nat.le_of_ble_eq_true rfl⟩) ⟨fun _ _ _ _ q => q, fun U hU hW => ⟨rfl, xb_atS hAt hS hA0 hU hW, fun k q h => by simp at h⟩⟩ rfl rfl hl.1 rfl (lv_room (Nat.le_of_ble_eq_true rfl)) dR_hole_2 ⟨Nat.zero_le _, Nat.zero_le _⟩) ?_
  refine lv_if_eq (tgt := 12) hx hb dR_hole_5 (by decide) (fun c_1 => ?_) (fun c_1 => ?_)
  · have c_1 := xb_bi_f.mp c_1
    refine lv_iconst (v := 1) hx hb dR_hole_12 (by decide) ?_
    refine va_put (D := (dC, dI)) (ci := 3) (v := .int 1) (ty := .int) (C := xR_R) (T := xF_R) (N := 20) hx hb hts xi_R xt_R xt_R_ok xn_R hown hK hP hD hS 0 rfl rfl 0 (by decide) (hts _ xk_646) (fun _ h9 => h9) rfl (by decide +kernel) rfl rfl (Nat.le_of_ble_eq_true rfl) dR_hole_13 (fun H locs hP hD hS => ?_)
    have hP : va_P (dC, dI) classes [(h0, .inr (3, [.int 1, .ref ta, .int zs, .int po, .int fa, .ref da, .ref ra, .ref la, .long we, .long le, .int pk, .int pm, .int co, .ref pa, .int pl, .ref xa, .ref ya, .int mb, .ref ea, .ref wa])), (ra, .inl (cI, 28, .inl rf))] H := hP
    have hD : va_D A [(h0, .inr (3, [.int 1, .ref ta, .int zs, .int po, .int fa, .ref da, .ref ra, .ref la, .long we, .long le, .int pk, .int pm, .int co, .ref pa, .int pl, .ref xa, .ref ya, .int mb, .ref ea, .ref wa])), (ra, .inl (cI, 28, .inl rf))] := hD
    refine lv_aload_n hx hb dR_hole_16 rfl (lv_at hl 0 rfl) ?_
    refine va_get (D := (dC, dI)) (ci := 3) (v := .int 1) (C := xR_R) (T := xF_R) (N := 20) hx hb hts xi_R hown hK hP 0 rfl rfl 0 (by decide) (hts _ xk_646) (fun _ h9 => h9) rfl dR_hole_17 ?_
    refine lv_if_le (tgt := 25) hx hb dR_hole_20 (by decide) (fun c_2 => ?_) (fun c_2 => ?_)
    · exact absurd c_2 (by decide)
    · refine lv_iconst (v := 0) hx hb dR_hole_23 (by decide) ?_
      have e_0 : gR_hole rf kind = (0 : Int32) := (if_neg c_1).trans (rfl)
      have e_1 : gR_hole_0 rf kind = (1 : Int32) := (if_neg c_1).trans (rfl)
      have hP9 := hP.sub (ws' := [(h0, .inr (3, [.int 1, .ref ta, .int zs, .int po, .int fa, .ref da, .ref ra, .ref la, .long we, .long le, .int pk, .int pm, .int co, .ref pa, .int pl, .ref xa, .ref ya, .int mb, .ref ea, .ref wa])), (ra, .inl (cI, 28, .inl rf))]) [0, 1] rfl
      have hD9 := hD.sub (ws' := [(h0, .inr (3, [.int 1, .ref ta, .int zs, .int po, .int fa, .ref da, .ref ra, .ref la, .long we, .long le, .int pk, .int pm, .int co, .ref pa, .int pl, .ref xa, .ref ya, .int mb, .ref ea, .ref wa])), (ra, .inl (cI, 28, .inl rf))]) [0, 1] (by decide) rfl
      exact W.iret (v := 0) hx hb hr (fun t ht hW => ⟨_, _, rfl, ⟨by first | rfl | (simp only [e_0, e_1]; try rfl), by first | rfl | (simp only [e_0, e_1]; try rfl)⟩, by rw [ht]; exact hP9, hD9, hS.F ht⟩) hS.2.2 dR_hole_24
  · have c_1 := xb_bi_t.mp c_1
    refine lv_iconst (v := 0) hx hb dR_hole_8 (by decide) ?_
    refine lv_goto (tgt := 13) hx hb dR_hole_9 (by decide) ?_
    refine va_put (D := (dC, dI)) (ci := 3) (v := .int 0) (ty := .int) (C := xR_R) (T := xF_R) (N := 20) hx hb hts xi_R xt_R xt_R_ok xn_R hown hK hP hD hS 0 rfl rfl 0 (by decide) (hts _ xk_646) (fun _ h9 => h9) rfl (by decide +kernel) rfl rfl (Nat.le_of_ble_eq_true rfl) dR_hole_13 (fun H locs hP hD hS => ?_)
    have hP : va_P (dC, dI) classes [(h0, .inr (3, [.int 0, .ref ta, .int zs, .int po, .int fa, .ref da, .ref ra, .ref la, .long we, .long le, .int pk, .int pm, .int co, .ref pa, .int pl, .ref xa, .ref ya, .int mb, .ref ea, .ref wa])), (ra, .inl (cI, 28, .inl rf))] H := hP
    have hD : va_D A [(h0, .inr (3, [.int 0, .ref ta, .int zs, .int po, .int fa, .ref da, .ref ra, .ref la, .long we, .long le, .int pk, .int pm, .int co, .ref pa, .int pl, .ref xa, .ref ya, .int mb, .ref ea, .ref wa])), (ra, .inl (cI, 28, .inl rf))] := hD
    refine lv_aload_n hx hb dR_hole_16 rfl (lv_at hl 0 rfl) ?_
    refine va_get (D := (dC, dI)) (ci := 3) (v := .int 0) (C := xR_R) (T := xF_R) (N := 20) hx hb hts xi_R hown hK hP 0 rfl rfl 0 (by decide) (hts _ xk_646) (fun _ h9 => h9) rfl dR_hole_17 ?_
    refine lv_if_le (tgt := 25) hx hb dR_hole_20 (by decide) (fun c_3 => ?_) (fun c_3 => ?_)
    · refine lv_aload_n hx hb dR_hole_25 rfl (lv_at hl 0 rfl) ?_
      refine va_get (D := (dC, dI)) (ci := 3) (v := .ref ra) (C := xR_R) (T := xF_R) (N := 20) hx hb hts xi_R hown hK hP 0 rfl rfl 6 (by decide) (hts _ xk_652) (fun _ h9 => h9) rfl dR_hole_26 ?_
      refine lv_bipush (v := 7) hx hb dR_hole_29 (by decide) ?_
      refine lv_iload_n hx hb dR_hole_31 rfl (lv_at hl 1 rfl) ?_
      refine lv_imul hx hb dR_hole_32 ?_
      have o_4 : vp_in (7 * kind) 28 := by exact xp_rul0 (by assumption)
      refine va_iald hx hb hK hP 1 0 rfl rfl o_4 dR_hole_33 ?_
      refine lv_istore_n (lv' := [(2, .int (rf (7 * kind).toNatClampNeg)), (0, .ref h0), (1, .int kind)]) hx hb dR_hole_34 rfl hl (by decide) rfl (fun ls hl => ?_)
      refine lv_iload_n hx hb dR_hole_35 rfl (lv_at hl 2 rfl) ?_
      refine lv_iconst (v := 3) hx hb dR_hole_36 (by decide) ?_
      refine lv_icmp_ne (tgt := 44) hx hb dR_hole_37 (by decide) (fun c_6 => ?_) (fun c_6 => ?_)
      · refine lv_iload_n hx hb dR_hole_44 rfl (lv_at hl 2 rfl) ?_
        refine lv_iconst (v := 2) hx hb dR_hole_45 (by decide) ?_
        refine lv_icmp_ne (tgt := 56) hx hb dR_hole_46 (by decide) (fun c_7 => ?_) (fun c_7 => ?_)
        · refine lv_iload_n hx hb dR_hole_56 rfl (lv_at hl 2 rfl) ?_
          refine lv_iconst (v := 1) hx hb dR_hole_57 (by decide) ?_
          refine lv_icmp_eq (tgt := 67) hx hb dR_hole_58 (by decide) (fun c_8 => ?_) (fun c_8 => ?_)
          · refine lv_iload_n hx hb dR_hole_67 rfl (lv_at hl 0 rfl) ?_
            refine lv_bipush (v := 7) hx hb dR_hole_68 (by decide) ?_
            refine lv_imul hx hb dR_hole_70 ?_
            refine lv_bipush (v := 10) hx hb dR_hole_71 (by decide) ?_
            refine lv_idiv hx hb dR_hole_73 (by decide) ?_
            refine lv_goto (tgt := 78) hx hb dR_hole_74 (by decide) ?_
            have e_0 : gR_hole rf kind = (((rf (7 * kind).toNatClampNeg) * 7) / 10) := (if_pos c_1).trans ((if_neg c_6).trans ((if_neg c_7).trans ((if_pos c_8).trans (rfl))))
            have e_1 : gR_hole_0 rf kind = (0 : Int32) := (if_pos c_1).trans ((if_neg c_6).trans ((if_neg c_7).trans ((if_pos c_8).trans (rfl))))
            have hP9 := hP.sub (ws' := [(h0, .inr (3, [.int 0, .ref ta, .int zs, .int po, .int fa, .ref da, .ref ra, .ref la, .long we, .long le, .int pk, .int pm, .int co, .ref pa, .int pl, .ref xa, .ref ya, .int mb, .ref ea, .ref wa])), (ra, .inl (cI, 28, .inl rf))]) [0, 1] rfl
            have hD9 := hD.sub (ws' := [(h0, .inr (3, [.int 0, .ref ta, .int zs, .int po, .int fa, .ref da, .ref ra, .ref la, .long we, .long le, .int pk, .int pm, .int co, .ref pa, .int pl, .ref xa, .ref ya, .int mb, .ref ea, .ref wa])), (ra, .inl (cI, 28, .inl rf))]) [0, 1] (by decide) rfl
            exact W.iret (v := (((rf (7 * kind).toNatClampNeg) * 7) / 10)) hx hb hr (fun t ht hW => ⟨_, _, rfl, ⟨by first | rfl | (simp only [e_0, e_1]; try rfl), by first | rfl | (simp only [e_0, e_1]; try rfl)⟩, by rw [ht]; exact hP9, hD9, hS.F ht⟩) hS.2.2 dR_hole_78
          · refine lv_iload_n hx hb dR_hole_61 rfl (lv_at hl 0 rfl) ?_
            refine lv_bipush (v := 50) hx hb dR_hole_62 (by decide) ?_
            refine lv_icmp_le (tgt := 77) hx hb dR_hole_64 (by decide) (fun c_9 => ?_) (fun c_9 => ?_)
            · refine lv_iconst (v := 0) hx hb dR_hole_77 (by decide) ?_
              have e_0 : gR_hole rf kind = (0 : Int32) := (if_pos c_1).trans ((if_neg c_6).trans ((if_neg c_7).trans ((if_neg c_8).trans ((if_pos c_9).trans (rfl)))))
              have e_1 : gR_hole_0 rf kind = (0 : Int32) := (if_pos c_1).trans ((if_neg c_6).trans ((if_neg c_7).trans ((if_neg c_8).trans ((if_pos c_9).trans (rfl)))))
              have hP9 := hP.sub (ws' := [(h0, .inr (3, [.int 0, .ref ta, .int zs, .int po, .int fa, .ref da, .ref ra, .ref la, .long we, .long le, .int pk, .int pm, .int co, .ref pa, .int pl, .ref xa, .ref ya, .int mb, .ref ea, .ref wa])), (ra, .inl (cI, 28, .inl rf))]) [0, 1] rfl
              have hD9 := hD.sub (ws' := [(h0, .inr (3, [.int 0, .ref ta, .int zs, .int po, .int fa, .ref da, .ref ra, .ref la, .long we, .long le, .int pk, .int pm, .int co, .ref pa, .int pl, .ref xa, .ref ya, .int mb, .ref ea, .ref wa])), (ra, .inl (cI, 28, .inl rf))]) [0, 1] (by decide) rfl
              exact W.iret (v := 0) hx hb hr (fun t ht hW => ⟨_, _, rfl, ⟨by first | rfl | (simp only [e_0, e_1]; try rfl), by first | rfl | (simp only [e_0, e_1]; try rfl)⟩, by rw [ht]; exact hP9, hD9, hS.F ht⟩) hS.2.2 dR_hole_78
            · refine lv_iload_n hx hb dR_hole_67 rfl (lv_at hl 0 rfl) ?_
              refine lv_bipush (v := 7) hx hb dR_hole_68 (by decide) ?_
              refine lv_imul hx hb dR_hole_70 ?_
              refine lv_bipush (v := 10) hx hb dR_hole_71 (by decide) ?_
              refine lv_idiv hx hb dR_hole_73 (by decide) ?_
              refine lv_goto (tgt := 78) hx hb dR_hole_74 (by decide) ?_
              have e_0 : gR_hole rf kind = (((rf (7 * kind).toNatClampNeg) * 7) / 10) := (if_pos c_1).trans ((if_neg c_6).trans ((if_neg c_7).trans ((if_neg c_8).trans ((if_neg c_9).trans (rfl)))))
              have e_1 : gR_hole_0 rf kind = (0 : Int32) := (if_pos c_1).trans ((if_neg c_6).trans ((if_neg c_7).trans ((if_neg c_8).trans ((if_neg c_9).trans (rfl)))))
              have hP9 := hP.sub (ws' := [(h0, .inr (3, [.int 0, .ref ta, .int zs, .int po, .int fa, .ref da, .ref ra, .ref la, .long we, .long le, .int pk, .int pm, .int co, .ref pa, .int pl, .ref xa, .ref ya, .int mb, .ref ea, .ref wa])), (ra, .inl (cI, 28, .inl rf))]) [0, 1] rfl
              have hD9 := hD.sub (ws' := [(h0, .inr (3, [.int 0, .ref ta, .int zs, .int po, .int fa, .ref da, .ref ra, .ref la, .long we, .long le, .int pk, .int pm, .int co, .ref pa, .int pl, .ref xa, .ref ya, .int mb, .ref ea, .ref wa])), (ra, .inl (cI, 28, .inl rf))]) [0, 1] (by decide) rfl
              exact W.iret (v := (((rf (7 * kind).toNatClampNeg) * 7) / 10)) hx hb hr (fun t ht hW => ⟨_, _, rfl, ⟨by first | rfl | (simp only [e_0, e_1]; try rfl), by first | rfl | (simp only [e_0, e_1]; try rfl)⟩, by rw [ht]; exact hP9, hD9, hS.F ht⟩) hS.2.2 dR_hole_78
        · refine lv_iload_n hx hb dR_hole_49 rfl (lv_at hl 0 rfl) ?_
          refine lv_bipush (v := 10) hx hb dR_hole_50 (by decide) ?_
          refine lv_iadd hx hb dR_hole_52 ?_
          refine lv_goto (tgt := 78) hx hb dR_hole_53 (by decide) ?_
          have e_0 : gR_hole rf kind = ((rf (7 * kind).toNatClampNeg) + 10) := (if_pos c_1).trans ((if_neg c_6).trans ((if_pos c_7).trans (rfl)))
          have e_1 : gR_hole_0 rf kind = (0 : Int32) := (if_pos c_1).trans ((if_neg c_6).trans ((if_pos c_7).trans (rfl)))
          have hP9 := hP.sub (ws' := [(h0, .inr (3, [.int 0, .ref ta, .int zs, .int po, .int fa, .ref da, .ref ra, .ref la, .long we, .long le, .int pk, .int pm, .int co, .ref pa, .int pl, .ref xa, .ref ya, .int mb, .ref ea, .ref wa])), (ra, .inl (cI, 28, .inl rf))]) [0, 1] rfl
          have hD9 := hD.sub (ws' := [(h0, .inr (3, [.int 0, .ref ta, .int zs, .int po, .int fa, .ref da, .ref ra, .ref la, .long we, .long le, .int pk, .int pm, .int co, .ref pa, .int pl, .ref xa, .ref ya, .int mb, .ref ea, .ref wa])), (ra, .inl (cI, 28, .inl rf))]) [0, 1] (by decide) rfl
          exact W.iret (v := ((rf (7 * kind).toNatClampNeg) + 10)) hx hb hr (fun t ht hW => ⟨_, _, rfl, ⟨by first | rfl | (simp only [e_0, e_1]; try rfl), by first | rfl | (simp only [e_0, e_1]; try rfl)⟩, by rw [ht]; exact hP9, hD9, hS.F ht⟩) hS.2.2 dR_hole_78
      · refine lv_iload_n hx hb dR_hole_40 rfl (lv_at hl 0 rfl) ?_
        refine lv_goto (tgt := 78) hx hb dR_hole_41 (by decide) ?_
        have e_0 : gR_hole rf kind = (rf (7 * kind).toNatClampNeg) := (if_pos c_1).trans ((if_pos c_6).trans (rfl))
        have e_1 : gR_hole_0 rf kind = (0 : Int32) := (if_pos c_1).trans ((if_pos c_6).trans (rfl))
        have hP9 := hP.sub (ws' := [(h0, .inr (3, [.int 0, .ref ta, .int zs, .int po, .int fa, .ref da, .ref ra, .ref la, .long we, .long le, .int pk, .int pm, .int co, .ref pa, .int pl, .ref xa, .ref ya, .int mb, .ref ea, .ref wa])), (ra, .inl (cI, 28, .inl rf))]) [0, 1] rfl
        have hD9 := hD.sub (ws' := [(h0, .inr (3, [.int 0, .ref ta, .int zs, .int po, .int fa, .ref da, .ref ra, .ref la, .long we, .long le, .int pk, .int pm, .int co, .ref pa, .int pl, .ref xa, .ref ya, .int mb, .ref ea, .ref wa])), (ra, .inl (cI, 28, .inl rf))]) [0, 1] (by decide) rfl
        exact W.iret (v := (rf (7 * kind).toNatClampNeg)) hx hb hr (fun t ht hW => ⟨_, _, rfl, ⟨by first | rfl | (simp only [e_0, e_1]; try rfl), by first | rfl | (simp only [e_0, e_1]; try rfl)⟩, by rw [ht]; exact hP9, hD9, hS.F ht⟩) hS.2.2 dR_hole_78
    · exact absurd c_3 (by decide)

def gR_in (ef : Nat → Int32) (wf : Nat → Int32) (mb : Int32) (m1 : Int32) (x : Int32) (y : Int32) : Bool := if (fR_noMember mb m1) = true then (false) else (if (fR_isPlace x) = true then (if (fR_isPlace y) = true then (if (fR_isWithin ef wf m1 x.toInt64 y.toInt64) = true then (true) else (false)) else (false)) else (false))
def gR_in_0 (ef : Nat → Int32) (wf : Nat → Int32) (mb : Int32) (m1 : Int32) (x : Int32) (y : Int32) : Int32 := if (fR_noMember mb m1) = true then ((1)) else (if (fR_isPlace x) = true then (if (fR_isPlace y) = true then (if (fR_isWithin ef wf m1 x.toInt64 y.toInt64) = true then ((0)) else ((0))) else ((2))) else ((2)))
set_option maxHeartbeats 4000000 in
set_option maxRecDepth 100000 in
theorem cR_in (l : Launch) {s0 : State} {dC : Nat → ClassId} {dI : Nat → Nat → Nat} {cI cC cL : ClassId} (E : xb_Env l s0 dC dI (xtys cI cC cL)) (sz : Nat) (h0 : Nat) (ea : Nat) (wa : Nat) (th : Int32) (ta : Nat) (zs : Int32) (po : Int32) (fa : Int32) (da : Nat) (ra : Nat) (la : Nat) (we : Int64) (le : Int64) (pk : Int32) (pm : Int32) (co : Int32) (pa : Nat) (pl : Int32) (xa : Nat) (ya : Nat) (mb : Int32) (ef : Nat → Int32) (wf : Nat → Int32) (m1 : Int32) (x : Int32) (y : Int32) (m6 : mb ≤ 6) : Met l yR_in [.code yR_in bR_in 4 (some (.boolean))] ({ frames := 2, cells := 0, slots := 0, locals := 45 }) (va_Pc [.ref h0, .int m1, .int x, .int y] (fun U => xb_At s0 U ∧ U.heap.size = sz ∧ va_P (dC, dI) classes [(h0, .inr (3, [.int th, .ref ta, .int zs, .int po, .int fa, .ref da, .ref ra, .ref la, .long we, .long le, .int pk, .int pm, .int co, .ref pa, .int pl, .ref xa, .ref ya, .int mb, .ref ea, .ref wa])), (ea, .inl (cI, 24, .inl ef)), (wa, .inl (cI, 6, .inl wf))] U.heap ∧ va_D (fun q => s0.heap.size ≤ q) [(h0, .inr (3, [.int th, .ref ta, .int zs, .int po, .int fa, .ref da, .ref ra, .ref la, .long we, .long le, .int pk, .int pm, .int co, .ref pa, .int pl, .ref xa, .ref ya, .int mb, .ref ea, .ref wa])), (ea, .inl (cI, 24, .inl ef)), (wa, .inl (cI, 6, .inl wf))])) (xb_W (dC, dI) (fun v w => v = some (.int (xb_bi (gR_in ef wf mb m1 x y))) ∧ w = [(h0, .inr (3, [.int (gR_in_0 ef wf mb m1 x y), .ref ta, .int zs, .int po, .int fa, .ref da, .ref ra, .ref la, .long we, .long le, .int pk, .int pm, .int co, .ref pa, .int pl, .ref xa, .ref ya, .int mb, .ref ea, .ref wa])), (ea, .inl (cI, 24, .inl ef)), (wa, .inl (cI, 6, .inl wf))]) (va_A [(h0, .inr (3, [.int th, .ref ta, .int zs, .int po, .int fa, .ref da, .ref ra, .ref la, .long we, .long le, .int pk, .int pm, .int co, .ref pa, .int pl, .ref xa, .ref ya, .int mb, .ref ea, .ref wa])), (ea, .inl (cI, 24, .inl ef)), (wa, .inl (cI, 6, .inl wf))] sz)) 0 0 (va_A [(h0, .inr (3, [.int th, .ref ta, .int zs, .int po, .int fa, .ref da, .ref ra, .ref la, .long we, .long le, .int pk, .int pm, .int co, .ref pa, .int pl, .ref xa, .ref ya, .int mb, .ref ea, .ref wa])), (ea, .inl (cI, 24, .inl ef)), (wa, .inl (cI, 6, .inl wf))] sz) := by
  refine Met.ofW (cc := bR_in) (maxL := 4) (ret := (some (.boolean))) (by decide) rfl ?_
  intro p e s m args below meth c s₁ B hml hv
  obtain ⟨rfl, hAt, hsz, hP, hD0⟩ := hv
  have hx := B.exec
  have hb := B.bytes
  have hr := B.returns
  have hts := xb_hts E hAt ([.ref h0, .int m1, .int x, .int y] : List Value).toArray
  have hown : s.vm.findClass "NailRulesModel" = some m.cls := findClass_of_methodNamed B.named
  have hlocks := B.notSynchronized
  have hK := xb_K E hAt
  subst hsz
  have hA0 := xb_A0 hAt hD0
  have hD := hD0.self (sz := s.heap.size)
  generalize hAe : va_A [(h0, .inr (3, [.int th, .ref ta, .int zs, .int po, .int fa, .ref da, .ref ra, .ref la, .long we, .long le, .int pk, .int pm, .int co, .ref pa, .int pl, .ref xa, .ref ya, .int mb, .ref ea, .ref wa])), (ea, .inl (cI, 24, .inl ef)), (wa, .inl (cI, 6, .inl wf))] s.heap.size = A at hD hA0 ⊢
  have hA : ∀ q : Nat, s.heap.size ≤ q → A q := fun q h => by rw [← hAe]; exact Or.inr h
  have hS : va_S A s.heap s.heap [] := va_S.rf
  have hl := lv_entry ([.ref h0, .int m1, .int x, .int y]) (n := 4) (Nat.le_of_ble_eq_true rfl)
  rw [lg_entry_eq]
  generalize (lg_sl ([.ref h0, .int m1, .int x, .int y]) ++ List.replicate (4 - (lg_sl ([.ref h0, .int m1, .int x, .int y])).length) Slot.unset).toArray = ls at hl ⊢
  have hl : lv_has ls 4 [(0, .ref h0), (1, .int m1), (2, .int x), (3, .int y)] := hl
  refine lv_aload_n hx hb dR_in_0 rfl (lv_at hl 0 rfl) ?_
  refine lv_aload_n hx hb dR_in_1 rfl (lv_at hl 0 rfl) ?_
  refine lv_iload_n hx hb dR_in_2 rfl (lv_at hl 1 rfl) ?_
  refine xb_rd (W.runV (C := "NailRulesModel") (As := [.int m1]) (rest := [.ref h0]) ⟨hx, hb, hml, hown, hts⟩ (cR_noMember l E h0 ([.int th, .ref ta, .int zs, .int po, .int fa, .ref da, .ref ra, .ref la, .long we, .long le, .int pk, .int pm, .int co, .ref pa, .int pl, .ref xa, .ref ya, .int mb, .ref ea, .ref wa]) mb m1 rfl) (cwV 1 hts (xb_gi (List.forall_mem_cons.mpr ⟨xk_828, List.forall_mem_cons.mpr ⟨xk_830, List.forall_mem_cons.mpr ⟨xk_37, List.forall_mem_cons.mpr ⟨xk_45, List.forall_mem_cons.mpr ⟨xk_831, fun _ h => absurd h List.not_mem_nil⟩⟩⟩⟩⟩)) rfl rfl rfl (by decide +kernel) ⟨Nat.le_of_ble_eq_true rfl, Nat.le_of_ble_eq_true rfl⟩) ⟨fun _ _ _ _ q => q, va_recv hK hP (ci := 3) (q0 := 0) rfl rfl, fun U hU hW => ⟨rfl, xb_atS hAt hS hA0 hU hW, by rw [hU]; exact hP.sub (ws' := [(h0, .inr (3, [.int th, .ref ta, .int zs, .int po, .int fa, .ref da, .ref ra, .ref la, .long we, .long le, .int pk, .int pm, .int co, .ref pa, .int pl, .ref xa, .ref ya, .int mb, .ref ea, .ref wa]))]) [0] rfl⟩⟩ rfl rfl hl.1 rfl (lv_room (Nat.le_of_ble_eq_true rfl)) dR_in_3 ⟨Nat.zero_le _, Nat.zero_le _⟩) ?_
  refine lv_if_eq (tgt := 13) hx hb dR_in_6 (by decide) (fun c_1 => ?_) (fun c_1 => ?_)
  · have c_1 := xb_bi_f.mp c_1
    refine lv_iload_n hx hb dR_in_13 rfl (lv_at hl 2 rfl) ?_
    refine xb_rd (W.runS (As := [.int x]) (rest := [.ref h0]) ⟨hx, hb, hml, hown, hts⟩ (cR_isPlace l E x) (cwS 1 hts (xb_gi (List.forall_mem_cons.mpr ⟨xk_819, List.forall_mem_cons.mpr ⟨xk_820, List.forall_mem_cons.mpr ⟨xk_45, List.forall_mem_cons.mpr ⟨xk_821, fun _ h => absurd h List.not_mem_nil⟩⟩⟩⟩)) rfl rfl rfl (by decide +kernel) ⟨Nat.le_of_ble_eq_true rfl, Nat.le_of_ble_eq_true rfl⟩) ⟨fun _ _ _ _ q => q, fun U hU hW => ⟨rfl, xb_atS hAt hS hA0 hU hW, fun k q h => by simp at h⟩⟩ rfl rfl hl.1 rfl (lv_room (Nat.le_of_ble_eq_true rfl)) dR_in_14 ⟨Nat.zero_le _, Nat.zero_le _⟩) ?_
    refine lv_if_eq (tgt := 31) hx hb dR_in_17 (by decide) (fun c_2 => ?_) (fun c_2 => ?_)
    · have c_2 := xb_bi_f.mp c_2
      refine lv_iconst (v := 2) hx hb dR_in_31 (by decide) ?_
      refine va_put (D := (dC, dI)) (ci := 3) (v := .int 2) (ty := .int) (C := xR_R) (T := xF_R) (N := 20) hx hb hts xi_R xt_R xt_R_ok xn_R hown hK hP hD hS 0 rfl rfl 0 (by decide) (hts _ xk_646) (fun _ h9 => h9) rfl (by decide +kernel) rfl rfl (Nat.le_of_ble_eq_true rfl) dR_in_32 (fun H locs hP hD hS => ?_)
      have hP : va_P (dC, dI) classes [(h0, .inr (3, [.int 2, .ref ta, .int zs, .int po, .int fa, .ref da, .ref ra, .ref la, .long we, .long le, .int pk, .int pm, .int co, .ref pa, .int pl, .ref xa, .ref ya, .int mb, .ref ea, .ref wa])), (ea, .inl (cI, 24, .inl ef)), (wa, .inl (cI, 6, .inl wf))] H := hP
      have hD : va_D A [(h0, .inr (3, [.int 2, .ref ta, .int zs, .int po, .int fa, .ref da, .ref ra, .ref la, .long we, .long le, .int pk, .int pm, .int co, .ref pa, .int pl, .ref xa, .ref ya, .int mb, .ref ea, .ref wa])), (ea, .inl (cI, 24, .inl ef)), (wa, .inl (cI, 6, .inl wf))] := hD
      refine lv_aload_n hx hb dR_in_35 rfl (lv_at hl 0 rfl) ?_
      refine va_get (D := (dC, dI)) (ci := 3) (v := .int 2) (C := xR_R) (T := xF_R) (N := 20) hx hb hts xi_R hown hK hP 0 rfl rfl 0 (by decide) (hts _ xk_646) (fun _ h9 => h9) rfl dR_in_36 ?_
      refine lv_if_ne (tgt := 58) hx hb dR_in_39 (by decide) (fun c_3 => ?_) (fun c_3 => ?_)
      · refine lv_iconst (v := 0) hx hb dR_in_58 (by decide) ?_
        have e_0 : gR_in ef wf mb m1 x y = false := (if_neg c_1).trans ((if_neg c_2).trans (rfl))
        have e_1 : gR_in_0 ef wf mb m1 x y = (2 : Int32) := (if_neg c_1).trans ((if_neg c_2).trans (rfl))
        have hP9 := hP.sub (ws' := [(h0, .inr (3, [.int 2, .ref ta, .int zs, .int po, .int fa, .ref da, .ref ra, .ref la, .long we, .long le, .int pk, .int pm, .int co, .ref pa, .int pl, .ref xa, .ref ya, .int mb, .ref ea, .ref wa])), (ea, .inl (cI, 24, .inl ef)), (wa, .inl (cI, 6, .inl wf))]) [0, 1, 2] rfl
        have hD9 := hD.sub (ws' := [(h0, .inr (3, [.int 2, .ref ta, .int zs, .int po, .int fa, .ref da, .ref ra, .ref la, .long we, .long le, .int pk, .int pm, .int co, .ref pa, .int pl, .ref xa, .ref ya, .int mb, .ref ea, .ref wa])), (ea, .inl (cI, 24, .inl ef)), (wa, .inl (cI, 6, .inl wf))]) [0, 1, 2] (by decide) rfl
        exact W.zret (v := 0) hx hb hr (by decide) (fun t ht hW => ⟨_, _, rfl, ⟨by first | rfl | (simp only [e_0, e_1]; try rfl), by first | rfl | (simp only [e_0, e_1]; try rfl)⟩, by rw [ht]; exact hP9, hD9, hS.F ht⟩) hS.2.2 dR_in_59
      · exact absurd c_3 (by decide)
    · have c_2 := xb_bi_t.mp c_2
      refine lv_iload_n hx hb dR_in_20 rfl (lv_at hl 3 rfl) ?_
      refine xb_rd (W.runS (As := [.int y]) (rest := [.ref h0]) ⟨hx, hb, hml, hown, hts⟩ (cR_isPlace l E y) (cwS 1 hts (xb_gi (List.forall_mem_cons.mpr ⟨xk_819, List.forall_mem_cons.mpr ⟨xk_820, List.forall_mem_cons.mpr ⟨xk_45, List.forall_mem_cons.mpr ⟨xk_821, fun _ h => absurd h List.not_mem_nil⟩⟩⟩⟩)) rfl rfl rfl (by decide +kernel) ⟨Nat.le_of_ble_eq_true rfl, Nat.le_of_ble_eq_true rfl⟩) ⟨fun _ _ _ _ q => q, fun U hU hW => ⟨rfl, xb_atS hAt hS hA0 hU hW, fun k q h => by simp at h⟩⟩ rfl rfl hl.1 rfl (lv_room (Nat.le_of_ble_eq_true rfl)) dR_in_21 ⟨Nat.zero_le _, Nat.zero_le _⟩) ?_
      refine lv_if_eq (tgt := 31) hx hb dR_in_24 (by decide) (fun c_4 => ?_) (fun c_4 => ?_)
      · have c_4 := xb_bi_f.mp c_4
        refine lv_iconst (v := 2) hx hb dR_in_31 (by decide) ?_
        refine va_put (D := (dC, dI)) (ci := 3) (v := .int 2) (ty := .int) (C := xR_R) (T := xF_R) (N := 20) hx hb hts xi_R xt_R xt_R_ok xn_R hown hK hP hD hS 0 rfl rfl 0 (by decide) (hts _ xk_646) (fun _ h9 => h9) rfl (by decide +kernel) rfl rfl (Nat.le_of_ble_eq_true rfl) dR_in_32 (fun H locs hP hD hS => ?_)
        have hP : va_P (dC, dI) classes [(h0, .inr (3, [.int 2, .ref ta, .int zs, .int po, .int fa, .ref da, .ref ra, .ref la, .long we, .long le, .int pk, .int pm, .int co, .ref pa, .int pl, .ref xa, .ref ya, .int mb, .ref ea, .ref wa])), (ea, .inl (cI, 24, .inl ef)), (wa, .inl (cI, 6, .inl wf))] H := hP
        have hD : va_D A [(h0, .inr (3, [.int 2, .ref ta, .int zs, .int po, .int fa, .ref da, .ref ra, .ref la, .long we, .long le, .int pk, .int pm, .int co, .ref pa, .int pl, .ref xa, .ref ya, .int mb, .ref ea, .ref wa])), (ea, .inl (cI, 24, .inl ef)), (wa, .inl (cI, 6, .inl wf))] := hD
        refine lv_aload_n hx hb dR_in_35 rfl (lv_at hl 0 rfl) ?_
        refine va_get (D := (dC, dI)) (ci := 3) (v := .int 2) (C := xR_R) (T := xF_R) (N := 20) hx hb hts xi_R hown hK hP 0 rfl rfl 0 (by decide) (hts _ xk_646) (fun _ h9 => h9) rfl dR_in_36 ?_
        refine lv_if_ne (tgt := 58) hx hb dR_in_39 (by decide) (fun c_5 => ?_) (fun c_5 => ?_)
        · refine lv_iconst (v := 0) hx hb dR_in_58 (by decide) ?_
          have e_0 : gR_in ef wf mb m1 x y = false := (if_neg c_1).trans ((if_pos c_2).trans ((if_neg c_4).trans (rfl)))
          have e_1 : gR_in_0 ef wf mb m1 x y = (2 : Int32) := (if_neg c_1).trans ((if_pos c_2).trans ((if_neg c_4).trans (rfl)))
          have hP9 := hP.sub (ws' := [(h0, .inr (3, [.int 2, .ref ta, .int zs, .int po, .int fa, .ref da, .ref ra, .ref la, .long we, .long le, .int pk, .int pm, .int co, .ref pa, .int pl, .ref xa, .ref ya, .int mb, .ref ea, .ref wa])), (ea, .inl (cI, 24, .inl ef)), (wa, .inl (cI, 6, .inl wf))]) [0, 1, 2] rfl
          have hD9 := hD.sub (ws' := [(h0, .inr (3, [.int 2, .ref ta, .int zs, .int po, .int fa, .ref da, .ref ra, .ref la, .long we, .long le, .int pk, .int pm, .int co, .ref pa, .int pl, .ref xa, .ref ya, .int mb, .ref ea, .ref wa])), (ea, .inl (cI, 24, .inl ef)), (wa, .inl (cI, 6, .inl wf))]) [0, 1, 2] (by decide) rfl
          exact W.zret (v := 0) hx hb hr (by decide) (fun t ht hW => ⟨_, _, rfl, ⟨by first | rfl | (simp only [e_0, e_1]; try rfl), by first | rfl | (simp only [e_0, e_1]; try rfl)⟩, by rw [ht]; exact hP9, hD9, hS.F ht⟩) hS.2.2 dR_in_59
        · exact absurd c_5 (by decide)
      · have c_4 := xb_bi_t.mp c_4
        refine lv_iconst (v := 0) hx hb dR_in_27 (by decide) ?_
        refine lv_goto (tgt := 32) hx hb dR_in_28 (by decide) ?_
        refine va_put (D := (dC, dI)) (ci := 3) (v := .int 0) (ty := .int) (C := xR_R) (T := xF_R) (N := 20) hx hb hts xi_R xt_R xt_R_ok xn_R hown hK hP hD hS 0 rfl rfl 0 (by decide) (hts _ xk_646) (fun _ h9 => h9) rfl (by decide +kernel) rfl rfl (Nat.le_of_ble_eq_true rfl) dR_in_32 (fun H locs hP hD hS => ?_)
        have hP : va_P (dC, dI) classes [(h0, .inr (3, [.int 0, .ref ta, .int zs, .int po, .int fa, .ref da, .ref ra, .ref la, .long we, .long le, .int pk, .int pm, .int co, .ref pa, .int pl, .ref xa, .ref ya, .int mb, .ref ea, .ref wa])), (ea, .inl (cI, 24, .inl ef)), (wa, .inl (cI, 6, .inl wf))] H := hP
        have hD : va_D A [(h0, .inr (3, [.int 0, .ref ta, .int zs, .int po, .int fa, .ref da, .ref ra, .ref la, .long we, .long le, .int pk, .int pm, .int co, .ref pa, .int pl, .ref xa, .ref ya, .int mb, .ref ea, .ref wa])), (ea, .inl (cI, 24, .inl ef)), (wa, .inl (cI, 6, .inl wf))] := hD
        refine lv_aload_n hx hb dR_in_35 rfl (lv_at hl 0 rfl) ?_
        refine va_get (D := (dC, dI)) (ci := 3) (v := .int 0) (C := xR_R) (T := xF_R) (N := 20) hx hb hts xi_R hown hK hP 0 rfl rfl 0 (by decide) (hts _ xk_646) (fun _ h9 => h9) rfl dR_in_36 ?_
        refine lv_if_ne (tgt := 58) hx hb dR_in_39 (by decide) (fun c_6 => ?_) (fun c_6 => ?_)
        · exact absurd c_6 (by decide)
        · refine lv_aload_n hx hb dR_in_42 rfl (lv_at hl 0 rfl) ?_
          refine lv_iload_n hx hb dR_in_43 rfl (lv_at hl 1 rfl) ?_
          refine lv_iload_n hx hb dR_in_44 rfl (lv_at hl 2 rfl) ?_
          refine lv_i2l hx hb dR_in_45 rfl ?_
          refine lv_iload_n hx hb dR_in_46 rfl (lv_at hl 3 rfl) ?_
          refine lv_i2l hx hb dR_in_47 rfl ?_
          refine xb_rd (W.runV (C := "NailRulesModel") (As := [.int m1, .long x.toInt64, .long y.toInt64]) (rest := []) ⟨hx, hb, hml, hown, hts⟩ (cR_isWithin l E h0 ([.int 0, .ref ta, .int zs, .int po, .int fa, .ref da, .ref ra, .ref la, .long we, .long le, .int pk, .int pm, .int co, .ref pa, .int pl, .ref xa, .ref ya, .int mb, .ref ea, .ref wa]) ea ef wa wf m1 x.toInt64 y.toInt64 rfl rfl ((xp_mems (by assumption) m6).1) ((xp_mems (by assumption) m6).2.1) ((xp_mems (by assumption) m6).2.2.1) ((xp_mems (by assumption) m6).2.2.2.1) ((xp_mems (by assumption) m6).2.2.2.2)) (cwV 3 hts (xb_gi (List.forall_mem_cons.mpr ⟨xk_832, List.forall_mem_cons.mpr ⟨xk_834, List.forall_mem_cons.mpr ⟨xk_38, List.forall_mem_cons.mpr ⟨xk_45, List.forall_mem_cons.mpr ⟨xk_835, fun _ h => absurd h List.not_mem_nil⟩⟩⟩⟩⟩)) rfl rfl rfl (by decide +kernel) ⟨Nat.le_of_ble_eq_true rfl, Nat.le_of_ble_eq_true rfl⟩) ⟨fun _ _ _ _ q => q, va_recv hK hP (ci := 3) (q0 := 0) rfl rfl, fun U hU hW => ⟨rfl, xb_atS hAt hS hA0 hU hW, by rw [hU]; exact hP.sub (ws' := [(h0, .inr (3, [.int 0, .ref ta, .int zs, .int po, .int fa, .ref da, .ref ra, .ref la, .long we, .long le, .int pk, .int pm, .int co, .ref pa, .int pl, .ref xa, .ref ya, .int mb, .ref ea, .ref wa])), (ea, .inl (cI, 24, .inl ef)), (wa, .inl (cI, 6, .inl wf))]) [0, 1, 2] rfl⟩⟩ rfl rfl hl.1 rfl (lv_room (Nat.le_of_ble_eq_true rfl)) dR_in_48 ⟨Nat.zero_le _, Nat.zero_le _⟩) ?_
          refine lv_if_eq (tgt := 58) hx hb dR_in_51 (by decide) (fun c_7 => ?_) (fun c_7 => ?_)
          · have c_7 := xb_bi_f.mp c_7
            refine lv_iconst (v := 0) hx hb dR_in_58 (by decide) ?_
            have e_0 : gR_in ef wf mb m1 x y = false := (if_neg c_1).trans ((if_pos c_2).trans ((if_pos c_4).trans ((if_neg c_7).trans (rfl))))
            have e_1 : gR_in_0 ef wf mb m1 x y = (0 : Int32) := (if_neg c_1).trans ((if_pos c_2).trans ((if_pos c_4).trans ((if_neg c_7).trans (rfl))))
            have hP9 := hP.sub (ws' := [(h0, .inr (3, [.int 0, .ref ta, .int zs, .int po, .int fa, .ref da, .ref ra, .ref la, .long we, .long le, .int pk, .int pm, .int co, .ref pa, .int pl, .ref xa, .ref ya, .int mb, .ref ea, .ref wa])), (ea, .inl (cI, 24, .inl ef)), (wa, .inl (cI, 6, .inl wf))]) [0, 1, 2] rfl
            have hD9 := hD.sub (ws' := [(h0, .inr (3, [.int 0, .ref ta, .int zs, .int po, .int fa, .ref da, .ref ra, .ref la, .long we, .long le, .int pk, .int pm, .int co, .ref pa, .int pl, .ref xa, .ref ya, .int mb, .ref ea, .ref wa])), (ea, .inl (cI, 24, .inl ef)), (wa, .inl (cI, 6, .inl wf))]) [0, 1, 2] (by decide) rfl
            exact W.zret (v := 0) hx hb hr (by decide) (fun t ht hW => ⟨_, _, rfl, ⟨by first | rfl | (simp only [e_0, e_1]; try rfl), by first | rfl | (simp only [e_0, e_1]; try rfl)⟩, by rw [ht]; exact hP9, hD9, hS.F ht⟩) hS.2.2 dR_in_59
          · have c_7 := xb_bi_t.mp c_7
            refine lv_iconst (v := 1) hx hb dR_in_54 (by decide) ?_
            refine lv_goto (tgt := 59) hx hb dR_in_55 (by decide) ?_
            have e_0 : gR_in ef wf mb m1 x y = true := (if_neg c_1).trans ((if_pos c_2).trans ((if_pos c_4).trans ((if_pos c_7).trans (rfl))))
            have e_1 : gR_in_0 ef wf mb m1 x y = (0 : Int32) := (if_neg c_1).trans ((if_pos c_2).trans ((if_pos c_4).trans ((if_pos c_7).trans (rfl))))
            have hP9 := hP.sub (ws' := [(h0, .inr (3, [.int 0, .ref ta, .int zs, .int po, .int fa, .ref da, .ref ra, .ref la, .long we, .long le, .int pk, .int pm, .int co, .ref pa, .int pl, .ref xa, .ref ya, .int mb, .ref ea, .ref wa])), (ea, .inl (cI, 24, .inl ef)), (wa, .inl (cI, 6, .inl wf))]) [0, 1, 2] rfl
            have hD9 := hD.sub (ws' := [(h0, .inr (3, [.int 0, .ref ta, .int zs, .int po, .int fa, .ref da, .ref ra, .ref la, .long we, .long le, .int pk, .int pm, .int co, .ref pa, .int pl, .ref xa, .ref ya, .int mb, .ref ea, .ref wa])), (ea, .inl (cI, 24, .inl ef)), (wa, .inl (cI, 6, .inl wf))]) [0, 1, 2] (by decide) rfl
            exact W.zret (v := 1) hx hb hr (by decide) (fun t ht hW => ⟨_, _, rfl, ⟨by first | rfl | (simp only [e_0, e_1]; try rfl), by first | rfl | (simp only [e_0, e_1]; try rfl)⟩, by rw [ht]; exact hP9, hD9, hS.F ht⟩) hS.2.2 dR_in_59
  · have c_1 := xb_bi_t.mp c_1
    refine lv_iconst (v := 1) hx hb dR_in_9 (by decide) ?_
    refine lv_goto (tgt := 32) hx hb dR_in_10 (by decide) ?_
    refine va_put (D := (dC, dI)) (ci := 3) (v := .int 1) (ty := .int) (C := xR_R) (T := xF_R) (N := 20) hx hb hts xi_R xt_R xt_R_ok xn_R hown hK hP hD hS 0 rfl rfl 0 (by decide) (hts _ xk_646) (fun _ h9 => h9) rfl (by decide +kernel) rfl rfl (Nat.le_of_ble_eq_true rfl) dR_in_32 (fun H locs hP hD hS => ?_)
    have hP : va_P (dC, dI) classes [(h0, .inr (3, [.int 1, .ref ta, .int zs, .int po, .int fa, .ref da, .ref ra, .ref la, .long we, .long le, .int pk, .int pm, .int co, .ref pa, .int pl, .ref xa, .ref ya, .int mb, .ref ea, .ref wa])), (ea, .inl (cI, 24, .inl ef)), (wa, .inl (cI, 6, .inl wf))] H := hP
    have hD : va_D A [(h0, .inr (3, [.int 1, .ref ta, .int zs, .int po, .int fa, .ref da, .ref ra, .ref la, .long we, .long le, .int pk, .int pm, .int co, .ref pa, .int pl, .ref xa, .ref ya, .int mb, .ref ea, .ref wa])), (ea, .inl (cI, 24, .inl ef)), (wa, .inl (cI, 6, .inl wf))] := hD
    refine lv_aload_n hx hb dR_in_35 rfl (lv_at hl 0 rfl) ?_
    refine va_get (D := (dC, dI)) (ci := 3) (v := .int 1) (C := xR_R) (T := xF_R) (N := 20) hx hb hts xi_R hown hK hP 0 rfl rfl 0 (by decide) (hts _ xk_646) (fun _ h9 => h9) rfl dR_in_36 ?_
    refine lv_if_ne (tgt := 58) hx hb dR_in_39 (by decide) (fun c_8 => ?_) (fun c_8 => ?_)
    · refine lv_iconst (v := 0) hx hb dR_in_58 (by decide) ?_
      have e_0 : gR_in ef wf mb m1 x y = false := (if_pos c_1).trans (rfl)
      have e_1 : gR_in_0 ef wf mb m1 x y = (1 : Int32) := (if_pos c_1).trans (rfl)
      have hP9 := hP.sub (ws' := [(h0, .inr (3, [.int 1, .ref ta, .int zs, .int po, .int fa, .ref da, .ref ra, .ref la, .long we, .long le, .int pk, .int pm, .int co, .ref pa, .int pl, .ref xa, .ref ya, .int mb, .ref ea, .ref wa])), (ea, .inl (cI, 24, .inl ef)), (wa, .inl (cI, 6, .inl wf))]) [0, 1, 2] rfl
      have hD9 := hD.sub (ws' := [(h0, .inr (3, [.int 1, .ref ta, .int zs, .int po, .int fa, .ref da, .ref ra, .ref la, .long we, .long le, .int pk, .int pm, .int co, .ref pa, .int pl, .ref xa, .ref ya, .int mb, .ref ea, .ref wa])), (ea, .inl (cI, 24, .inl ef)), (wa, .inl (cI, 6, .inl wf))]) [0, 1, 2] (by decide) rfl
      exact W.zret (v := 0) hx hb hr (by decide) (fun t ht hW => ⟨_, _, rfl, ⟨by first | rfl | (simp only [e_0, e_1]; try rfl), by first | rfl | (simp only [e_0, e_1]; try rfl)⟩, by rw [ht]; exact hP9, hD9, hS.F ht⟩) hS.2.2 dR_in_59
    · exact absurd c_8 (by decide)
end
section
/-- a counter at a loop's head: from lo to hi, n turns left -/
def xl_c (lo hi n : Nat) (w : Int32) : Prop := ∃ i : Nat, w = nI i ∧ lo ≤ i ∧ i + n = hi + 1 ∧ i ≤ hi
theorem xl_0 {lo hi : Nat} {w : Int32} {G : Prop} (h : xl_c lo hi 0 w) : G := by
  obtain ⟨i, -, h1, h2, h3⟩ := h
  omega
theorem xl_s1 {lo hi n : Nat} {w b : Int32} (h : xl_c lo hi (n + 1) w) (hh : hi < 2 ^ 30) (hb : b.toInt ≤ hi) (c : ¬ b ≤ w) : xl_c lo hi n (w + 1) := by
  obtain ⟨i, rfl, h1, h2, h3⟩ := h
  rw [Int32.le_iff_toInt_le, nI_toInt (by omega)] at c
  exact ⟨i + 1, nI_1 i, by omega, by omega, by omega⟩
theorem xl_s2 {lo hi n : Nat} {w b : Int32} (h : xl_c lo hi (n + 1) w) (hh : hi < 2 ^ 30) (hb : b.toInt < hi) (c : ¬ b < w) : xl_c lo hi n (w + 1) := by
  obtain ⟨i, rfl, h1, h2, h3⟩ := h
  rw [Int32.lt_iff_toInt_lt, nI_toInt (by omega)] at c
  exact ⟨i + 1, nI_1 i, by omega, by omega, by omega⟩
theorem xl_s3 {lo hi n : Nat} {w q b : Int32} (h : xl_c lo hi (n + 1) w) (hh : hi < 2 ^ 30) (hq : q ≤ b) (hb : b.toInt ≤ hi) (c : ¬ q ≤ w) : xl_c lo hi n (w + 1) := by
  rw [Int32.le_iff_toInt_le] at hq
  refine xl_s1 h hh (b := q) (by omega) c
theorem xl_in {lo hi n N : Nat} {w q b : Int32} (h : xl_c lo hi n w) (hh : hi < 2 ^ 30) (hq : q ≤ b) (hb : b.toInt ≤ N) (c : ¬ q ≤ w) : vp_in w N := by
  obtain ⟨i, rfl, h1, h2, h3⟩ := h
  rw [Int32.le_iff_toInt_le, nI_toInt (by omega)] at c
  rw [Int32.le_iff_toInt_le] at hq
  rw [vp_in_iff, nI_toInt (by omega)]
  omega
def kN_leastFormula_6 (rf : Nat → Int32) (kind : Int32) (a : Int32) (b : Int32) : Nat → Int32 → Int32 → Int32
  | 0, _, _ => default
  | n_6 + 1, be, wh => if 4 ≤ wh then (be) else (if (fN_formula rf be kind a b) ≤ (fN_formula rf wh kind a b) then (kN_leastFormula_6 rf kind a b n_6 be (wh + 1)) else (kN_leastFormula_6 rf kind a b n_6 wh (wh + 1)))
def fN_leastFormula (rf : Nat → Int32) (kind : Int32) (a : Int32) (b : Int32) : Int32 := kN_leastFormula_6 rf kind a b 4 (0) (1)
set_option maxHeartbeats 4000000 in
set_option maxRecDepth 100000 in
theorem cN_leastFormula (l : Launch) {s0 : State} {dC : Nat → ClassId} {dI : Nat → Nat → Nat} {cI cC cL : ClassId} (E : xb_Env l s0 dC dI (xtys cI cC cL)) (h0 : Nat) (fs : List Value) (ra : Nat) (rf : Nat → Int32) (kind : Int32) (a : Int32) (b : Int32) (hf1 : fs[1]? = some (.ref ra)) (hz : vp_in (kind * 7 + 0) 28) (ho : vp_in (kind * 7 + 1) 28) : Met l yN_leastFormula [.code yN_leastFormula bN_leastFormula 6 (some (.int))] ({ frames := 2, cells := 0, slots := 0, locals := 50 }) (va_Pc [.ref h0, .int kind, .int a, .int b] (fun U => xb_At s0 U ∧ va_P (dC, dI) classes [(h0, .inr (0, fs)), (ra, .inl (cI, 28, .inl rf))] U.heap)) (xb_R (some (.int (fN_leastFormula rf kind a b)))) 0 0 (fun _ => False) := by
  refine Met.ofW (cc := bN_leastFormula) (maxL := 6) (ret := (some (.int))) (by decide) rfl ?_
  intro p e s m args below meth c s₁ B hml hv
  obtain ⟨rfl, hAt, hP⟩ := hv
  have hx := B.exec
  have hb := B.bytes
  have hr := B.returns
  have hts := xb_hts E hAt ([.ref h0, .int kind, .int a, .int b] : List Value).toArray
  have hown : s.vm.findClass "NailRules" = some m.cls := findClass_of_methodNamed B.named
  have hlocks := B.notSynchronized
  have hK := xb_K E hAt
  have hl := lv_entry ([.ref h0, .int kind, .int a, .int b]) (n := 6) (Nat.le_of_ble_eq_true rfl)
  rw [lg_entry_eq]
  generalize (lg_sl ([.ref h0, .int kind, .int a, .int b]) ++ List.replicate (6 - (lg_sl ([.ref h0, .int kind, .int a, .int b])).length) Slot.unset).toArray = ls at hl ⊢
  have hl : lv_has ls 6 [(0, .ref h0), (1, .int kind), (2, .int a), (3, .int b)] := hl
  refine lv_iconst (v := 0) hx hb dN_leastFormula_0 (by decide) ?_
  refine lv_istore (lv' := [(4, .int 0), (0, .ref h0), (1, .int kind), (2, .int a), (3, .int b)]) hx hb dN_leastFormula_1 hl (by decide) rfl (fun ls hl => ?_)
  refine lv_iconst (v := 1) hx hb dN_leastFormula_3 (by decide) ?_
  refine lv_istore (lv' := [(5, .int 1), (4, .int 0), (0, .ref h0), (1, .int kind), (2, .int a), (3, .int b)]) hx hb dN_leastFormula_4 hl (by decide) rfl (fun ls hl => ?_)
  have lp_6 : ∀ (n_6 : Nat) (be : Int32) (wh : Int32), (xl_c 1 4 n_6 wh) → fN_leastFormula rf kind a b = kN_leastFormula_6 rf kind a b n_6 be wh → ∀ ls : Array Slot, lv_has ls 6 [(4, .int be), (5, .int wh), (0, .ref h0), (1, .int kind), (2, .int a), (3, .int b)] → W p l e (headSpec [.code yN_leastFormula bN_leastFormula 6 (some (.int))] ({ frames := 2, cells := 0, slots := 0, locals := 50 })).room s m ([.ref h0, .int kind, .int a, .int b] : List Value).toArray below meth c s.heap [] 0 0 (MQ below (xb_R (some (.int (fN_leastFormula rf kind a b)))) ([.ref h0, .int kind, .int a, .int b] : List Value).toArray s 0 0 (fun _ => False)) (F0 m 6 ls []) := by
    intro n_6
    induction n_6 with
    | zero =>
      intro be wh hinv_6
      exact xl_0 hinv_6
    | succ n_6 ih_6 =>
      intro be wh hinv_6 hres_6 ls hl
      refine lv_iload hx hb dN_leastFormula_6 (lv_at hl 1 rfl) ?_
      refine lv_iconst (v := 4) hx hb dN_leastFormula_8 (by decide) ?_
      refine lv_icmp_ge (tgt := 44) hx hb dN_leastFormula_9 (by decide) (fun c_1 => ?_) (fun c_1 => ?_)
      · refine lv_iload hx hb dN_leastFormula_44 (lv_at hl 0 rfl) ?_
        have e_f : fN_leastFormula rf kind a b = be := hres_6.trans ((if_pos c_1).trans (rfl))
        exact W.iret (v := be) hx hb hr (fun t ht hW => ⟨by rw [e_f], ht⟩) (fun _ h => by cases h) dN_leastFormula_46
      · refine lv_aload_n hx hb dN_leastFormula_12 rfl (lv_at hl 2 rfl) ?_
        refine lv_iload hx hb dN_leastFormula_13 (lv_at hl 1 rfl) ?_
        refine lv_iload_n hx hb dN_leastFormula_15 rfl (lv_at hl 3 rfl) ?_
        refine lv_iload_n hx hb dN_leastFormula_16 rfl (lv_at hl 4 rfl) ?_
        refine lv_iload_n hx hb dN_leastFormula_17 rfl (lv_at hl 5 rfl) ?_
        refine xb_rd (W.runV (C := "NailRules") (As := [.int wh, .int kind, .int a, .int b]) (rest := []) ⟨hx, hb, hml, hown, hts⟩ (cN_formula l E h0 fs ra rf wh kind a b hf1 (by assumption) (by assumption)) (cwV 4 hts (xb_gi (List.forall_mem_cons.mpr ⟨xk_403, List.forall_mem_cons.mpr ⟨xk_405, List.forall_mem_cons.mpr ⟨xk_16, List.forall_mem_cons.mpr ⟨xk_40, List.forall_mem_cons.mpr ⟨xk_406, fun _ h => absurd h List.not_mem_nil⟩⟩⟩⟩⟩)) rfl rfl rfl (by decide +kernel) ⟨Nat.le_of_ble_eq_true rfl, Nat.le_of_ble_eq_true rfl⟩) ⟨fun _ _ _ _ q => q, va_recv hK hP (ci := 0) (q0 := 0) rfl rfl, fun U hU hW => ⟨rfl, xb_at0 hAt hU hW, by rw [hU]; exact hP.sub (ws' := [(h0, .inr (0, fs)), (ra, .inl (cI, 28, .inl rf))]) [0, 1] rfl⟩⟩ rfl rfl hl.1 rfl (lv_room (Nat.le_of_ble_eq_true rfl)) dN_leastFormula_18 ⟨Nat.zero_le _, Nat.zero_le _⟩) ?_
        refine lv_aload_n hx hb dN_leastFormula_21 rfl (lv_at hl 2 rfl) ?_
        refine lv_iload hx hb dN_leastFormula_22 (lv_at hl 0 rfl) ?_
        refine lv_iload_n hx hb dN_leastFormula_24 rfl (lv_at hl 3 rfl) ?_
        refine lv_iload_n hx hb dN_leastFormula_25 rfl (lv_at hl 4 rfl) ?_
        refine lv_iload_n hx hb dN_leastFormula_26 rfl (lv_at hl 5 rfl) ?_
        refine xb_rd (W.runV (C := "NailRules") (As := [.int be, .int kind, .int a, .int b]) (rest := [.long (fN_formula rf wh kind a b)]) ⟨hx, hb, hml, hown, hts⟩ (cN_formula l E h0 fs ra rf be kind a b hf1 (by assumption) (by assumption)) (cwV 4 hts (xb_gi (List.forall_mem_cons.mpr ⟨xk_403, List.forall_mem_cons.mpr ⟨xk_405, List.forall_mem_cons.mpr ⟨xk_16, List.forall_mem_cons.mpr ⟨xk_40, List.forall_mem_cons.mpr ⟨xk_406, fun _ h => absurd h List.not_mem_nil⟩⟩⟩⟩⟩)) rfl rfl rfl (by decide +kernel) ⟨Nat.le_of_ble_eq_true rfl, Nat.le_of_ble_eq_true rfl⟩) ⟨fun _ _ _ _ q => q, va_recv hK hP (ci := 0) (q0 := 0) rfl rfl, fun U hU hW => ⟨rfl, xb_at0 hAt hU hW, by rw [hU]; exact hP.sub (ws' := [(h0, .inr (0, fs)), (ra, .inl (cI, 28, .inl rf))]) [0, 1] rfl⟩⟩ rfl rfl hl.1 rfl (lv_room (Nat.le_of_ble_eq_true rfl)) dN_leastFormula_27 ⟨Nat.zero_le _, Nat.zero_le _⟩) ?_
        refine W.lcmp hx hb dN_leastFormula_30 ?_
        refine lv_if_ge (tgt := 38) hx hb dN_leastFormula_31 (by decide) (fun c_2 => ?_) (fun c_2 => ?_)
        · have c_2 := (lg_cmp_ge _ _).mp c_2
          refine lv_iinc (v := wh + 1) (lv' := [(5, .int (wh + 1)), (4, .int be), (0, .ref h0), (1, .int kind), (2, .int a), (3, .int b)]) hx hb dN_leastFormula_38 hl (k := 1) rfl rfl (by decide) rfl (fun ls hl => ?_)
          refine lv_goto (tgt := 6) hx hb dN_leastFormula_41 (by decide) ?_
          exact ih_6 be (wh + 1) (xl_s1 (b := 4) hinv_6 (by decide) (by decide) (by assumption)) (hres_6.trans ((if_neg c_1).trans ((if_pos c_2).trans (rfl)))) ls (lv_sub hl [1, 0, 2, 3, 4, 5] rfl)
        · have c_2 := fun q => c_2 ((lg_cmp_ge _ _).mpr q)
          refine lv_iload hx hb dN_leastFormula_34 (lv_at hl 1 rfl) ?_
          refine lv_istore (lv' := [(4, .int wh), (5, .int wh), (0, .ref h0), (1, .int kind), (2, .int a), (3, .int b)]) hx hb dN_leastFormula_36 hl (by decide) rfl (fun ls hl => ?_)
          refine lv_iinc (v := wh + 1) (lv' := [(5, .int (wh + 1)), (4, .int wh), (0, .ref h0), (1, .int kind), (2, .int a), (3, .int b)]) hx hb dN_leastFormula_38 hl (k := 1) rfl rfl (by decide) rfl (fun ls hl => ?_)
          refine lv_goto (tgt := 6) hx hb dN_leastFormula_41 (by decide) ?_
          exact ih_6 wh (wh + 1) (xl_s1 (b := 4) hinv_6 (by decide) (by decide) (by assumption)) (hres_6.trans ((if_neg c_1).trans ((if_neg c_2).trans (rfl)))) ls (lv_sub hl [1, 0, 2, 3, 4, 5] rfl)
  exact lp_6 4 (0) (1) (⟨1, rfl, by omega, by omega, by omega⟩) (rfl) ls (lv_sub hl [1, 0, 2, 3, 4, 5] rfl)

def kN_count_19 (less : Int32) (load : Int64) (one : Int64) : Nat → Int32 → Int32
  | 0, _ => default
  | n_19 + 1, wn => if 100 < wn then ((-1)) else (if (fN_heldByRow less wn one) < load then (kN_count_19 less load one n_19 (wn + 1)) else (wn))
def fN_count (less : Int32) (load : Int64) (one : Int64) : Int32 := kN_count_19 less load one 101 (1)
set_option maxHeartbeats 4000000 in
set_option maxRecDepth 100000 in
theorem cN_count (l : Launch) {s0 : State} {dC : Nat → ClassId} {dI : Nat → Nat → Nat} {cI cC cL : ClassId} (E : xb_Env l s0 dC dI (xtys cI cC cL)) (h0 : Nat) (fs : List Value) (less : Int32) (load : Int64) (one : Int64) (hf3 : fs[3]? = some (.int less)) (l1 : ¬ load < 0) (l2 : load ≤ 1000000000000) (o1 : ¬ one < 0) (o2 : one ≤ 1000000000000) : Met l yN_count [.code yN_count bN_count 6 (some (.int))] ({ frames := 2, cells := 0, slots := 0, locals := 37 }) (va_Pc [.ref h0, .long load, .long one] (fun U => xb_At s0 U ∧ va_P (dC, dI) classes [(h0, .inr (0, fs))] U.heap)) (xb_R (some (.int (fN_count less load one)))) 0 0 (fun _ => False) := by
  refine Met.ofW (cc := bN_count) (maxL := 6) (ret := (some (.int))) (by decide) rfl ?_
  intro p e s m args below meth c s₁ B hml hv
  obtain ⟨rfl, hAt, hP⟩ := hv
  have hx := B.exec
  have hb := B.bytes
  have hr := B.returns
  have hts := xb_hts E hAt ([.ref h0, .long load, .long one] : List Value).toArray
  have hown : s.vm.findClass "NailRules" = some m.cls := findClass_of_methodNamed B.named
  have hlocks := B.notSynchronized
  have hK := xb_K E hAt
  have hl := lv_entry ([.ref h0, .long load, .long one]) (n := 6) (Nat.le_of_ble_eq_true rfl)
  rw [lg_entry_eq]
  generalize (lg_sl ([.ref h0, .long load, .long one]) ++ List.replicate (6 - (lg_sl ([.ref h0, .long load, .long one])).length) Slot.unset).toArray = ls at hl ⊢
  have hl : lv_has ls 6 [(0, .ref h0), (1, .long load), (3, .long one)] := hl
  refine lv_lload_n hx hb dN_count_0 rfl (lv_at hl 1 rfl) ?_
  refine lv_lconst (v := 0) hx hb dN_count_1 (by decide) ?_
  refine lv_ldc2 (v := 1000000000000) hx hb hown (hts _ xk_417) dN_count_2 ?_
  refine xb_rd (W.runS (As := [.long load, .long 0, .long 1000000000000]) (rest := []) ⟨hx, hb, hml, hown, hts⟩ (cN_requireWithin l E load 0 1000000000000 (by assumption) (by assumption)) (cwS 3 hts (xb_gi (List.forall_mem_cons.mpr ⟨xk_371, List.forall_mem_cons.mpr ⟨xk_372, List.forall_mem_cons.mpr ⟨xk_40, List.forall_mem_cons.mpr ⟨xk_373, fun _ h => absurd h List.not_mem_nil⟩⟩⟩⟩)) rfl rfl rfl (by decide +kernel) ⟨Nat.le_of_ble_eq_true rfl, Nat.le_of_ble_eq_true rfl⟩) ⟨fun _ _ _ _ q => q, fun U hU hW => ⟨rfl, xb_at0 hAt hU hW, fun k q h => by simp at h⟩⟩ rfl rfl hl.1 rfl (lv_room (Nat.le_of_ble_eq_true rfl)) dN_count_5 ⟨Nat.zero_le _, Nat.zero_le _⟩) ?_
  refine lv_lload_n hx hb dN_count_8 rfl (lv_at hl 2 rfl) ?_
  refine lv_lconst (v := 0) hx hb dN_count_9 (by decide) ?_
  refine lv_ldc2 (v := 1000000000000) hx hb hown (hts _ xk_417) dN_count_10 ?_
  refine xb_rd (W.runS (As := [.long one, .long 0, .long 1000000000000]) (rest := []) ⟨hx, hb, hml, hown, hts⟩ (cN_requireWithin l E one 0 1000000000000 (by assumption) (by assumption)) (cwS 3 hts (xb_gi (List.forall_mem_cons.mpr ⟨xk_371, List.forall_mem_cons.mpr ⟨xk_372, List.forall_mem_cons.mpr ⟨xk_40, List.forall_mem_cons.mpr ⟨xk_373, fun _ h => absurd h List.not_mem_nil⟩⟩⟩⟩)) rfl rfl rfl (by decide +kernel) ⟨Nat.le_of_ble_eq_true rfl, Nat.le_of_ble_eq_true rfl⟩) ⟨fun _ _ _ _ q => q, fun U hU hW => ⟨rfl, xb_at0 hAt hU hW, fun k q h => by simp at h⟩⟩ rfl rfl hl.1 rfl (lv_room (Nat.le_of_ble_eq_true rfl)) dN_count_13 ⟨Nat.zero_le _, Nat.zero_le _⟩) ?_
  refine lv_iconst (v := 1) hx hb dN_count_16 (by decide) ?_
  refine lv_istore (lv' := [(5, .int 1), (0, .ref h0), (1, .long load), (3, .long one)]) hx hb dN_count_17 hl (by decide) rfl (fun ls hl => ?_)
  have lp_19 : ∀ (n_19 : Nat) (wn : Int32), (xl_c 1 101 n_19 wn) → fN_count less load one = kN_count_19 less load one n_19 wn → ∀ ls : Array Slot, lv_has ls 6 [(5, .int wn), (0, .ref h0), (1, .long load), (3, .long one)] → W p l e (headSpec [.code yN_count bN_count 6 (some (.int))] ({ frames := 2, cells := 0, slots := 0, locals := 37 })).room s m ([.ref h0, .long load, .long one] : List Value).toArray below meth c s.heap [] 0 0 (MQ below (xb_R (some (.int (fN_count less load one)))) ([.ref h0, .long load, .long one] : List Value).toArray s 0 0 (fun _ => False)) (F0 m 19 ls []) := by
    intro n_19
    induction n_19 with
    | zero =>
      intro wn hinv_19
      exact xl_0 hinv_19
    | succ n_19 ih_19 =>
      intro wn hinv_19 hres_19 ls hl
      refine lv_iload hx hb dN_count_19 (lv_at hl 0 rfl) ?_
      refine lv_bipush (v := 100) hx hb dN_count_21 (by decide) ?_
      refine lv_icmp_gt (tgt := 47) hx hb dN_count_23 (by decide) (fun c_1 => ?_) (fun c_1 => ?_)
      · refine lv_iconst (v := (-1)) hx hb dN_count_47 (by decide) ?_
        have e_f : fN_count less load one = (-1) := hres_19.trans ((if_pos c_1).trans (rfl))
        exact W.iret (v := (-1)) hx hb hr (fun t ht hW => ⟨by rw [e_f], ht⟩) (fun _ h => by cases h) dN_count_48
      · refine lv_aload_n hx hb dN_count_26 rfl (lv_at hl 1 rfl) ?_
        refine lv_iload hx hb dN_count_27 (lv_at hl 0 rfl) ?_
        refine lv_lload_n hx hb dN_count_29 rfl (lv_at hl 3 rfl) ?_
        refine xb_rd (W.runV (C := "NailRules") (As := [.int wn, .long one]) (rest := []) ⟨hx, hb, hml, hown, hts⟩ (cN_heldByRow l E h0 fs less wn one hf3) (cwV 2 hts (xb_gi (List.forall_mem_cons.mpr ⟨xk_418, List.forall_mem_cons.mpr ⟨xk_420, List.forall_mem_cons.mpr ⟨xk_17, List.forall_mem_cons.mpr ⟨xk_40, List.forall_mem_cons.mpr ⟨xk_421, fun _ h => absurd h List.not_mem_nil⟩⟩⟩⟩⟩)) rfl rfl rfl (by decide +kernel) ⟨Nat.le_of_ble_eq_true rfl, Nat.le_of_ble_eq_true rfl⟩) ⟨fun _ _ _ _ q => q, va_recv hK hP (ci := 0) (q0 := 0) rfl rfl, fun U hU hW => ⟨rfl, xb_at0 hAt hU hW, by rw [hU]; exact hP.sub (ws' := [(h0, .inr (0, fs))]) [0] rfl⟩⟩ rfl rfl hl.1 rfl (lv_room (Nat.le_of_ble_eq_true rfl)) dN_count_30 ⟨Nat.zero_le _, Nat.zero_le _⟩) ?_
        refine lv_lload_n hx hb dN_count_33 rfl (lv_at hl 2 rfl) ?_
        refine W.lcmp hx hb dN_count_34 ?_
        refine lv_if_lt (tgt := 41) hx hb dN_count_35 (by decide) (fun c_2 => ?_) (fun c_2 => ?_)
        · have c_2 := (lg_cmp_lt _ _).mp c_2
          refine lv_iinc (v := wn + 1) (lv' := [(5, .int (wn + 1)), (0, .ref h0), (1, .long load), (3, .long one)]) hx hb dN_count_41 hl (k := 0) rfl rfl (by decide) rfl (fun ls hl => ?_)
          refine lv_goto (tgt := 19) hx hb dN_count_44 (by decide) ?_
          exact ih_19 (wn + 1) (xl_s2 (b := 100) hinv_19 (by decide) (by decide) (by assumption)) (hres_19.trans ((if_neg c_1).trans ((if_pos c_2).trans (rfl)))) ls (lv_sub hl [0, 1, 2, 3] rfl)
        · have c_2 := fun q => c_2 ((lg_cmp_lt _ _).mpr q)
          refine lv_iload hx hb dN_count_38 (lv_at hl 0 rfl) ?_
          have e_f : fN_count less load one = wn := hres_19.trans ((if_neg c_1).trans ((if_neg c_2).trans (rfl)))
          exact W.iret (v := wn) hx hb hr (fun t ht hW => ⟨by rw [e_f], ht⟩) (fun _ h => by cases h) dN_count_40
  exact lp_19 101 (1) (⟨1, rfl, by omega, by omega, by omega⟩) (rfl) ls (lv_sub hl [0, 1, 2, 3] rfl)

def kN_firstNearSide_19 (rf : Nat → Int32) (xf : Nat → Int32) (yf : Nat → Int32) (qn : Int32) (kind : Int32) (w : Int32) (h : Int32) : Nat → Int32 → Int32
  | 0, _ => default
  | n_19 + 1, wk => if qn ≤ wk then ((-1)) else (if (if (w - (xf wk.toNatClampNeg)) < (xf wk.toNatClampNeg) then (w - (xf wk.toNatClampNeg)) else (xf wk.toNatClampNeg)) < (fN_space rf kind (3)) then (wk) else (if (fN_space rf kind (2)) ≤ (if (h - (yf wk.toNatClampNeg)) < (yf wk.toNatClampNeg) then (h - (yf wk.toNatClampNeg)) else (yf wk.toNatClampNeg)) then (kN_firstNearSide_19 rf xf yf qn kind w h n_19 (wk + 1)) else (wk)))
def fN_firstNearSide (rf : Nat → Int32) (xf : Nat → Int32) (yf : Nat → Int32) (qn : Int32) (kind : Int32) (w : Int32) (h : Int32) : Int32 := kN_firstNearSide_19 rf xf yf qn kind w h 33 (0)
set_option maxHeartbeats 4000000 in
set_option maxRecDepth 100000 in
theorem cN_firstNearSide (l : Launch) {s0 : State} {dC : Nat → ClassId} {dI : Nat → Nat → Nat} {cI cC cL : ClassId} (E : xb_Env l s0 dC dI (xtys cI cC cL)) (h0 : Nat) (fs : List Value) (ra : Nat) (rf : Nat → Int32) (qx : Nat) (xf : Nat → Int32) (qy : Nat) (yf : Nat → Int32) (qn : Int32) (kind : Int32) (w : Int32) (h : Int32) (hf1 : fs[1]? = some (.ref ra)) (hf7 : fs[7]? = some (.ref qx)) (hf8 : fs[8]? = some (.ref qy)) (hf9 : fs[9]? = some (.int qn)) (hz : vp_in (kind * 7 + 0) 28) (h2 : vp_in (kind * 7 + 2) 28) (h3 : vp_in (kind * 7 + 3) 28) (hq : qn ≤ 32) : Met l yN_firstNearSide [.code yN_firstNearSide bN_firstNearSide 9 (some (.int))] ({ frames := 2, cells := 0, slots := 0, locals := 44 }) (va_Pc [.ref h0, .int kind, .int w, .int h] (fun U => xb_At s0 U ∧ va_P (dC, dI) classes [(h0, .inr (0, fs)), (ra, .inl (cI, 28, .inl rf)), (qx, .inl (cI, 32, .inl xf)), (qy, .inl (cI, 32, .inl yf))] U.heap)) (xb_R (some (.int (fN_firstNearSide rf xf yf qn kind w h)))) 0 0 (fun _ => False) := by
  refine Met.ofW (cc := bN_firstNearSide) (maxL := 9) (ret := (some (.int))) (by decide) rfl ?_
  intro p e s m args below meth c s₁ B hml hv
  obtain ⟨rfl, hAt, hP⟩ := hv
  have hx := B.exec
  have hb := B.bytes
  have hr := B.returns
  have hts := xb_hts E hAt ([.ref h0, .int kind, .int w, .int h] : List Value).toArray
  have hown : s.vm.findClass "NailRules" = some m.cls := findClass_of_methodNamed B.named
  have hlocks := B.notSynchronized
  have hK := xb_K E hAt
  have hl := lv_entry ([.ref h0, .int kind, .int w, .int h]) (n := 9) (Nat.le_of_ble_eq_true rfl)
  rw [lg_entry_eq]
  generalize (lg_sl ([.ref h0, .int kind, .int w, .int h]) ++ List.replicate (9 - (lg_sl ([.ref h0, .int kind, .int w, .int h])).length) Slot.unset).toArray = ls at hl ⊢
  have hl : lv_has ls 9 [(0, .ref h0), (1, .int kind), (2, .int w), (3, .int h)] := hl
  refine lv_aload_n hx hb dN_firstNearSide_0 rfl (lv_at hl 0 rfl) ?_
  refine lv_iload_n hx hb dN_firstNearSide_1 rfl (lv_at hl 1 rfl) ?_
  refine lv_iconst (v := 3) hx hb dN_firstNearSide_2 (by decide) ?_
  refine xb_rd (W.runV (C := "NailRules") (As := [.int kind, .int 3]) (rest := []) ⟨hx, hb, hml, hown, hts⟩ (cN_space l E h0 fs ra rf kind 3 hf1 (by assumption) (by assumption)) (cwV 2 hts (xb_gi (List.forall_mem_cons.mpr ⟨xk_438, List.forall_mem_cons.mpr ⟨xk_440, List.forall_mem_cons.mpr ⟨xk_18, List.forall_mem_cons.mpr ⟨xk_40, List.forall_mem_cons.mpr ⟨xk_441, fun _ h => absurd h List.not_mem_nil⟩⟩⟩⟩⟩)) rfl rfl rfl (by decide +kernel) ⟨Nat.le_of_ble_eq_true rfl, Nat.le_of_ble_eq_true rfl⟩) ⟨fun _ _ _ _ q => q, va_recv hK hP (ci := 0) (q0 := 0) rfl rfl, fun U hU hW => ⟨rfl, xb_at0 hAt hU hW, by rw [hU]; exact hP.sub (ws' := [(h0, .inr (0, fs)), (ra, .inl (cI, 28, .inl rf))]) [0, 1] rfl⟩⟩ rfl rfl hl.1 rfl (lv_room (Nat.le_of_ble_eq_true rfl)) dN_firstNearSide_3 ⟨Nat.zero_le _, Nat.zero_le _⟩) ?_
  refine lv_istore (lv' := [(4, .int (fN_space rf kind (3))), (0, .ref h0), (1, .int kind), (2, .int w), (3, .int h)]) hx hb dN_firstNearSide_6 hl (by decide) rfl (fun ls hl => ?_)
  refine lv_aload_n hx hb dN_firstNearSide_8 rfl (lv_at hl 1 rfl) ?_
  refine lv_iload_n hx hb dN_firstNearSide_9 rfl (lv_at hl 2 rfl) ?_
  refine lv_iconst (v := 2) hx hb dN_firstNearSide_10 (by decide) ?_
  refine xb_rd (W.runV (C := "NailRules") (As := [.int kind, .int 2]) (rest := []) ⟨hx, hb, hml, hown, hts⟩ (cN_space l E h0 fs ra rf kind 2 hf1 (by assumption) (by assumption)) (cwV 2 hts (xb_gi (List.forall_mem_cons.mpr ⟨xk_438, List.forall_mem_cons.mpr ⟨xk_440, List.forall_mem_cons.mpr ⟨xk_18, List.forall_mem_cons.mpr ⟨xk_40, List.forall_mem_cons.mpr ⟨xk_441, fun _ h => absurd h List.not_mem_nil⟩⟩⟩⟩⟩)) rfl rfl rfl (by decide +kernel) ⟨Nat.le_of_ble_eq_true rfl, Nat.le_of_ble_eq_true rfl⟩) ⟨fun _ _ _ _ q => q, va_recv hK hP (ci := 0) (q0 := 0) rfl rfl, fun U hU hW => ⟨rfl, xb_at0 hAt hU hW, by rw [hU]; exact hP.sub (ws' := [(h0, .inr (0, fs)), (ra, .inl (cI, 28, .inl rf))]) [0, 1] rfl⟩⟩ rfl rfl hl.1 rfl (lv_room (Nat.le_of_ble_eq_true rfl)) dN_firstNearSide_11 ⟨Nat.zero_le _, Nat.zero_le _⟩) ?_
  refine lv_istore (lv' := [(5, .int (fN_space rf kind (2))), (4, .int (fN_space rf kind (3))), (0, .ref h0), (1, .int kind), (2, .int w), (3, .int h)]) hx hb dN_firstNearSide_14 hl (by decide) rfl (fun ls hl => ?_)
  refine lv_iconst (v := 0) hx hb dN_firstNearSide_16 (by decide) ?_
  refine lv_istore (lv' := [(6, .int 0), (5, .int (fN_space rf kind (2))), (4, .int (fN_space rf kind (3))), (0, .ref h0), (1, .int kind), (2, .int w), (3, .int h)]) hx hb dN_firstNearSide_17 hl (by decide) rfl (fun ls hl => ?_)
  have lp_19 : ∀ (n_19 : Nat) (wk : Int32), (xl_c 0 32 n_19 wk) → fN_firstNearSide rf xf yf qn kind w h = kN_firstNearSide_19 rf xf yf qn kind w h n_19 wk → ∀ ls : Array Slot, lv_has ls 9 [(6, .int wk), (5, .int (fN_space rf kind (2))), (4, .int (fN_space rf kind (3))), (0, .ref h0), (1, .int kind), (2, .int w), (3, .int h)] → W p l e (headSpec [.code yN_firstNearSide bN_firstNearSide 9 (some (.int))] ({ frames := 2, cells := 0, slots := 0, locals := 44 })).room s m ([.ref h0, .int kind, .int w, .int h] : List Value).toArray below meth c s.heap [] 0 0 (MQ below (xb_R (some (.int (fN_firstNearSide rf xf yf qn kind w h)))) ([.ref h0, .int kind, .int w, .int h] : List Value).toArray s 0 0 (fun _ => False)) (F0 m 19 ls []) := by
    intro n_19
    induction n_19 with
    | zero =>
      intro wk hinv_19
      exact xl_0 hinv_19
    | succ n_19 ih_19 =>
      intro wk hinv_19 hres_19 ls hl
      refine lv_iload hx hb dN_firstNearSide_19 (lv_at hl 0 rfl) ?_
      refine lv_aload_n hx hb dN_firstNearSide_21 rfl (lv_at hl 3 rfl) ?_
      refine va_get (D := (dC, dI)) (ci := 0) (v := .int qn) (C := xR_N) (T := xF_N) (N := 11) hx hb hts xi_N hown hK hP 0 rfl rfl 9 (by decide) (hts _ xk_123) (fun _ h9 => h9) hf9 dN_firstNearSide_22 ?_
      refine lv_icmp_ge (tgt := 93) hx hb dN_firstNearSide_25 (by decide) (fun c_3 => ?_) (fun c_3 => ?_)
      · refine lv_iconst (v := (-1)) hx hb dN_firstNearSide_93 (by decide) ?_
        have e_f : fN_firstNearSide rf xf yf qn kind w h = (-1) := hres_19.trans ((if_pos c_3).trans (rfl))
        exact W.iret (v := (-1)) hx hb hr (fun t ht hW => ⟨by rw [e_f], ht⟩) (fun _ h => by cases h) dN_firstNearSide_94
      · refine lv_aload_n hx hb dN_firstNearSide_28 rfl (lv_at hl 3 rfl) ?_
        refine va_get (D := (dC, dI)) (ci := 0) (v := .ref qx) (C := xR_N) (T := xF_N) (N := 11) hx hb hts xi_N hown hK hP 0 rfl rfl 7 (by decide) (hts _ xk_121) (fun _ h9 => h9) hf7 dN_firstNearSide_29 ?_
        refine lv_iload hx hb dN_firstNearSide_32 (lv_at hl 0 rfl) ?_
        have o_4 : vp_in wk 32 := by exact xl_in hinv_19 (by decide) hq (by decide) (by assumption)
        refine va_iald hx hb hK hP 2 0 rfl rfl o_4 dN_firstNearSide_34 ?_
        refine lv_iload_n hx hb dN_firstNearSide_35 rfl (lv_at hl 5 rfl) ?_
        refine lv_aload_n hx hb dN_firstNearSide_36 rfl (lv_at hl 3 rfl) ?_
        refine va_get (D := (dC, dI)) (ci := 0) (v := .ref qx) (C := xR_N) (T := xF_N) (N := 11) hx hb hts xi_N hown hK hP 0 rfl rfl 7 (by decide) (hts _ xk_121) (fun _ h9 => h9) hf7 dN_firstNearSide_37 ?_
        refine lv_iload hx hb dN_firstNearSide_40 (lv_at hl 0 rfl) ?_
        have o_5 : vp_in wk 32 := by exact xl_in hinv_19 (by decide) hq (by decide) (by assumption)
        refine va_iald hx hb hK hP 2 0 rfl rfl o_5 dN_firstNearSide_42 ?_
        refine lv_isub hx hb dN_firstNearSide_43 ?_
        refine va_mmin hx hb (hml.trans hl.1.symm) hown (hts _ xk_492) (hts _ xk_493) (hts _ xk_50) (hts _ xk_494) (by decide) (by decide) (by decide) (by decide) dN_firstNearSide_44 ?_
        refine lv_istore (lv' := [(7, .int (if (w - (xf wk.toNatClampNeg)) < (xf wk.toNatClampNeg) then (w - (xf wk.toNatClampNeg)) else (xf wk.toNatClampNeg))), (6, .int wk), (5, .int (fN_space rf kind (2))), (4, .int (fN_space rf kind (3))), (0, .ref h0), (1, .int kind), (2, .int w), (3, .int h)]) hx hb dN_firstNearSide_47 hl (by decide) rfl (fun ls hl => ?_)
        refine lv_aload_n hx hb dN_firstNearSide_49 rfl (lv_at hl 4 rfl) ?_
        refine va_get (D := (dC, dI)) (ci := 0) (v := .ref qy) (C := xR_N) (T := xF_N) (N := 11) hx hb hts xi_N hown hK hP 0 rfl rfl 8 (by decide) (hts _ xk_122) (fun _ h9 => h9) hf8 dN_firstNearSide_50 ?_
        refine lv_iload hx hb dN_firstNearSide_53 (lv_at hl 1 rfl) ?_
        have o_7 : vp_in wk 32 := by exact xl_in hinv_19 (by decide) hq (by decide) (by assumption)
        refine va_iald hx hb hK hP 3 0 rfl rfl o_7 dN_firstNearSide_55 ?_
        refine lv_iload_n hx hb dN_firstNearSide_56 rfl (lv_at hl 7 rfl) ?_
        refine lv_aload_n hx hb dN_firstNearSide_57 rfl (lv_at hl 4 rfl) ?_
        refine va_get (D := (dC, dI)) (ci := 0) (v := .ref qy) (C := xR_N) (T := xF_N) (N := 11) hx hb hts xi_N hown hK hP 0 rfl rfl 8 (by decide) (hts _ xk_122) (fun _ h9 => h9) hf8 dN_firstNearSide_58 ?_
        refine lv_iload hx hb dN_firstNearSide_61 (lv_at hl 1 rfl) ?_
        have o_8 : vp_in wk 32 := by exact xl_in hinv_19 (by decide) hq (by decide) (by assumption)
        refine va_iald hx hb hK hP 3 0 rfl rfl o_8 dN_firstNearSide_63 ?_
        refine lv_isub hx hb dN_firstNearSide_64 ?_
        refine va_mmin hx hb (hml.trans hl.1.symm) hown (hts _ xk_492) (hts _ xk_493) (hts _ xk_50) (hts _ xk_494) (by decide) (by decide) (by decide) (by decide) dN_firstNearSide_65 ?_
        refine lv_istore (lv' := [(8, .int (if (h - (yf wk.toNatClampNeg)) < (yf wk.toNatClampNeg) then (h - (yf wk.toNatClampNeg)) else (yf wk.toNatClampNeg))), (7, .int (if (w - (xf wk.toNatClampNeg)) < (xf wk.toNatClampNeg) then (w - (xf wk.toNatClampNeg)) else (xf wk.toNatClampNeg))), (6, .int wk), (5, .int (fN_space rf kind (2))), (4, .int (fN_space rf kind (3))), (0, .ref h0), (1, .int kind), (2, .int w), (3, .int h)]) hx hb dN_firstNearSide_68 hl (by decide) rfl (fun ls hl => ?_)
        refine lv_iload hx hb dN_firstNearSide_70 (lv_at hl 1 rfl) ?_
        refine lv_iload hx hb dN_firstNearSide_72 (lv_at hl 4 rfl) ?_
        refine lv_icmp_lt (tgt := 84) hx hb dN_firstNearSide_74 (by decide) (fun c_10 => ?_) (fun c_10 => ?_)
        · refine lv_iload hx hb dN_firstNearSide_84 (lv_at hl 2 rfl) ?_
          have e_f : fN_firstNearSide rf xf yf qn kind w h = wk := hres_19.trans ((if_neg c_3).trans ((if_pos c_10).trans (rfl)))
          exact W.iret (v := wk) hx hb hr (fun t ht hW => ⟨by rw [e_f], ht⟩) (fun _ h => by cases h) dN_firstNearSide_86
        · refine lv_iload hx hb dN_firstNearSide_77 (lv_at hl 0 rfl) ?_
          refine lv_iload hx hb dN_firstNearSide_79 (lv_at hl 3 rfl) ?_
          refine lv_icmp_ge (tgt := 87) hx hb dN_firstNearSide_81 (by decide) (fun c_11 => ?_) (fun c_11 => ?_)
          · refine lv_iinc (v := wk + 1) (lv' := [(6, .int (wk + 1)), (8, .int (if (h - (yf wk.toNatClampNeg)) < (yf wk.toNatClampNeg) then (h - (yf wk.toNatClampNeg)) else (yf wk.toNatClampNeg))), (7, .int (if (w - (xf wk.toNatClampNeg)) < (xf wk.toNatClampNeg) then (w - (xf wk.toNatClampNeg)) else (xf wk.toNatClampNeg))), (5, .int (fN_space rf kind (2))), (4, .int (fN_space rf kind (3))), (0, .ref h0), (1, .int kind), (2, .int w), (3, .int h)]) hx hb dN_firstNearSide_87 hl (k := 2) rfl rfl (by decide) rfl (fun ls hl => ?_)
            refine lv_goto (tgt := 19) hx hb dN_firstNearSide_90 (by decide) ?_
            exact ih_19 (wk + 1) (xl_s3 hinv_19 (by decide) hq (by decide) (by assumption)) (hres_19.trans ((if_neg c_3).trans ((if_neg c_10).trans ((if_pos c_11).trans (rfl))))) ls (lv_sub hl [0, 3, 4, 5, 6, 7, 8] rfl)
          · refine lv_iload hx hb dN_firstNearSide_84 (lv_at hl 2 rfl) ?_
            have e_f : fN_firstNearSide rf xf yf qn kind w h = wk := hres_19.trans ((if_neg c_3).trans ((if_neg c_10).trans ((if_neg c_11).trans (rfl))))
            exact W.iret (v := wk) hx hb hr (fun t ht hW => ⟨by rw [e_f], ht⟩) (fun _ h => by cases h) dN_firstNearSide_86
  exact lp_19 33 (0) (⟨0, rfl, by omega, by omega, by omega⟩) (rfl) ls (lv_sub hl [0, 1, 2, 3, 4, 5, 6] rfl)
end
section
def kR_holds_95_0 (rf : Nat → Int32) (we : Int64) (kind : Int32) (a : Int32) (b : Int32) (angle : Int32) (part : Int32) : Nat → Int32 → Int32 → Int64
  | 0, _, _ => default
  | n_95 + 1, be, wh => if 4 ≤ wh then (if part = 1 then (be.toInt64) else (((((fR_formula rf kind be a.toInt64 b.toInt64) * (200 - angle.toInt64)) / 200) * we) / 100)) else (if (fR_formula rf kind be a.toInt64 b.toInt64) ≤ (fR_formula rf kind wh a.toInt64 b.toInt64) then (kR_holds_95_0 rf we kind a b angle part n_95 be (wh + 1)) else (kR_holds_95_0 rf we kind a b angle part n_95 wh (wh + 1)))
def kR_holds_95_1 (rf : Nat → Int32) (we : Int64) (kind : Int32) (a : Int32) (b : Int32) (angle : Int32) (part : Int32) : Nat → Int32 → Int32 → Int32
  | 0, _, _ => default
  | n_95 + 1, be, wh => if 4 ≤ wh then (if part = 1 then ((0)) else ((0))) else (if (fR_formula rf kind be a.toInt64 b.toInt64) ≤ (fR_formula rf kind wh a.toInt64 b.toInt64) then (kR_holds_95_1 rf we kind a b angle part n_95 be (wh + 1)) else (kR_holds_95_1 rf we kind a b angle part n_95 wh (wh + 1)))
def gR_holds (rf : Nat → Int32) (we : Int64) (kind : Int32) (a : Int32) (b : Int32) (angle : Int32) (part : Int32) : Int64 := if (fR_isIn a.toInt64 (1) (1000)) = true then (if (fR_isIn b.toInt64 (1) (1000)) = true then (if (fR_isIn angle.toInt64 (0) (90)) = true then (if (fR_isFour kind) = true then (if part < 0 then ((0)) else (if part ≤ 1 then (kR_holds_95_0 rf we kind a b angle part 4 (0) (1)) else ((0)))) else ((0))) else (if (fR_isFour kind) = true then (if part < 0 then ((0)) else (if part ≤ 1 then ((0)) else ((0)))) else ((0)))) else (if (fR_isFour kind) = true then (if part < 0 then ((0)) else (if part ≤ 1 then ((0)) else ((0)))) else ((0)))) else (if (fR_isFour kind) = true then (if part < 0 then ((0)) else (if part ≤ 1 then ((0)) else ((0)))) else ((0)))
def gR_holds_0 (rf : Nat → Int32) (we : Int64) (kind : Int32) (a : Int32) (b : Int32) (angle : Int32) (part : Int32) : Int32 := if (fR_isIn a.toInt64 (1) (1000)) = true then (if (fR_isIn b.toInt64 (1) (1000)) = true then (if (fR_isIn angle.toInt64 (0) (90)) = true then (if (fR_isFour kind) = true then (if part < 0 then ((1)) else (if part ≤ 1 then (kR_holds_95_1 rf we kind a b angle part 4 (0) (1)) else ((1)))) else ((1))) else (if (fR_isFour kind) = true then (if part < 0 then ((1)) else (if part ≤ 1 then ((2)) else ((1)))) else ((1)))) else (if (fR_isFour kind) = true then (if part < 0 then ((1)) else (if part ≤ 1 then ((2)) else ((1)))) else ((1)))) else (if (fR_isFour kind) = true then (if part < 0 then ((1)) else (if part ≤ 1 then ((2)) else ((1)))) else ((1)))
set_option maxHeartbeats 4000000 in
set_option maxRecDepth 100000 in
theorem cR_holds (l : Launch) {s0 : State} {dC : Nat → ClassId} {dI : Nat → Nat → Nat} {cI cC cL : ClassId} (E : xb_Env l s0 dC dI (xtys cI cC cL)) (sz : Nat) (h0 : Nat) (ra : Nat) (th : Int32) (ta : Nat) (zs : Int32) (po : Int32) (fa : Int32) (da : Nat) (la : Nat) (we : Int64) (le : Int64) (pk : Int32) (pm : Int32) (co : Int32) (pa : Nat) (pl : Int32) (xa : Nat) (ya : Nat) (mb : Int32) (ea : Nat) (wa : Nat) (rf : Nat → Int32) (kind : Int32) (a : Int32) (b : Int32) (angle : Int32) (part : Int32) : Met l yR_holds [.code yR_holds bR_holds 9 (some (.long))] ({ frames := 1, cells := 0, slots := 0, locals := 30 }) (va_Pc [.ref h0, .int kind, .int a, .int b, .int angle, .int part] (fun U => xb_At s0 U ∧ U.heap.size = sz ∧ va_P (dC, dI) classes [(h0, .inr (3, [.int th, .ref ta, .int zs, .int po, .int fa, .ref da, .ref ra, .ref la, .long we, .long le, .int pk, .int pm, .int co, .ref pa, .int pl, .ref xa, .ref ya, .int mb, .ref ea, .ref wa])), (ra, .inl (cI, 28, .inl rf))] U.heap ∧ va_D (fun q => s0.heap.size ≤ q) [(h0, .inr (3, [.int th, .ref ta, .int zs, .int po, .int fa, .ref da, .ref ra, .ref la, .long we, .long le, .int pk, .int pm, .int co, .ref pa, .int pl, .ref xa, .ref ya, .int mb, .ref ea, .ref wa])), (ra, .inl (cI, 28, .inl rf))])) (xb_W (dC, dI) (fun v w => v = some (.long (gR_holds rf we kind a b angle part)) ∧ w = [(h0, .inr (3, [.int (gR_holds_0 rf we kind a b angle part), .ref ta, .int zs, .int po, .int fa, .ref da, .ref ra, .ref la, .long we, .long le, .int pk, .int pm, .int co, .ref pa, .int pl, .ref xa, .ref ya, .int mb, .ref ea, .ref wa])), (ra, .inl (cI, 28, .inl rf))]) (va_A [(h0, .inr (3, [.int th, .ref ta, .int zs, .int po, .int fa, .ref da, .ref ra, .ref la, .long we, .long le, .int pk, .int pm, .int co, .ref pa, .int pl, .ref xa, .ref ya, .int mb, .ref ea, .ref wa])), (ra, .inl (cI, 28, .inl rf))] sz)) 0 0 (va_A [(h0, .inr (3, [.int th, .ref ta, .int zs, .int po, .int fa, .ref da, .ref ra, .ref la, .long we, .long le, .int pk, .int pm, .int co, .ref pa, .int pl, .ref xa, .ref ya, .int mb, .ref ea, .ref wa])), (ra, .inl (cI, 28, .inl rf))] sz) := by
  refine Met.ofW (cc := bR_holds) (maxL := 9) (ret := (some (.long))) (by decide) rfl ?_
  intro p e s m args below meth c s₁ B hml hv
  obtain ⟨rfl, hAt, hsz, hP, hD0⟩ := hv
  have hx := B.exec
  have hb := B.bytes
  have hr := B.returns
  have hts := xb_hts E hAt ([.ref h0, .int kind, .int a, .int b, .int angle, .int part] : List Value).toArray
  have hown : s.vm.findClass "NailRulesModel" = some m.cls := findClass_of_methodNamed B.named
  have hlocks := B.notSynchronized
  have hK := xb_K E hAt
  subst hsz
  have hA0 := xb_A0 hAt hD0
  have hD := hD0.self (sz := s.heap.size)
  generalize hAe : va_A [(h0, .inr (3, [.int th, .ref ta, .int zs, .int po, .int fa, .ref da, .ref ra, .ref la, .long we, .long le, .int pk, .int pm, .int co, .ref pa, .int pl, .ref xa, .ref ya, .int mb, .ref ea, .ref wa])), (ra, .inl (cI, 28, .inl rf))] s.heap.size = A at hD hA0 ⊢
  have hA : ∀ q : Nat, s.heap.size ≤ q → A q := fun q h => by rw [← hAe]; exact Or.inr h
  have hS : va_S A s.heap s.heap [] := va_S.rf
  have hl := lv_entry ([.ref h0, .int kind, .int a, .int b, .int angle, .int part]) (n := 9) (Nat.le_of_ble_eq_true rfl)
  rw [lg_entry_eq]
  generalize (lg_sl ([.ref h0, .int kind, .int a, .int b, .int angle, .int part]) ++ List.replicate (9 - (lg_sl ([.ref h0, .int kind, .int a, .int b, .int angle, .int part])).length) Slot.unset).toArray = ls at hl ⊢
  have hl : lv_has ls 9 [(0, .ref h0), (1, .int kind), (2, .int a), (3, .int b), (4, .int angle), (5, .int part)] := hl
  refine lv_iload_n hx hb dR_holds_0 rfl (lv_at hl 2 rfl) ?_
  refine lv_i2l hx hb dR_holds_1 rfl ?_
  refine lv_lconst (v := 1) hx hb dR_holds_2 (by decide) ?_
  refine lv_ldc2 (v := 1000) hx hb hown (hts _ xk_765) dR_holds_3 ?_
  refine xb_rd (W.runS (As := [.long a.toInt64, .long 1, .long 1000]) (rest := []) ⟨hx, hb, hml, hown, hts⟩ (cR_isIn l E a.toInt64 1 1000) (cwS 3 hts (xb_gi (List.forall_mem_cons.mpr ⟨xk_754, List.forall_mem_cons.mpr ⟨xk_755, List.forall_mem_cons.mpr ⟨xk_45, List.forall_mem_cons.mpr ⟨xk_756, fun _ h => absurd h List.not_mem_nil⟩⟩⟩⟩)) rfl rfl rfl (by decide +kernel) ⟨Nat.le_of_ble_eq_true rfl, Nat.le_of_ble_eq_true rfl⟩) ⟨fun _ _ _ _ q => q, fun U hU hW => ⟨rfl, xb_atS hAt hS hA0 hU hW, fun k q h => by simp at h⟩⟩ rfl rfl hl.1 rfl (lv_room (Nat.le_of_ble_eq_true rfl)) dR_holds_6 ⟨Nat.zero_le _, Nat.zero_le _⟩) ?_
  refine lv_if_eq (tgt := 41) hx hb dR_holds_9 (by decide) (fun c_1 => ?_) (fun c_1 => ?_)
  · have c_1 := xb_bi_f.mp c_1
    refine lv_iconst (v := 0) hx hb dR_holds_41 (by decide) ?_
    refine lv_istore (lv' := [(6, .int 0), (0, .ref h0), (1, .int kind), (2, .int a), (3, .int b), (4, .int angle), (5, .int part)]) hx hb dR_holds_42 hl (by decide) rfl (fun ls hl => ?_)
    refine lv_aload_n hx hb dR_holds_44 rfl (lv_at hl 1 rfl) ?_
    refine lv_iload_n hx hb dR_holds_45 rfl (lv_at hl 2 rfl) ?_
    refine xb_rd (W.runS (As := [.int kind]) (rest := [.ref h0]) ⟨hx, hb, hml, hown, hts⟩ (cR_isFour l E kind) (cwS 1 hts (xb_gi (List.forall_mem_cons.mpr ⟨xk_750, List.forall_mem_cons.mpr ⟨xk_751, List.forall_mem_cons.mpr ⟨xk_45, List.forall_mem_cons.mpr ⟨xk_752, fun _ h => absurd h List.not_mem_nil⟩⟩⟩⟩)) rfl rfl rfl (by decide +kernel) ⟨Nat.le_of_ble_eq_true rfl, Nat.le_of_ble_eq_true rfl⟩) ⟨fun _ _ _ _ q => q, fun U hU hW => ⟨rfl, xb_atS hAt hS hA0 hU hW, fun k q h => by simp at h⟩⟩ rfl rfl hl.1 rfl (lv_room (Nat.le_of_ble_eq_true rfl)) dR_holds_46 ⟨Nat.zero_le _, Nat.zero_le _⟩) ?_
    refine lv_if_eq (tgt := 63) hx hb dR_holds_49 (by decide) (fun c_2 => ?_) (fun c_2 => ?_)
    · have c_2 := xb_bi_f.mp c_2
      refine lv_iconst (v := 1) hx hb dR_holds_63 (by decide) ?_
      refine lv_goto (tgt := 77) hx hb dR_holds_64 (by decide) ?_
      refine va_put (D := (dC, dI)) (ci := 3) (v := .int 1) (ty := .int) (C := xR_R) (T := xF_R) (N := 20) hx hb hts xi_R xt_R xt_R_ok xn_R hown hK hP hD hS 0 rfl rfl 0 (by decide) (hts _ xk_646) (fun _ h9 => h9) rfl (by decide +kernel) rfl rfl (Nat.le_of_ble_eq_true rfl) dR_holds_77 (fun H locs hP hD hS => ?_)
      have hP : va_P (dC, dI) classes [(h0, .inr (3, [.int 1, .ref ta, .int zs, .int po, .int fa, .ref da, .ref ra, .ref la, .long we, .long le, .int pk, .int pm, .int co, .ref pa, .int pl, .ref xa, .ref ya, .int mb, .ref ea, .ref wa])), (ra, .inl (cI, 28, .inl rf))] H := hP
      have hD : va_D A [(h0, .inr (3, [.int 1, .ref ta, .int zs, .int po, .int fa, .ref da, .ref ra, .ref la, .long we, .long le, .int pk, .int pm, .int co, .ref pa, .int pl, .ref xa, .ref ya, .int mb, .ref ea, .ref wa])), (ra, .inl (cI, 28, .inl rf))] := hD
      refine lv_aload_n hx hb dR_holds_80 rfl (lv_at hl 1 rfl) ?_
      refine va_get (D := (dC, dI)) (ci := 3) (v := .int 1) (C := xR_R) (T := xF_R) (N := 20) hx hb hts xi_R hown hK hP 0 rfl rfl 0 (by decide) (hts _ xk_646) (fun _ h9 => h9) rfl dR_holds_81 ?_
      refine lv_if_le (tgt := 89) hx hb dR_holds_84 (by decide) (fun c_3 => ?_) (fun c_3 => ?_)
      · exact absurd c_3 (by decide)
      · refine lv_lconst (v := 0) hx hb dR_holds_87 (by decide) ?_
        have e_0 : gR_holds rf we kind a b angle part = (0 : Int64) := (if_neg c_1).trans ((if_neg c_2).trans (rfl))
        have e_1 : gR_holds_0 rf we kind a b angle part = (1 : Int32) := (if_neg c_1).trans ((if_neg c_2).trans (rfl))
        have hP9 := hP.sub (ws' := [(h0, .inr (3, [.int 1, .ref ta, .int zs, .int po, .int fa, .ref da, .ref ra, .ref la, .long we, .long le, .int pk, .int pm, .int co, .ref pa, .int pl, .ref xa, .ref ya, .int mb, .ref ea, .ref wa])), (ra, .inl (cI, 28, .inl rf))]) [0, 1] rfl
        have hD9 := hD.sub (ws' := [(h0, .inr (3, [.int 1, .ref ta, .int zs, .int po, .int fa, .ref da, .ref ra, .ref la, .long we, .long le, .int pk, .int pm, .int co, .ref pa, .int pl, .ref xa, .ref ya, .int mb, .ref ea, .ref wa])), (ra, .inl (cI, 28, .inl rf))]) [0, 1] (by decide) rfl
        exact W.lret (v := 0) hx hb hr (fun t ht hW => ⟨_, _, rfl, ⟨by first | rfl | (simp only [e_0, e_1]; try rfl), by first | rfl | (simp only [e_0, e_1]; try rfl)⟩, by rw [ht]; exact hP9, hD9, hS.F ht⟩) hS.2.2 dR_holds_88
    · have c_2 := xb_bi_t.mp c_2
      refine lv_iload hx hb dR_holds_52 (lv_at hl 6 rfl) ?_
      refine lv_if_lt (tgt := 63) hx hb dR_holds_54 (by decide) (fun c_4 => ?_) (fun c_4 => ?_)
      · refine lv_iconst (v := 1) hx hb dR_holds_63 (by decide) ?_
        refine lv_goto (tgt := 77) hx hb dR_holds_64 (by decide) ?_
        refine va_put (D := (dC, dI)) (ci := 3) (v := .int 1) (ty := .int) (C := xR_R) (T := xF_R) (N := 20) hx hb hts xi_R xt_R xt_R_ok xn_R hown hK hP hD hS 0 rfl rfl 0 (by decide) (hts _ xk_646) (fun _ h9 => h9) rfl (by decide +kernel) rfl rfl (Nat.le_of_ble_eq_true rfl) dR_holds_77 (fun H locs hP hD hS => ?_)
        have hP : va_P (dC, dI) classes [(h0, .inr (3, [.int 1, .ref ta, .int zs, .int po, .int fa, .ref da, .ref ra, .ref la, .long we, .long le, .int pk, .int pm, .int co, .ref pa, .int pl, .ref xa, .ref ya, .int mb, .ref ea, .ref wa])), (ra, .inl (cI, 28, .inl rf))] H := hP
        have hD : va_D A [(h0, .inr (3, [.int 1, .ref ta, .int zs, .int po, .int fa, .ref da, .ref ra, .ref la, .long we, .long le, .int pk, .int pm, .int co, .ref pa, .int pl, .ref xa, .ref ya, .int mb, .ref ea, .ref wa])), (ra, .inl (cI, 28, .inl rf))] := hD
        refine lv_aload_n hx hb dR_holds_80 rfl (lv_at hl 1 rfl) ?_
        refine va_get (D := (dC, dI)) (ci := 3) (v := .int 1) (C := xR_R) (T := xF_R) (N := 20) hx hb hts xi_R hown hK hP 0 rfl rfl 0 (by decide) (hts _ xk_646) (fun _ h9 => h9) rfl dR_holds_81 ?_
        refine lv_if_le (tgt := 89) hx hb dR_holds_84 (by decide) (fun c_5 => ?_) (fun c_5 => ?_)
        · exact absurd c_5 (by decide)
        · refine lv_lconst (v := 0) hx hb dR_holds_87 (by decide) ?_
          have e_0 : gR_holds rf we kind a b angle part = (0 : Int64) := (if_neg c_1).trans ((if_pos c_2).trans ((if_pos c_4).trans (rfl)))
          have e_1 : gR_holds_0 rf we kind a b angle part = (1 : Int32) := (if_neg c_1).trans ((if_pos c_2).trans ((if_pos c_4).trans (rfl)))
          have hP9 := hP.sub (ws' := [(h0, .inr (3, [.int 1, .ref ta, .int zs, .int po, .int fa, .ref da, .ref ra, .ref la, .long we, .long le, .int pk, .int pm, .int co, .ref pa, .int pl, .ref xa, .ref ya, .int mb, .ref ea, .ref wa])), (ra, .inl (cI, 28, .inl rf))]) [0, 1] rfl
          have hD9 := hD.sub (ws' := [(h0, .inr (3, [.int 1, .ref ta, .int zs, .int po, .int fa, .ref da, .ref ra, .ref la, .long we, .long le, .int pk, .int pm, .int co, .ref pa, .int pl, .ref xa, .ref ya, .int mb, .ref ea, .ref wa])), (ra, .inl (cI, 28, .inl rf))]) [0, 1] (by decide) rfl
          exact W.lret (v := 0) hx hb hr (fun t ht hW => ⟨_, _, rfl, ⟨by first | rfl | (simp only [e_0, e_1]; try rfl), by first | rfl | (simp only [e_0, e_1]; try rfl)⟩, by rw [ht]; exact hP9, hD9, hS.F ht⟩) hS.2.2 dR_holds_88
      · refine lv_iload hx hb dR_holds_57 (lv_at hl 6 rfl) ?_
        refine lv_iconst (v := 1) hx hb dR_holds_59 (by decide) ?_
        refine lv_icmp_le (tgt := 67) hx hb dR_holds_60 (by decide) (fun c_6 => ?_) (fun c_6 => ?_)
        · refine lv_iload hx hb dR_holds_67 (lv_at hl 0 rfl) ?_
          refine lv_if_eq (tgt := 76) hx hb dR_holds_69 (by decide) (fun c_7 => ?_) (fun c_7 => ?_)
          · refine lv_iconst (v := 2) hx hb dR_holds_76 (by decide) ?_
            refine va_put (D := (dC, dI)) (ci := 3) (v := .int 2) (ty := .int) (C := xR_R) (T := xF_R) (N := 20) hx hb hts xi_R xt_R xt_R_ok xn_R hown hK hP hD hS 0 rfl rfl 0 (by decide) (hts _ xk_646) (fun _ h9 => h9) rfl (by decide +kernel) rfl rfl (Nat.le_of_ble_eq_true rfl) dR_holds_77 (fun H locs hP hD hS => ?_)
            have hP : va_P (dC, dI) classes [(h0, .inr (3, [.int 2, .ref ta, .int zs, .int po, .int fa, .ref da, .ref ra, .ref la, .long we, .long le, .int pk, .int pm, .int co, .ref pa, .int pl, .ref xa, .ref ya, .int mb, .ref ea, .ref wa])), (ra, .inl (cI, 28, .inl rf))] H := hP
            have hD : va_D A [(h0, .inr (3, [.int 2, .ref ta, .int zs, .int po, .int fa, .ref da, .ref ra, .ref la, .long we, .long le, .int pk, .int pm, .int co, .ref pa, .int pl, .ref xa, .ref ya, .int mb, .ref ea, .ref wa])), (ra, .inl (cI, 28, .inl rf))] := hD
            refine lv_aload_n hx hb dR_holds_80 rfl (lv_at hl 1 rfl) ?_
            refine va_get (D := (dC, dI)) (ci := 3) (v := .int 2) (C := xR_R) (T := xF_R) (N := 20) hx hb hts xi_R hown hK hP 0 rfl rfl 0 (by decide) (hts _ xk_646) (fun _ h9 => h9) rfl dR_holds_81 ?_
            refine lv_if_le (tgt := 89) hx hb dR_holds_84 (by decide) (fun c_8 => ?_) (fun c_8 => ?_)
            · exact absurd c_8 (by decide)
            · refine lv_lconst (v := 0) hx hb dR_holds_87 (by decide) ?_
              have e_0 : gR_holds rf we kind a b angle part = (0 : Int64) := (if_neg c_1).trans ((if_pos c_2).trans ((if_neg c_4).trans ((if_pos c_6).trans (rfl))))
              have e_1 : gR_holds_0 rf we kind a b angle part = (2 : Int32) := (if_neg c_1).trans ((if_pos c_2).trans ((if_neg c_4).trans ((if_pos c_6).trans (rfl))))
              have hP9 := hP.sub (ws' := [(h0, .inr (3, [.int 2, .ref ta, .int zs, .int po, .int fa, .ref da, .ref ra, .ref la, .long we, .long le, .int pk, .int pm, .int co, .ref pa, .int pl, .ref xa, .ref ya, .int mb, .ref ea, .ref wa])), (ra, .inl (cI, 28, .inl rf))]) [0, 1] rfl
              have hD9 := hD.sub (ws' := [(h0, .inr (3, [.int 2, .ref ta, .int zs, .int po, .int fa, .ref da, .ref ra, .ref la, .long we, .long le, .int pk, .int pm, .int co, .ref pa, .int pl, .ref xa, .ref ya, .int mb, .ref ea, .ref wa])), (ra, .inl (cI, 28, .inl rf))]) [0, 1] (by decide) rfl
              exact W.lret (v := 0) hx hb hr (fun t ht hW => ⟨_, _, rfl, ⟨by first | rfl | (simp only [e_0, e_1]; try rfl), by first | rfl | (simp only [e_0, e_1]; try rfl)⟩, by rw [ht]; exact hP9, hD9, hS.F ht⟩) hS.2.2 dR_holds_88
          · exact absurd c_7 (by decide)
        · refine lv_iconst (v := 1) hx hb dR_holds_63 (by decide) ?_
          refine lv_goto (tgt := 77) hx hb dR_holds_64 (by decide) ?_
          refine va_put (D := (dC, dI)) (ci := 3) (v := .int 1) (ty := .int) (C := xR_R) (T := xF_R) (N := 20) hx hb hts xi_R xt_R xt_R_ok xn_R hown hK hP hD hS 0 rfl rfl 0 (by decide) (hts _ xk_646) (fun _ h9 => h9) rfl (by decide +kernel) rfl rfl (Nat.le_of_ble_eq_true rfl) dR_holds_77 (fun H locs hP hD hS => ?_)
          have hP : va_P (dC, dI) classes [(h0, .inr (3, [.int 1, .ref ta, .int zs, .int po, .int fa, .ref da, .ref ra, .ref la, .long we, .long le, .int pk, .int pm, .int co, .ref pa, .int pl, .ref xa, .ref ya, .int mb, .ref ea, .ref wa])), (ra, .inl (cI, 28, .inl rf))] H := hP
          have hD : va_D A [(h0, .inr (3, [.int 1, .ref ta, .int zs, .int po, .int fa, .ref da, .ref ra, .ref la, .long we, .long le, .int pk, .int pm, .int co, .ref pa, .int pl, .ref xa, .ref ya, .int mb, .ref ea, .ref wa])), (ra, .inl (cI, 28, .inl rf))] := hD
          refine lv_aload_n hx hb dR_holds_80 rfl (lv_at hl 1 rfl) ?_
          refine va_get (D := (dC, dI)) (ci := 3) (v := .int 1) (C := xR_R) (T := xF_R) (N := 20) hx hb hts xi_R hown hK hP 0 rfl rfl 0 (by decide) (hts _ xk_646) (fun _ h9 => h9) rfl dR_holds_81 ?_
          refine lv_if_le (tgt := 89) hx hb dR_holds_84 (by decide) (fun c_9 => ?_) (fun c_9 => ?_)
          · exact absurd c_9 (by decide)
          · refine lv_lconst (v := 0) hx hb dR_holds_87 (by decide) ?_
            have e_0 : gR_holds rf we kind a b angle part = (0 : Int64) := (if_neg c_1).trans ((if_pos c_2).trans ((if_neg c_4).trans ((if_neg c_6).trans (rfl))))
            have e_1 : gR_holds_0 rf we kind a b angle part = (1 : Int32) := (if_neg c_1).trans ((if_pos c_2).trans ((if_neg c_4).trans ((if_neg c_6).trans (rfl))))
            have hP9 := hP.sub (ws' := [(h0, .inr (3, [.int 1, .ref ta, .int zs, .int po, .int fa, .ref da, .ref ra, .ref la, .long we, .long le, .int pk, .int pm, .int co, .ref pa, .int pl, .ref xa, .ref ya, .int mb, .ref ea, .ref wa])), (ra, .inl (cI, 28, .inl rf))]) [0, 1] rfl
            have hD9 := hD.sub (ws' := [(h0, .inr (3, [.int 1, .ref ta, .int zs, .int po, .int fa, .ref da, .ref ra, .ref la, .long we, .long le, .int pk, .int pm, .int co, .ref pa, .int pl, .ref xa, .ref ya, .int mb, .ref ea, .ref wa])), (ra, .inl (cI, 28, .inl rf))]) [0, 1] (by decide) rfl
            exact W.lret (v := 0) hx hb hr (fun t ht hW => ⟨_, _, rfl, ⟨by first | rfl | (simp only [e_0, e_1]; try rfl), by first | rfl | (simp only [e_0, e_1]; try rfl)⟩, by rw [ht]; exact hP9, hD9, hS.F ht⟩) hS.2.2 dR_holds_88
  · have c_1 := xb_bi_t.mp c_1
    refine lv_iload_n hx hb dR_holds_12 rfl (lv_at hl 3 rfl) ?_
    refine lv_i2l hx hb dR_holds_13 rfl ?_
    refine lv_lconst (v := 1) hx hb dR_holds_14 (by decide) ?_
    refine lv_ldc2 (v := 1000) hx hb hown (hts _ xk_765) dR_holds_15 ?_
    refine xb_rd (W.runS (As := [.long b.toInt64, .long 1, .long 1000]) (rest := []) ⟨hx, hb, hml, hown, hts⟩ (cR_isIn l E b.toInt64 1 1000) (cwS 3 hts (xb_gi (List.forall_mem_cons.mpr ⟨xk_754, List.forall_mem_cons.mpr ⟨xk_755, List.forall_mem_cons.mpr ⟨xk_45, List.forall_mem_cons.mpr ⟨xk_756, fun _ h => absurd h List.not_mem_nil⟩⟩⟩⟩)) rfl rfl rfl (by decide +kernel) ⟨Nat.le_of_ble_eq_true rfl, Nat.le_of_ble_eq_true rfl⟩) ⟨fun _ _ _ _ q => q, fun U hU hW => ⟨rfl, xb_atS hAt hS hA0 hU hW, fun k q h => by simp at h⟩⟩ rfl rfl hl.1 rfl (lv_room (Nat.le_of_ble_eq_true rfl)) dR_holds_18 ⟨Nat.zero_le _, Nat.zero_le _⟩) ?_
    refine lv_if_eq (tgt := 41) hx hb dR_holds_21 (by decide) (fun c_10 => ?_) (fun c_10 => ?_)
    · have c_10 := xb_bi_f.mp c_10
      refine lv_iconst (v := 0) hx hb dR_holds_41 (by decide) ?_
      refine lv_istore (lv' := [(6, .int 0), (0, .ref h0), (1, .int kind), (2, .int a), (3, .int b), (4, .int angle), (5, .int part)]) hx hb dR_holds_42 hl (by decide) rfl (fun ls hl => ?_)
      refine lv_aload_n hx hb dR_holds_44 rfl (lv_at hl 1 rfl) ?_
      refine lv_iload_n hx hb dR_holds_45 rfl (lv_at hl 2 rfl) ?_
      refine xb_rd (W.runS (As := [.int kind]) (rest := [.ref h0]) ⟨hx, hb, hml, hown, hts⟩ (cR_isFour l E kind) (cwS 1 hts (xb_gi (List.forall_mem_cons.mpr ⟨xk_750, List.forall_mem_cons.mpr ⟨xk_751, List.forall_mem_cons.mpr ⟨xk_45, List.forall_mem_cons.mpr ⟨xk_752, fun _ h => absurd h List.not_mem_nil⟩⟩⟩⟩)) rfl rfl rfl (by decide +kernel) ⟨Nat.le_of_ble_eq_true rfl, Nat.le_of_ble_eq_true rfl⟩) ⟨fun _ _ _ _ q => q, fun U hU hW => ⟨rfl, xb_atS hAt hS hA0 hU hW, fun k q h => by simp at h⟩⟩ rfl rfl hl.1 rfl (lv_room (Nat.le_of_ble_eq_true rfl)) dR_holds_46 ⟨Nat.zero_le _, Nat.zero_le _⟩) ?_
      refine lv_if_eq (tgt := 63) hx hb dR_holds_49 (by decide) (fun c_11 => ?_) (fun c_11 => ?_)
      · have c_11 := xb_bi_f.mp c_11
        refine lv_iconst (v := 1) hx hb dR_holds_63 (by decide) ?_
        refine lv_goto (tgt := 77) hx hb dR_holds_64 (by decide) ?_
        refine va_put (D := (dC, dI)) (ci := 3) (v := .int 1) (ty := .int) (C := xR_R) (T := xF_R) (N := 20) hx hb hts xi_R xt_R xt_R_ok xn_R hown hK hP hD hS 0 rfl rfl 0 (by decide) (hts _ xk_646) (fun _ h9 => h9) rfl (by decide +kernel) rfl rfl (Nat.le_of_ble_eq_true rfl) dR_holds_77 (fun H locs hP hD hS => ?_)
        have hP : va_P (dC, dI) classes [(h0, .inr (3, [.int 1, .ref ta, .int zs, .int po, .int fa, .ref da, .ref ra, .ref la, .long we, .long le, .int pk, .int pm, .int co, .ref pa, .int pl, .ref xa, .ref ya, .int mb, .ref ea, .ref wa])), (ra, .inl (cI, 28, .inl rf))] H := hP
        have hD : va_D A [(h0, .inr (3, [.int 1, .ref ta, .int zs, .int po, .int fa, .ref da, .ref ra, .ref la, .long we, .long le, .int pk, .int pm, .int co, .ref pa, .int pl, .ref xa, .ref ya, .int mb, .ref ea, .ref wa])), (ra, .inl (cI, 28, .inl rf))] := hD
        refine lv_aload_n hx hb dR_holds_80 rfl (lv_at hl 1 rfl) ?_
        refine va_get (D := (dC, dI)) (ci := 3) (v := .int 1) (C := xR_R) (T := xF_R) (N := 20) hx hb hts xi_R hown hK hP 0 rfl rfl 0 (by decide) (hts _ xk_646) (fun _ h9 => h9) rfl dR_holds_81 ?_
        refine lv_if_le (tgt := 89) hx hb dR_holds_84 (by decide) (fun c_12 => ?_) (fun c_12 => ?_)
        · exact absurd c_12 (by decide)
        · refine lv_lconst (v := 0) hx hb dR_holds_87 (by decide) ?_
          have e_0 : gR_holds rf we kind a b angle part = (0 : Int64) := (if_pos c_1).trans ((if_neg c_10).trans ((if_neg c_11).trans (rfl)))
          have e_1 : gR_holds_0 rf we kind a b angle part = (1 : Int32) := (if_pos c_1).trans ((if_neg c_10).trans ((if_neg c_11).trans (rfl)))
          have hP9 := hP.sub (ws' := [(h0, .inr (3, [.int 1, .ref ta, .int zs, .int po, .int fa, .ref da, .ref ra, .ref la, .long we, .long le, .int pk, .int pm, .int co, .ref pa, .int pl, .ref xa, .ref ya, .int mb, .ref ea, .ref wa])), (ra, .inl (cI, 28, .inl rf))]) [0, 1] rfl
          have hD9 := hD.sub (ws' := [(h0, .inr (3, [.int 1, .ref ta, .int zs, .int po, .int fa, .ref da, .ref ra, .ref la, .long we, .long le, .int pk, .int pm, .int co, .ref pa, .int pl, .ref xa, .ref ya, .int mb, .ref ea, .ref wa])), (ra, .inl (cI, 28, .inl rf))]) [0, 1] (by decide) rfl
          exact W.lret (v := 0) hx hb hr (fun t ht hW => ⟨_, _, rfl, ⟨by first | rfl | (simp only [e_0, e_1]; try rfl), by first | rfl | (simp only [e_0, e_1]; try rfl)⟩, by rw [ht]; exact hP9, hD9, hS.F ht⟩) hS.2.2 dR_holds_88
      · have c_11 := xb_bi_t.mp c_11
        refine lv_iload hx hb dR_holds_52 (lv_at hl 6 rfl) ?_
        refine lv_if_lt (tgt := 63) hx hb dR_holds_54 (by decide) (fun c_13 => ?_) (fun c_13 => ?_)
        · refine lv_iconst (v := 1) hx hb dR_holds_63 (by decide) ?_
          refine lv_goto (tgt := 77) hx hb dR_holds_64 (by decide) ?_
          refine va_put (D := (dC, dI)) (ci := 3) (v := .int 1) (ty := .int) (C := xR_R) (T := xF_R) (N := 20) hx hb hts xi_R xt_R xt_R_ok xn_R hown hK hP hD hS 0 rfl rfl 0 (by decide) (hts _ xk_646) (fun _ h9 => h9) rfl (by decide +kernel) rfl rfl (Nat.le_of_ble_eq_true rfl) dR_holds_77 (fun H locs hP hD hS => ?_)
          have hP : va_P (dC, dI) classes [(h0, .inr (3, [.int 1, .ref ta, .int zs, .int po, .int fa, .ref da, .ref ra, .ref la, .long we, .long le, .int pk, .int pm, .int co, .ref pa, .int pl, .ref xa, .ref ya, .int mb, .ref ea, .ref wa])), (ra, .inl (cI, 28, .inl rf))] H := hP
          have hD : va_D A [(h0, .inr (3, [.int 1, .ref ta, .int zs, .int po, .int fa, .ref da, .ref ra, .ref la, .long we, .long le, .int pk, .int pm, .int co, .ref pa, .int pl, .ref xa, .ref ya, .int mb, .ref ea, .ref wa])), (ra, .inl (cI, 28, .inl rf))] := hD
          refine lv_aload_n hx hb dR_holds_80 rfl (lv_at hl 1 rfl) ?_
          refine va_get (D := (dC, dI)) (ci := 3) (v := .int 1) (C := xR_R) (T := xF_R) (N := 20) hx hb hts xi_R hown hK hP 0 rfl rfl 0 (by decide) (hts _ xk_646) (fun _ h9 => h9) rfl dR_holds_81 ?_
          refine lv_if_le (tgt := 89) hx hb dR_holds_84 (by decide) (fun c_14 => ?_) (fun c_14 => ?_)
          · exact absurd c_14 (by decide)
          · refine lv_lconst (v := 0) hx hb dR_holds_87 (by decide) ?_
            have e_0 : gR_holds rf we kind a b angle part = (0 : Int64) := (if_pos c_1).trans ((if_neg c_10).trans ((if_pos c_11).trans ((if_pos c_13).trans (rfl))))
            have e_1 : gR_holds_0 rf we kind a b angle part = (1 : Int32) := (if_pos c_1).trans ((if_neg c_10).trans ((if_pos c_11).trans ((if_pos c_13).trans (rfl))))
            have hP9 := hP.sub (ws' := [(h0, .inr (3, [.int 1, .ref ta, .int zs, .int po, .int fa, .ref da, .ref ra, .ref la, .long we, .long le, .int pk, .int pm, .int co, .ref pa, .int pl, .ref xa, .ref ya, .int mb, .ref ea, .ref wa])), (ra, .inl (cI, 28, .inl rf))]) [0, 1] rfl
            have hD9 := hD.sub (ws' := [(h0, .inr (3, [.int 1, .ref ta, .int zs, .int po, .int fa, .ref da, .ref ra, .ref la, .long we, .long le, .int pk, .int pm, .int co, .ref pa, .int pl, .ref xa, .ref ya, .int mb, .ref ea, .ref wa])), (ra, .inl (cI, 28, .inl rf))]) [0, 1] (by decide) rfl
            exact W.lret (v := 0) hx hb hr (fun t ht hW => ⟨_, _, rfl, ⟨by first | rfl | (simp only [e_0, e_1]; try rfl), by first | rfl | (simp only [e_0, e_1]; try rfl)⟩, by rw [ht]; exact hP9, hD9, hS.F ht⟩) hS.2.2 dR_holds_88
        · refine lv_iload hx hb dR_holds_57 (lv_at hl 6 rfl) ?_
          refine lv_iconst (v := 1) hx hb dR_holds_59 (by decide) ?_
          refine lv_icmp_le (tgt := 67) hx hb dR_holds_60 (by decide) (fun c_15 => ?_) (fun c_15 => ?_)
          · refine lv_iload hx hb dR_holds_67 (lv_at hl 0 rfl) ?_
            refine lv_if_eq (tgt := 76) hx hb dR_holds_69 (by decide) (fun c_16 => ?_) (fun c_16 => ?_)
            · refine lv_iconst (v := 2) hx hb dR_holds_76 (by decide) ?_
              refine va_put (D := (dC, dI)) (ci := 3) (v := .int 2) (ty := .int) (C := xR_R) (T := xF_R) (N := 20) hx hb hts xi_R xt_R xt_R_ok xn_R hown hK hP hD hS 0 rfl rfl 0 (by decide) (hts _ xk_646) (fun _ h9 => h9) rfl (by decide +kernel) rfl rfl (Nat.le_of_ble_eq_true rfl) dR_holds_77 (fun H locs hP hD hS => ?_)
              have hP : va_P (dC, dI) classes [(h0, .inr (3, [.int 2, .ref ta, .int zs, .int po, .int fa, .ref da, .ref ra, .ref la, .long we, .long le, .int pk, .int pm, .int co, .ref pa, .int pl, .ref xa, .ref ya, .int mb, .ref ea, .ref wa])), (ra, .inl (cI, 28, .inl rf))] H := hP
              have hD : va_D A [(h0, .inr (3, [.int 2, .ref ta, .int zs, .int po, .int fa, .ref da, .ref ra, .ref la, .long we, .long le, .int pk, .int pm, .int co, .ref pa, .int pl, .ref xa, .ref ya, .int mb, .ref ea, .ref wa])), (ra, .inl (cI, 28, .inl rf))] := hD
              refine lv_aload_n hx hb dR_holds_80 rfl (lv_at hl 1 rfl) ?_
              refine va_get (D := (dC, dI)) (ci := 3) (v := .int 2) (C := xR_R) (T := xF_R) (N := 20) hx hb hts xi_R hown hK hP 0 rfl rfl 0 (by decide) (hts _ xk_646) (fun _ h9 => h9) rfl dR_holds_81 ?_
              refine lv_if_le (tgt := 89) hx hb dR_holds_84 (by decide) (fun c_17 => ?_) (fun c_17 => ?_)
              · exact absurd c_17 (by decide)
              · refine lv_lconst (v := 0) hx hb dR_holds_87 (by decide) ?_
                have e_0 : gR_holds rf we kind a b angle part = (0 : Int64) := (if_pos c_1).trans ((if_neg c_10).trans ((if_pos c_11).trans ((if_neg c_13).trans ((if_pos c_15).trans (rfl)))))
                have e_1 : gR_holds_0 rf we kind a b angle part = (2 : Int32) := (if_pos c_1).trans ((if_neg c_10).trans ((if_pos c_11).trans ((if_neg c_13).trans ((if_pos c_15).trans (rfl)))))
                have hP9 := hP.sub (ws' := [(h0, .inr (3, [.int 2, .ref ta, .int zs, .int po, .int fa, .ref da, .ref ra, .ref la, .long we, .long le, .int pk, .int pm, .int co, .ref pa, .int pl, .ref xa, .ref ya, .int mb, .ref ea, .ref wa])), (ra, .inl (cI, 28, .inl rf))]) [0, 1] rfl
                have hD9 := hD.sub (ws' := [(h0, .inr (3, [.int 2, .ref ta, .int zs, .int po, .int fa, .ref da, .ref ra, .ref la, .long we, .long le, .int pk, .int pm, .int co, .ref pa, .int pl, .ref xa, .ref ya, .int mb, .ref ea, .ref wa])), (ra, .inl (cI, 28, .inl rf))]) [0, 1] (by decide) rfl
                exact W.lret (v := 0) hx hb hr (fun t ht hW => ⟨_, _, rfl, ⟨by first | rfl | (simp only [e_0, e_1]; try rfl), by first | rfl | (simp only [e_0, e_1]; try rfl)⟩, by rw [ht]; exact hP9, hD9, hS.F ht⟩) hS.2.2 dR_holds_88
            · exact absurd c_16 (by decide)
          · refine lv_iconst (v := 1) hx hb dR_holds_63 (by decide) ?_
            refine lv_goto (tgt := 77) hx hb dR_holds_64 (by decide) ?_
            refine va_put (D := (dC, dI)) (ci := 3) (v := .int 1) (ty := .int) (C := xR_R) (T := xF_R) (N := 20) hx hb hts xi_R xt_R xt_R_ok xn_R hown hK hP hD hS 0 rfl rfl 0 (by decide) (hts _ xk_646) (fun _ h9 => h9) rfl (by decide +kernel) rfl rfl (Nat.le_of_ble_eq_true rfl) dR_holds_77 (fun H locs hP hD hS => ?_)
            have hP : va_P (dC, dI) classes [(h0, .inr (3, [.int 1, .ref ta, .int zs, .int po, .int fa, .ref da, .ref ra, .ref la, .long we, .long le, .int pk, .int pm, .int co, .ref pa, .int pl, .ref xa, .ref ya, .int mb, .ref ea, .ref wa])), (ra, .inl (cI, 28, .inl rf))] H := hP
            have hD : va_D A [(h0, .inr (3, [.int 1, .ref ta, .int zs, .int po, .int fa, .ref da, .ref ra, .ref la, .long we, .long le, .int pk, .int pm, .int co, .ref pa, .int pl, .ref xa, .ref ya, .int mb, .ref ea, .ref wa])), (ra, .inl (cI, 28, .inl rf))] := hD
            refine lv_aload_n hx hb dR_holds_80 rfl (lv_at hl 1 rfl) ?_
            refine va_get (D := (dC, dI)) (ci := 3) (v := .int 1) (C := xR_R) (T := xF_R) (N := 20) hx hb hts xi_R hown hK hP 0 rfl rfl 0 (by decide) (hts _ xk_646) (fun _ h9 => h9) rfl dR_holds_81 ?_
            refine lv_if_le (tgt := 89) hx hb dR_holds_84 (by decide) (fun c_18 => ?_) (fun c_18 => ?_)
            · exact absurd c_18 (by decide)
            · refine lv_lconst (v := 0) hx hb dR_holds_87 (by decide) ?_
              have e_0 : gR_holds rf we kind a b angle part = (0 : Int64) := (if_pos c_1).trans ((if_neg c_10).trans ((if_pos c_11).trans ((if_neg c_13).trans ((if_neg c_15).trans (rfl)))))
              have e_1 : gR_holds_0 rf we kind a b angle part = (1 : Int32) := (if_pos c_1).trans ((if_neg c_10).trans ((if_pos c_11).trans ((if_neg c_13).trans ((if_neg c_15).trans (rfl)))))
              have hP9 := hP.sub (ws' := [(h0, .inr (3, [.int 1, .ref ta, .int zs, .int po, .int fa, .ref da, .ref ra, .ref la, .long we, .long le, .int pk, .int pm, .int co, .ref pa, .int pl, .ref xa, .ref ya, .int mb, .ref ea, .ref wa])), (ra, .inl (cI, 28, .inl rf))]) [0, 1] rfl
              have hD9 := hD.sub (ws' := [(h0, .inr (3, [.int 1, .ref ta, .int zs, .int po, .int fa, .ref da, .ref ra, .ref la, .long we, .long le, .int pk, .int pm, .int co, .ref pa, .int pl, .ref xa, .ref ya, .int mb, .ref ea, .ref wa])), (ra, .inl (cI, 28, .inl rf))]) [0, 1] (by decide) rfl
              exact W.lret (v := 0) hx hb hr (fun t ht hW => ⟨_, _, rfl, ⟨by first | rfl | (simp only [e_0, e_1]; try rfl), by first | rfl | (simp only [e_0, e_1]; try rfl)⟩, by rw [ht]; exact hP9, hD9, hS.F ht⟩) hS.2.2 dR_holds_88
    · have c_10 := xb_bi_t.mp c_10
      refine lv_iload hx hb dR_holds_24 (lv_at hl 4 rfl) ?_
      refine lv_i2l hx hb dR_holds_26 rfl ?_
      refine lv_lconst (v := 0) hx hb dR_holds_27 (by decide) ?_
      refine lv_ldc2 (v := 90) hx hb hown (hts _ xk_766) dR_holds_28 ?_
      refine xb_rd (W.runS (As := [.long angle.toInt64, .long 0, .long 90]) (rest := []) ⟨hx, hb, hml, hown, hts⟩ (cR_isIn l E angle.toInt64 0 90) (cwS 3 hts (xb_gi (List.forall_mem_cons.mpr ⟨xk_754, List.forall_mem_cons.mpr ⟨xk_755, List.forall_mem_cons.mpr ⟨xk_45, List.forall_mem_cons.mpr ⟨xk_756, fun _ h => absurd h List.not_mem_nil⟩⟩⟩⟩)) rfl rfl rfl (by decide +kernel) ⟨Nat.le_of_ble_eq_true rfl, Nat.le_of_ble_eq_true rfl⟩) ⟨fun _ _ _ _ q => q, fun U hU hW => ⟨rfl, xb_atS hAt hS hA0 hU hW, fun k q h => by simp at h⟩⟩ rfl rfl hl.1 rfl (lv_room (Nat.le_of_ble_eq_true rfl)) dR_holds_31 ⟨Nat.zero_le _, Nat.zero_le _⟩) ?_
      refine lv_if_eq (tgt := 41) hx hb dR_holds_34 (by decide) (fun c_19 => ?_) (fun c_19 => ?_)
      · have c_19 := xb_bi_f.mp c_19
        refine lv_iconst (v := 0) hx hb dR_holds_41 (by decide) ?_
        refine lv_istore (lv' := [(6, .int 0), (0, .ref h0), (1, .int kind), (2, .int a), (3, .int b), (4, .int angle), (5, .int part)]) hx hb dR_holds_42 hl (by decide) rfl (fun ls hl => ?_)
        refine lv_aload_n hx hb dR_holds_44 rfl (lv_at hl 1 rfl) ?_
        refine lv_iload_n hx hb dR_holds_45 rfl (lv_at hl 2 rfl) ?_
        refine xb_rd (W.runS (As := [.int kind]) (rest := [.ref h0]) ⟨hx, hb, hml, hown, hts⟩ (cR_isFour l E kind) (cwS 1 hts (xb_gi (List.forall_mem_cons.mpr ⟨xk_750, List.forall_mem_cons.mpr ⟨xk_751, List.forall_mem_cons.mpr ⟨xk_45, List.forall_mem_cons.mpr ⟨xk_752, fun _ h => absurd h List.not_mem_nil⟩⟩⟩⟩)) rfl rfl rfl (by decide +kernel) ⟨Nat.le_of_ble_eq_true rfl, Nat.le_of_ble_eq_true rfl⟩) ⟨fun _ _ _ _ q => q, fun U hU hW => ⟨rfl, xb_atS hAt hS hA0 hU hW, fun k q h => by simp at h⟩⟩ rfl rfl hl.1 rfl (lv_room (Nat.le_of_ble_eq_true rfl)) dR_holds_46 ⟨Nat.zero_le _, Nat.zero_le _⟩) ?_
        refine lv_if_eq (tgt := 63) hx hb dR_holds_49 (by decide) (fun c_20 => ?_) (fun c_20 => ?_)
        · have c_20 := xb_bi_f.mp c_20
          refine lv_iconst (v := 1) hx hb dR_holds_63 (by decide) ?_
          refine lv_goto (tgt := 77) hx hb dR_holds_64 (by decide) ?_
          refine va_put (D := (dC, dI)) (ci := 3) (v := .int 1) (ty := .int) (C := xR_R) (T := xF_R) (N := 20) hx hb hts xi_R xt_R xt_R_ok xn_R hown hK hP hD hS 0 rfl rfl 0 (by decide) (hts _ xk_646) (fun _ h9 => h9) rfl (by decide +kernel) rfl rfl (Nat.le_of_ble_eq_true rfl) dR_holds_77 (fun H locs hP hD hS => ?_)
          have hP : va_P (dC, dI) classes [(h0, .inr (3, [.int 1, .ref ta, .int zs, .int po, .int fa, .ref da, .ref ra, .ref la, .long we, .long le, .int pk, .int pm, .int co, .ref pa, .int pl, .ref xa, .ref ya, .int mb, .ref ea, .ref wa])), (ra, .inl (cI, 28, .inl rf))] H := hP
          have hD : va_D A [(h0, .inr (3, [.int 1, .ref ta, .int zs, .int po, .int fa, .ref da, .ref ra, .ref la, .long we, .long le, .int pk, .int pm, .int co, .ref pa, .int pl, .ref xa, .ref ya, .int mb, .ref ea, .ref wa])), (ra, .inl (cI, 28, .inl rf))] := hD
          refine lv_aload_n hx hb dR_holds_80 rfl (lv_at hl 1 rfl) ?_
          refine va_get (D := (dC, dI)) (ci := 3) (v := .int 1) (C := xR_R) (T := xF_R) (N := 20) hx hb hts xi_R hown hK hP 0 rfl rfl 0 (by decide) (hts _ xk_646) (fun _ h9 => h9) rfl dR_holds_81 ?_
          refine lv_if_le (tgt := 89) hx hb dR_holds_84 (by decide) (fun c_21 => ?_) (fun c_21 => ?_)
          · exact absurd c_21 (by decide)
          · refine lv_lconst (v := 0) hx hb dR_holds_87 (by decide) ?_
            have e_0 : gR_holds rf we kind a b angle part = (0 : Int64) := (if_pos c_1).trans ((if_pos c_10).trans ((if_neg c_19).trans ((if_neg c_20).trans (rfl))))
            have e_1 : gR_holds_0 rf we kind a b angle part = (1 : Int32) := (if_pos c_1).trans ((if_pos c_10).trans ((if_neg c_19).trans ((if_neg c_20).trans (rfl))))
            have hP9 := hP.sub (ws' := [(h0, .inr (3, [.int 1, .ref ta, .int zs, .int po, .int fa, .ref da, .ref ra, .ref la, .long we, .long le, .int pk, .int pm, .int co, .ref pa, .int pl, .ref xa, .ref ya, .int mb, .ref ea, .ref wa])), (ra, .inl (cI, 28, .inl rf))]) [0, 1] rfl
            have hD9 := hD.sub (ws' := [(h0, .inr (3, [.int 1, .ref ta, .int zs, .int po, .int fa, .ref da, .ref ra, .ref la, .long we, .long le, .int pk, .int pm, .int co, .ref pa, .int pl, .ref xa, .ref ya, .int mb, .ref ea, .ref wa])), (ra, .inl (cI, 28, .inl rf))]) [0, 1] (by decide) rfl
            exact W.lret (v := 0) hx hb hr (fun t ht hW => ⟨_, _, rfl, ⟨by first | rfl | (simp only [e_0, e_1]; try rfl), by first | rfl | (simp only [e_0, e_1]; try rfl)⟩, by rw [ht]; exact hP9, hD9, hS.F ht⟩) hS.2.2 dR_holds_88
        · have c_20 := xb_bi_t.mp c_20
          refine lv_iload hx hb dR_holds_52 (lv_at hl 6 rfl) ?_
          refine lv_if_lt (tgt := 63) hx hb dR_holds_54 (by decide) (fun c_22 => ?_) (fun c_22 => ?_)
          · refine lv_iconst (v := 1) hx hb dR_holds_63 (by decide) ?_
            refine lv_goto (tgt := 77) hx hb dR_holds_64 (by decide) ?_
            refine va_put (D := (dC, dI)) (ci := 3) (v := .int 1) (ty := .int) (C := xR_R) (T := xF_R) (N := 20) hx hb hts xi_R xt_R xt_R_ok xn_R hown hK hP hD hS 0 rfl rfl 0 (by decide) (hts _ xk_646) (fun _ h9 => h9) rfl (by decide +kernel) rfl rfl (Nat.le_of_ble_eq_true rfl) dR_holds_77 (fun H locs hP hD hS => ?_)
            have hP : va_P (dC, dI) classes [(h0, .inr (3, [.int 1, .ref ta, .int zs, .int po, .int fa, .ref da, .ref ra, .ref la, .long we, .long le, .int pk, .int pm, .int co, .ref pa, .int pl, .ref xa, .ref ya, .int mb, .ref ea, .ref wa])), (ra, .inl (cI, 28, .inl rf))] H := hP
            have hD : va_D A [(h0, .inr (3, [.int 1, .ref ta, .int zs, .int po, .int fa, .ref da, .ref ra, .ref la, .long we, .long le, .int pk, .int pm, .int co, .ref pa, .int pl, .ref xa, .ref ya, .int mb, .ref ea, .ref wa])), (ra, .inl (cI, 28, .inl rf))] := hD
            refine lv_aload_n hx hb dR_holds_80 rfl (lv_at hl 1 rfl) ?_
            refine va_get (D := (dC, dI)) (ci := 3) (v := .int 1) (C := xR_R) (T := xF_R) (N := 20) hx hb hts xi_R hown hK hP 0 rfl rfl 0 (by decide) (hts _ xk_646) (fun _ h9 => h9) rfl dR_holds_81 ?_
            refine lv_if_le (tgt := 89) hx hb dR_holds_84 (by decide) (fun c_23 => ?_) (fun c_23 => ?_)
            · exact absurd c_23 (by decide)
            · refine lv_lconst (v := 0) hx hb dR_holds_87 (by decide) ?_
              have e_0 : gR_holds rf we kind a b angle part = (0 : Int64) := (if_pos c_1).trans ((if_pos c_10).trans ((if_neg c_19).trans ((if_pos c_20).trans ((if_pos c_22).trans (rfl)))))
              have e_1 : gR_holds_0 rf we kind a b angle part = (1 : Int32) := (if_pos c_1).trans ((if_pos c_10).trans ((if_neg c_19).trans ((if_pos c_20).trans ((if_pos c_22).trans (rfl)))))
              have hP9 := hP.sub (ws' := [(h0, .inr (3, [.int 1, .ref ta, .int zs, .int po, .int fa, .ref da, .ref ra, .ref la, .long we, .long le, .int pk, .int pm, .int co, .ref pa, .int pl, .ref xa, .ref ya, .int mb, .ref ea, .ref wa])), (ra, .inl (cI, 28, .inl rf))]) [0, 1] rfl
              have hD9 := hD.sub (ws' := [(h0, .inr (3, [.int 1, .ref ta, .int zs, .int po, .int fa, .ref da, .ref ra, .ref la, .long we, .long le, .int pk, .int pm, .int co, .ref pa, .int pl, .ref xa, .ref ya, .int mb, .ref ea, .ref wa])), (ra, .inl (cI, 28, .inl rf))]) [0, 1] (by decide) rfl
              exact W.lret (v := 0) hx hb hr (fun t ht hW => ⟨_, _, rfl, ⟨by first | rfl | (simp only [e_0, e_1]; try rfl), by first | rfl | (simp only [e_0, e_1]; try rfl)⟩, by rw [ht]; exact hP9, hD9, hS.F ht⟩) hS.2.2 dR_holds_88
          · refine lv_iload hx hb dR_holds_57 (lv_at hl 6 rfl) ?_
            refine lv_iconst (v := 1) hx hb dR_holds_59 (by decide) ?_
            refine lv_icmp_le (tgt := 67) hx hb dR_holds_60 (by decide) (fun c_24 => ?_) (fun c_24 => ?_)
            · refine lv_iload hx hb dR_holds_67 (lv_at hl 0 rfl) ?_
              refine lv_if_eq (tgt := 76) hx hb dR_holds_69 (by decide) (fun c_25 => ?_) (fun c_25 => ?_)
              · refine lv_iconst (v := 2) hx hb dR_holds_76 (by decide) ?_
                refine va_put (D := (dC, dI)) (ci := 3) (v := .int 2) (ty := .int) (C := xR_R) (T := xF_R) (N := 20) hx hb hts xi_R xt_R xt_R_ok xn_R hown hK hP hD hS 0 rfl rfl 0 (by decide) (hts _ xk_646) (fun _ h9 => h9) rfl (by decide +kernel) rfl rfl (Nat.le_of_ble_eq_true rfl) dR_holds_77 (fun H locs hP hD hS => ?_)
                have hP : va_P (dC, dI) classes [(h0, .inr (3, [.int 2, .ref ta, .int zs, .int po, .int fa, .ref da, .ref ra, .ref la, .long we, .long le, .int pk, .int pm, .int co, .ref pa, .int pl, .ref xa, .ref ya, .int mb, .ref ea, .ref wa])), (ra, .inl (cI, 28, .inl rf))] H := hP
                have hD : va_D A [(h0, .inr (3, [.int 2, .ref ta, .int zs, .int po, .int fa, .ref da, .ref ra, .ref la, .long we, .long le, .int pk, .int pm, .int co, .ref pa, .int pl, .ref xa, .ref ya, .int mb, .ref ea, .ref wa])), (ra, .inl (cI, 28, .inl rf))] := hD
                refine lv_aload_n hx hb dR_holds_80 rfl (lv_at hl 1 rfl) ?_
                refine va_get (D := (dC, dI)) (ci := 3) (v := .int 2) (C := xR_R) (T := xF_R) (N := 20) hx hb hts xi_R hown hK hP 0 rfl rfl 0 (by decide) (hts _ xk_646) (fun _ h9 => h9) rfl dR_holds_81 ?_
                refine lv_if_le (tgt := 89) hx hb dR_holds_84 (by decide) (fun c_26 => ?_) (fun c_26 => ?_)
                · exact absurd c_26 (by decide)
                · refine lv_lconst (v := 0) hx hb dR_holds_87 (by decide) ?_
                  have e_0 : gR_holds rf we kind a b angle part = (0 : Int64) := (if_pos c_1).trans ((if_pos c_10).trans ((if_neg c_19).trans ((if_pos c_20).trans ((if_neg c_22).trans ((if_pos c_24).trans (rfl))))))
                  have e_1 : gR_holds_0 rf we kind a b angle part = (2 : Int32) := (if_pos c_1).trans ((if_pos c_10).trans ((if_neg c_19).trans ((if_pos c_20).trans ((if_neg c_22).trans ((if_pos c_24).trans (rfl))))))
                  have hP9 := hP.sub (ws' := [(h0, .inr (3, [.int 2, .ref ta, .int zs, .int po, .int fa, .ref da, .ref ra, .ref la, .long we, .long le, .int pk, .int pm, .int co, .ref pa, .int pl, .ref xa, .ref ya, .int mb, .ref ea, .ref wa])), (ra, .inl (cI, 28, .inl rf))]) [0, 1] rfl
                  have hD9 := hD.sub (ws' := [(h0, .inr (3, [.int 2, .ref ta, .int zs, .int po, .int fa, .ref da, .ref ra, .ref la, .long we, .long le, .int pk, .int pm, .int co, .ref pa, .int pl, .ref xa, .ref ya, .int mb, .ref ea, .ref wa])), (ra, .inl (cI, 28, .inl rf))]) [0, 1] (by decide) rfl
                  exact W.lret (v := 0) hx hb hr (fun t ht hW => ⟨_, _, rfl, ⟨by first | rfl | (simp only [e_0, e_1]; try rfl), by first | rfl | (simp only [e_0, e_1]; try rfl)⟩, by rw [ht]; exact hP9, hD9, hS.F ht⟩) hS.2.2 dR_holds_88
              · exact absurd c_25 (by decide)
            · refine lv_iconst (v := 1) hx hb dR_holds_63 (by decide) ?_
              refine lv_goto (tgt := 77) hx hb dR_holds_64 (by decide) ?_
              refine va_put (D := (dC, dI)) (ci := 3) (v := .int 1) (ty := .int) (C := xR_R) (T := xF_R) (N := 20) hx hb hts xi_R xt_R xt_R_ok xn_R hown hK hP hD hS 0 rfl rfl 0 (by decide) (hts _ xk_646) (fun _ h9 => h9) rfl (by decide +kernel) rfl rfl (Nat.le_of_ble_eq_true rfl) dR_holds_77 (fun H locs hP hD hS => ?_)
              have hP : va_P (dC, dI) classes [(h0, .inr (3, [.int 1, .ref ta, .int zs, .int po, .int fa, .ref da, .ref ra, .ref la, .long we, .long le, .int pk, .int pm, .int co, .ref pa, .int pl, .ref xa, .ref ya, .int mb, .ref ea, .ref wa])), (ra, .inl (cI, 28, .inl rf))] H := hP
              have hD : va_D A [(h0, .inr (3, [.int 1, .ref ta, .int zs, .int po, .int fa, .ref da, .ref ra, .ref la, .long we, .long le, .int pk, .int pm, .int co, .ref pa, .int pl, .ref xa, .ref ya, .int mb, .ref ea, .ref wa])), (ra, .inl (cI, 28, .inl rf))] := hD
              refine lv_aload_n hx hb dR_holds_80 rfl (lv_at hl 1 rfl) ?_
              refine va_get (D := (dC, dI)) (ci := 3) (v := .int 1) (C := xR_R) (T := xF_R) (N := 20) hx hb hts xi_R hown hK hP 0 rfl rfl 0 (by decide) (hts _ xk_646) (fun _ h9 => h9) rfl dR_holds_81 ?_
              refine lv_if_le (tgt := 89) hx hb dR_holds_84 (by decide) (fun c_27 => ?_) (fun c_27 => ?_)
              · exact absurd c_27 (by decide)
              · refine lv_lconst (v := 0) hx hb dR_holds_87 (by decide) ?_
                have e_0 : gR_holds rf we kind a b angle part = (0 : Int64) := (if_pos c_1).trans ((if_pos c_10).trans ((if_neg c_19).trans ((if_pos c_20).trans ((if_neg c_22).trans ((if_neg c_24).trans (rfl))))))
                have e_1 : gR_holds_0 rf we kind a b angle part = (1 : Int32) := (if_pos c_1).trans ((if_pos c_10).trans ((if_neg c_19).trans ((if_pos c_20).trans ((if_neg c_22).trans ((if_neg c_24).trans (rfl))))))
                have hP9 := hP.sub (ws' := [(h0, .inr (3, [.int 1, .ref ta, .int zs, .int po, .int fa, .ref da, .ref ra, .ref la, .long we, .long le, .int pk, .int pm, .int co, .ref pa, .int pl, .ref xa, .ref ya, .int mb, .ref ea, .ref wa])), (ra, .inl (cI, 28, .inl rf))]) [0, 1] rfl
                have hD9 := hD.sub (ws' := [(h0, .inr (3, [.int 1, .ref ta, .int zs, .int po, .int fa, .ref da, .ref ra, .ref la, .long we, .long le, .int pk, .int pm, .int co, .ref pa, .int pl, .ref xa, .ref ya, .int mb, .ref ea, .ref wa])), (ra, .inl (cI, 28, .inl rf))]) [0, 1] (by decide) rfl
                exact W.lret (v := 0) hx hb hr (fun t ht hW => ⟨_, _, rfl, ⟨by first | rfl | (simp only [e_0, e_1]; try rfl), by first | rfl | (simp only [e_0, e_1]; try rfl)⟩, by rw [ht]; exact hP9, hD9, hS.F ht⟩) hS.2.2 dR_holds_88
      · have c_19 := xb_bi_t.mp c_19
        refine lv_iconst (v := 1) hx hb dR_holds_37 (by decide) ?_
        refine lv_goto (tgt := 42) hx hb dR_holds_38 (by decide) ?_
        refine lv_istore (lv' := [(6, .int 1), (0, .ref h0), (1, .int kind), (2, .int a), (3, .int b), (4, .int angle), (5, .int part)]) hx hb dR_holds_42 hl (by decide) rfl (fun ls hl => ?_)
        refine lv_aload_n hx hb dR_holds_44 rfl (lv_at hl 1 rfl) ?_
        refine lv_iload_n hx hb dR_holds_45 rfl (lv_at hl 2 rfl) ?_
        refine xb_rd (W.runS (As := [.int kind]) (rest := [.ref h0]) ⟨hx, hb, hml, hown, hts⟩ (cR_isFour l E kind) (cwS 1 hts (xb_gi (List.forall_mem_cons.mpr ⟨xk_750, List.forall_mem_cons.mpr ⟨xk_751, List.forall_mem_cons.mpr ⟨xk_45, List.forall_mem_cons.mpr ⟨xk_752, fun _ h => absurd h List.not_mem_nil⟩⟩⟩⟩)) rfl rfl rfl (by decide +kernel) ⟨Nat.le_of_ble_eq_true rfl, Nat.le_of_ble_eq_true rfl⟩) ⟨fun _ _ _ _ q => q, fun U hU hW => ⟨rfl, xb_atS hAt hS hA0 hU hW, fun k q h => by simp at h⟩⟩ rfl rfl hl.1 rfl (lv_room (Nat.le_of_ble_eq_true rfl)) dR_holds_46 ⟨Nat.zero_le _, Nat.zero_le _⟩) ?_
        refine lv_if_eq (tgt := 63) hx hb dR_holds_49 (by decide) (fun c_28 => ?_) (fun c_28 => ?_)
        · have c_28 := xb_bi_f.mp c_28
          refine lv_iconst (v := 1) hx hb dR_holds_63 (by decide) ?_
          refine lv_goto (tgt := 77) hx hb dR_holds_64 (by decide) ?_
          refine va_put (D := (dC, dI)) (ci := 3) (v := .int 1) (ty := .int) (C := xR_R) (T := xF_R) (N := 20) hx hb hts xi_R xt_R xt_R_ok xn_R hown hK hP hD hS 0 rfl rfl 0 (by decide) (hts _ xk_646) (fun _ h9 => h9) rfl (by decide +kernel) rfl rfl (Nat.le_of_ble_eq_true rfl) dR_holds_77 (fun H locs hP hD hS => ?_)
          have hP : va_P (dC, dI) classes [(h0, .inr (3, [.int 1, .ref ta, .int zs, .int po, .int fa, .ref da, .ref ra, .ref la, .long we, .long le, .int pk, .int pm, .int co, .ref pa, .int pl, .ref xa, .ref ya, .int mb, .ref ea, .ref wa])), (ra, .inl (cI, 28, .inl rf))] H := hP
          have hD : va_D A [(h0, .inr (3, [.int 1, .ref ta, .int zs, .int po, .int fa, .ref da, .ref ra, .ref la, .long we, .long le, .int pk, .int pm, .int co, .ref pa, .int pl, .ref xa, .ref ya, .int mb, .ref ea, .ref wa])), (ra, .inl (cI, 28, .inl rf))] := hD
          refine lv_aload_n hx hb dR_holds_80 rfl (lv_at hl 1 rfl) ?_
          refine va_get (D := (dC, dI)) (ci := 3) (v := .int 1) (C := xR_R) (T := xF_R) (N := 20) hx hb hts xi_R hown hK hP 0 rfl rfl 0 (by decide) (hts _ xk_646) (fun _ h9 => h9) rfl dR_holds_81 ?_
          refine lv_if_le (tgt := 89) hx hb dR_holds_84 (by decide) (fun c_29 => ?_) (fun c_29 => ?_)
          · exact absurd c_29 (by decide)
          · refine lv_lconst (v := 0) hx hb dR_holds_87 (by decide) ?_
            have e_0 : gR_holds rf we kind a b angle part = (0 : Int64) := (if_pos c_1).trans ((if_pos c_10).trans ((if_pos c_19).trans ((if_neg c_28).trans (rfl))))
            have e_1 : gR_holds_0 rf we kind a b angle part = (1 : Int32) := (if_pos c_1).trans ((if_pos c_10).trans ((if_pos c_19).trans ((if_neg c_28).trans (rfl))))
            have hP9 := hP.sub (ws' := [(h0, .inr (3, [.int 1, .ref ta, .int zs, .int po, .int fa, .ref da, .ref ra, .ref la, .long we, .long le, .int pk, .int pm, .int co, .ref pa, .int pl, .ref xa, .ref ya, .int mb, .ref ea, .ref wa])), (ra, .inl (cI, 28, .inl rf))]) [0, 1] rfl
            have hD9 := hD.sub (ws' := [(h0, .inr (3, [.int 1, .ref ta, .int zs, .int po, .int fa, .ref da, .ref ra, .ref la, .long we, .long le, .int pk, .int pm, .int co, .ref pa, .int pl, .ref xa, .ref ya, .int mb, .ref ea, .ref wa])), (ra, .inl (cI, 28, .inl rf))]) [0, 1] (by decide) rfl
            exact W.lret (v := 0) hx hb hr (fun t ht hW => ⟨_, _, rfl, ⟨by first | rfl | (simp only [e_0, e_1]; try rfl), by first | rfl | (simp only [e_0, e_1]; try rfl)⟩, by rw [ht]; exact hP9, hD9, hS.F ht⟩) hS.2.2 dR_holds_88
        · have c_28 := xb_bi_t.mp c_28
          refine lv_iload hx hb dR_holds_52 (lv_at hl 6 rfl) ?_
          refine lv_if_lt (tgt := 63) hx hb dR_holds_54 (by decide) (fun c_30 => ?_) (fun c_30 => ?_)
          · refine lv_iconst (v := 1) hx hb dR_holds_63 (by decide) ?_
            refine lv_goto (tgt := 77) hx hb dR_holds_64 (by decide) ?_
            refine va_put (D := (dC, dI)) (ci := 3) (v := .int 1) (ty := .int) (C := xR_R) (T := xF_R) (N := 20) hx hb hts xi_R xt_R xt_R_ok xn_R hown hK hP hD hS 0 rfl rfl 0 (by decide) (hts _ xk_646) (fun _ h9 => h9) rfl (by decide +kernel) rfl rfl (Nat.le_of_ble_eq_true rfl) dR_holds_77 (fun H locs hP hD hS => ?_)
            have hP : va_P (dC, dI) classes [(h0, .inr (3, [.int 1, .ref ta, .int zs, .int po, .int fa, .ref da, .ref ra, .ref la, .long we, .long le, .int pk, .int pm, .int co, .ref pa, .int pl, .ref xa, .ref ya, .int mb, .ref ea, .ref wa])), (ra, .inl (cI, 28, .inl rf))] H := hP
            have hD : va_D A [(h0, .inr (3, [.int 1, .ref ta, .int zs, .int po, .int fa, .ref da, .ref ra, .ref la, .long we, .long le, .int pk, .int pm, .int co, .ref pa, .int pl, .ref xa, .ref ya, .int mb, .ref ea, .ref wa])), (ra, .inl (cI, 28, .inl rf))] := hD
            refine lv_aload_n hx hb dR_holds_80 rfl (lv_at hl 1 rfl) ?_
            refine va_get (D := (dC, dI)) (ci := 3) (v := .int 1) (C := xR_R) (T := xF_R) (N := 20) hx hb hts xi_R hown hK hP 0 rfl rfl 0 (by decide) (hts _ xk_646) (fun _ h9 => h9) rfl dR_holds_81 ?_
            refine lv_if_le (tgt := 89) hx hb dR_holds_84 (by decide) (fun c_31 => ?_) (fun c_31 => ?_)
            · exact absurd c_31 (by decide)
            · refine lv_lconst (v := 0) hx hb dR_holds_87 (by decide) ?_
              have e_0 : gR_holds rf we kind a b angle part = (0 : Int64) := (if_pos c_1).trans ((if_pos c_10).trans ((if_pos c_19).trans ((if_pos c_28).trans ((if_pos c_30).trans (rfl)))))
              have e_1 : gR_holds_0 rf we kind a b angle part = (1 : Int32) := (if_pos c_1).trans ((if_pos c_10).trans ((if_pos c_19).trans ((if_pos c_28).trans ((if_pos c_30).trans (rfl)))))
              have hP9 := hP.sub (ws' := [(h0, .inr (3, [.int 1, .ref ta, .int zs, .int po, .int fa, .ref da, .ref ra, .ref la, .long we, .long le, .int pk, .int pm, .int co, .ref pa, .int pl, .ref xa, .ref ya, .int mb, .ref ea, .ref wa])), (ra, .inl (cI, 28, .inl rf))]) [0, 1] rfl
              have hD9 := hD.sub (ws' := [(h0, .inr (3, [.int 1, .ref ta, .int zs, .int po, .int fa, .ref da, .ref ra, .ref la, .long we, .long le, .int pk, .int pm, .int co, .ref pa, .int pl, .ref xa, .ref ya, .int mb, .ref ea, .ref wa])), (ra, .inl (cI, 28, .inl rf))]) [0, 1] (by decide) rfl
              exact W.lret (v := 0) hx hb hr (fun t ht hW => ⟨_, _, rfl, ⟨by first | rfl | (simp only [e_0, e_1]; try rfl), by first | rfl | (simp only [e_0, e_1]; try rfl)⟩, by rw [ht]; exact hP9, hD9, hS.F ht⟩) hS.2.2 dR_holds_88
          · refine lv_iload hx hb dR_holds_57 (lv_at hl 6 rfl) ?_
            refine lv_iconst (v := 1) hx hb dR_holds_59 (by decide) ?_
            refine lv_icmp_le (tgt := 67) hx hb dR_holds_60 (by decide) (fun c_32 => ?_) (fun c_32 => ?_)
            · refine lv_iload hx hb dR_holds_67 (lv_at hl 0 rfl) ?_
              refine lv_if_eq (tgt := 76) hx hb dR_holds_69 (by decide) (fun c_33 => ?_) (fun c_33 => ?_)
              · exact absurd c_33 (by decide)
              · refine lv_iconst (v := 0) hx hb dR_holds_72 (by decide) ?_
                refine lv_goto (tgt := 77) hx hb dR_holds_73 (by decide) ?_
                refine va_put (D := (dC, dI)) (ci := 3) (v := .int 0) (ty := .int) (C := xR_R) (T := xF_R) (N := 20) hx hb hts xi_R xt_R xt_R_ok xn_R hown hK hP hD hS 0 rfl rfl 0 (by decide) (hts _ xk_646) (fun _ h9 => h9) rfl (by decide +kernel) rfl rfl (Nat.le_of_ble_eq_true rfl) dR_holds_77 (fun H locs hP hD hS => ?_)
                have hP : va_P (dC, dI) classes [(h0, .inr (3, [.int 0, .ref ta, .int zs, .int po, .int fa, .ref da, .ref ra, .ref la, .long we, .long le, .int pk, .int pm, .int co, .ref pa, .int pl, .ref xa, .ref ya, .int mb, .ref ea, .ref wa])), (ra, .inl (cI, 28, .inl rf))] H := hP
                have hD : va_D A [(h0, .inr (3, [.int 0, .ref ta, .int zs, .int po, .int fa, .ref da, .ref ra, .ref la, .long we, .long le, .int pk, .int pm, .int co, .ref pa, .int pl, .ref xa, .ref ya, .int mb, .ref ea, .ref wa])), (ra, .inl (cI, 28, .inl rf))] := hD
                refine lv_aload_n hx hb dR_holds_80 rfl (lv_at hl 1 rfl) ?_
                refine va_get (D := (dC, dI)) (ci := 3) (v := .int 0) (C := xR_R) (T := xF_R) (N := 20) hx hb hts xi_R hown hK hP 0 rfl rfl 0 (by decide) (hts _ xk_646) (fun _ h9 => h9) rfl dR_holds_81 ?_
                refine lv_if_le (tgt := 89) hx hb dR_holds_84 (by decide) (fun c_34 => ?_) (fun c_34 => ?_)
                · refine lv_iconst (v := 0) hx hb dR_holds_89 (by decide) ?_
                  refine lv_istore (lv' := [(7, .int 0), (6, .int 1), (0, .ref h0), (1, .int kind), (2, .int a), (3, .int b), (4, .int angle), (5, .int part)]) hx hb dR_holds_90 hl (by decide) rfl (fun ls hl => ?_)
                  refine lv_iconst (v := 1) hx hb dR_holds_92 (by decide) ?_
                  refine lv_istore (lv' := [(8, .int 1), (7, .int 0), (6, .int 1), (0, .ref h0), (1, .int kind), (2, .int a), (3, .int b), (4, .int angle), (5, .int part)]) hx hb dR_holds_93 hl (by decide) rfl (fun ls hl => ?_)
                  have lp_95 : ∀ (n_95 : Nat) (be : Int32) (wh : Int32), (xl_c 1 4 n_95 wh) → gR_holds rf we kind a b angle part = kR_holds_95_0 rf we kind a b angle part n_95 be wh → gR_holds_0 rf we kind a b angle part = kR_holds_95_1 rf we kind a b angle part n_95 be wh → ∀ (H : Heap) (locs : List Loc), va_P (dC, dI) classes [(h0, .inr (3, [.int 0, .ref ta, .int zs, .int po, .int fa, .ref da, .ref ra, .ref la, .long we, .long le, .int pk, .int pm, .int co, .ref pa, .int pl, .ref xa, .ref ya, .int mb, .ref ea, .ref wa])), (ra, .inl (cI, 28, .inl rf))] H → va_D A [(h0, .inr (3, [.int 0, .ref ta, .int zs, .int po, .int fa, .ref da, .ref ra, .ref la, .long we, .long le, .int pk, .int pm, .int co, .ref pa, .int pl, .ref xa, .ref ya, .int mb, .ref ea, .ref wa])), (ra, .inl (cI, 28, .inl rf))] → va_S A s.heap H locs → ∀ ls : Array Slot, lv_has ls 9 [(7, .int be), (8, .int wh), (6, .int 1), (0, .ref h0), (1, .int kind), (2, .int a), (3, .int b), (4, .int angle), (5, .int part)] → W p l e (headSpec [.code yR_holds bR_holds 9 (some (.long))] ({ frames := 1, cells := 0, slots := 0, locals := 30 })).room s m ([.ref h0, .int kind, .int a, .int b, .int angle, .int part] : List Value).toArray below meth c H locs 0 0 (MQ below (xb_W (dC, dI) (fun v w => v = some (.long (gR_holds rf we kind a b angle part)) ∧ w = [(h0, .inr (3, [.int (gR_holds_0 rf we kind a b angle part), .ref ta, .int zs, .int po, .int fa, .ref da, .ref ra, .ref la, .long we, .long le, .int pk, .int pm, .int co, .ref pa, .int pl, .ref xa, .ref ya, .int mb, .ref ea, .ref wa])), (ra, .inl (cI, 28, .inl rf))]) A) ([.ref h0, .int kind, .int a, .int b, .int angle, .int part] : List Value).toArray s 0 0 A) (F0 m 95 ls []) := by
                    intro n_95
                    induction n_95 with
                    | zero =>
                      intro be wh hinv_95
                      exact xl_0 hinv_95
                    | succ n_95 ih_95 =>
                      intro be wh hinv_95 hres_95_0 hres_95_1 H locs hP hD hS ls hl
                      refine lv_iload hx hb dR_holds_95 (lv_at hl 1 rfl) ?_
                      refine lv_iconst (v := 4) hx hb dR_holds_97 (by decide) ?_
                      refine lv_icmp_ge (tgt := 142) hx hb dR_holds_98 (by decide) (fun c_35 => ?_) (fun c_35 => ?_)
                      · refine lv_iload hx hb dR_holds_142 (lv_at hl 8 rfl) ?_
                        refine lv_iconst (v := 1) hx hb dR_holds_144 (by decide) ?_
                        refine lv_icmp_ne (tgt := 154) hx hb dR_holds_145 (by decide) (fun c_36 => ?_) (fun c_36 => ?_)
                        · refine lv_aload_n hx hb dR_holds_154 rfl (lv_at hl 3 rfl) ?_
                          refine lv_iload_n hx hb dR_holds_155 rfl (lv_at hl 4 rfl) ?_
                          refine lv_iload hx hb dR_holds_156 (lv_at hl 0 rfl) ?_
                          refine lv_iload_n hx hb dR_holds_158 rfl (lv_at hl 5 rfl) ?_
                          refine lv_i2l hx hb dR_holds_159 rfl ?_
                          refine lv_iload_n hx hb dR_holds_160 rfl (lv_at hl 6 rfl) ?_
                          refine lv_i2l hx hb dR_holds_161 rfl ?_
                          refine xb_rd (W.runV (C := "NailRulesModel") (As := [.int kind, .int be, .long a.toInt64, .long b.toInt64]) (rest := []) ⟨hx, hb, hml, hown, hts⟩ (cR_formula l E h0 ([.int 0, .ref ta, .int zs, .int po, .int fa, .ref da, .ref ra, .ref la, .long we, .long le, .int pk, .int pm, .int co, .ref pa, .int pl, .ref xa, .ref ya, .int mb, .ref ea, .ref wa]) ra rf kind be a.toInt64 b.toInt64 rfl (xp_rul0 (by assumption)) (xp_rulN 1 (by decide) (by assumption))) (cwV 4 hts (xb_gi (List.forall_mem_cons.mpr ⟨xk_767, List.forall_mem_cons.mpr ⟨xk_769, List.forall_mem_cons.mpr ⟨xk_34, List.forall_mem_cons.mpr ⟨xk_45, List.forall_mem_cons.mpr ⟨xk_770, fun _ h => absurd h List.not_mem_nil⟩⟩⟩⟩⟩)) rfl rfl rfl (by decide +kernel) ⟨Nat.le_of_ble_eq_true rfl, Nat.le_of_ble_eq_true rfl⟩) ⟨fun _ _ _ _ q => q, va_recv hK hP (ci := 3) (q0 := 0) rfl rfl, fun U hU hW => ⟨rfl, xb_atS hAt hS hA0 hU hW, by rw [hU]; exact hP.sub (ws' := [(h0, .inr (3, [.int 0, .ref ta, .int zs, .int po, .int fa, .ref da, .ref ra, .ref la, .long we, .long le, .int pk, .int pm, .int co, .ref pa, .int pl, .ref xa, .ref ya, .int mb, .ref ea, .ref wa])), (ra, .inl (cI, 28, .inl rf))]) [0, 1] rfl⟩⟩ rfl rfl hl.1 rfl (lv_room (Nat.le_of_ble_eq_true rfl)) dR_holds_162 ⟨Nat.zero_le _, Nat.zero_le _⟩) ?_
                          refine lv_ldc2 (v := 200) hx hb hown (hts _ xk_772) dR_holds_165 ?_
                          refine lv_iload hx hb dR_holds_168 (lv_at hl 7 rfl) ?_
                          refine lv_i2l hx hb dR_holds_170 rfl ?_
                          refine lv_lsub hx hb dR_holds_171 ?_
                          refine lv_lmul hx hb dR_holds_172 ?_
                          refine lv_ldc2 (v := 200) hx hb hown (hts _ xk_772) dR_holds_173 ?_
                          refine lv_ldiv hx hb dR_holds_176 (by decide) ?_
                          refine lv_aload_n hx hb dR_holds_177 rfl (lv_at hl 3 rfl) ?_
                          refine va_get (D := (dC, dI)) (ci := 3) (v := .long we) (C := xR_R) (T := xF_R) (N := 20) hx hb hts xi_R hown hK hP 0 rfl rfl 8 (by decide) (hts _ xk_654) (fun _ h9 => h9) rfl dR_holds_178 ?_
                          refine lv_lmul hx hb dR_holds_181 ?_
                          refine lv_ldc2 (v := 100) hx hb hown (hts _ xk_644) dR_holds_182 ?_
                          refine lv_ldiv hx hb dR_holds_185 (by decide) ?_
                          have e_0 : gR_holds rf we kind a b angle part = (((((fR_formula rf kind be a.toInt64 b.toInt64) * (200 - angle.toInt64)) / 200) * we) / 100) := hres_95_0.trans ((if_pos c_35).trans ((if_neg c_36).trans (rfl)))
                          have e_1 : gR_holds_0 rf we kind a b angle part = (0 : Int32) := hres_95_1.trans ((if_pos c_35).trans ((if_neg c_36).trans (rfl)))
                          have hP9 := hP.sub (ws' := [(h0, .inr (3, [.int 0, .ref ta, .int zs, .int po, .int fa, .ref da, .ref ra, .ref la, .long we, .long le, .int pk, .int pm, .int co, .ref pa, .int pl, .ref xa, .ref ya, .int mb, .ref ea, .ref wa])), (ra, .inl (cI, 28, .inl rf))]) [0, 1] rfl
                          have hD9 := hD.sub (ws' := [(h0, .inr (3, [.int 0, .ref ta, .int zs, .int po, .int fa, .ref da, .ref ra, .ref la, .long we, .long le, .int pk, .int pm, .int co, .ref pa, .int pl, .ref xa, .ref ya, .int mb, .ref ea, .ref wa])), (ra, .inl (cI, 28, .inl rf))]) [0, 1] (by decide) rfl
                          exact W.lret (v := (((((fR_formula rf kind be a.toInt64 b.toInt64) * (200 - angle.toInt64)) / 200) * we) / 100)) hx hb hr (fun t ht hW => ⟨_, _, rfl, ⟨by first | rfl | (simp only [e_0, e_1]; try rfl), by first | rfl | (simp only [e_0, e_1]; try rfl)⟩, by rw [ht]; exact hP9, hD9, hS.F ht⟩) hS.2.2 dR_holds_186
                        · refine lv_iload hx hb dR_holds_148 (lv_at hl 0 rfl) ?_
                          refine lv_i2l hx hb dR_holds_150 rfl ?_
                          refine lv_goto (tgt := 186) hx hb dR_holds_151 (by decide) ?_
                          have e_0 : gR_holds rf we kind a b angle part = be.toInt64 := hres_95_0.trans ((if_pos c_35).trans ((if_pos c_36).trans (rfl)))
                          have e_1 : gR_holds_0 rf we kind a b angle part = (0 : Int32) := hres_95_1.trans ((if_pos c_35).trans ((if_pos c_36).trans (rfl)))
                          have hP9 := hP.sub (ws' := [(h0, .inr (3, [.int 0, .ref ta, .int zs, .int po, .int fa, .ref da, .ref ra, .ref la, .long we, .long le, .int pk, .int pm, .int co, .ref pa, .int pl, .ref xa, .ref ya, .int mb, .ref ea, .ref wa])), (ra, .inl (cI, 28, .inl rf))]) [0, 1] rfl
                          have hD9 := hD.sub (ws' := [(h0, .inr (3, [.int 0, .ref ta, .int zs, .int po, .int fa, .ref da, .ref ra, .ref la, .long we, .long le, .int pk, .int pm, .int co, .ref pa, .int pl, .ref xa, .ref ya, .int mb, .ref ea, .ref wa])), (ra, .inl (cI, 28, .inl rf))]) [0, 1] (by decide) rfl
                          exact W.lret (v := be.toInt64) hx hb hr (fun t ht hW => ⟨_, _, rfl, ⟨by first | rfl | (simp only [e_0, e_1]; try rfl), by first | rfl | (simp only [e_0, e_1]; try rfl)⟩, by rw [ht]; exact hP9, hD9, hS.F ht⟩) hS.2.2 dR_holds_186
                      · refine lv_aload_n hx hb dR_holds_101 rfl (lv_at hl 3 rfl) ?_
                        refine lv_iload_n hx hb dR_holds_102 rfl (lv_at hl 4 rfl) ?_
                        refine lv_iload hx hb dR_holds_103 (lv_at hl 1 rfl) ?_
                        refine lv_iload_n hx hb dR_holds_105 rfl (lv_at hl 5 rfl) ?_
                        refine lv_i2l hx hb dR_holds_106 rfl ?_
                        refine lv_iload_n hx hb dR_holds_107 rfl (lv_at hl 6 rfl) ?_
                        refine lv_i2l hx hb dR_holds_108 rfl ?_
                        refine xb_rd (W.runV (C := "NailRulesModel") (As := [.int kind, .int wh, .long a.toInt64, .long b.toInt64]) (rest := []) ⟨hx, hb, hml, hown, hts⟩ (cR_formula l E h0 ([.int 0, .ref ta, .int zs, .int po, .int fa, .ref da, .ref ra, .ref la, .long we, .long le, .int pk, .int pm, .int co, .ref pa, .int pl, .ref xa, .ref ya, .int mb, .ref ea, .ref wa]) ra rf kind wh a.toInt64 b.toInt64 rfl (xp_rul0 (by assumption)) (xp_rulN 1 (by decide) (by assumption))) (cwV 4 hts (xb_gi (List.forall_mem_cons.mpr ⟨xk_767, List.forall_mem_cons.mpr ⟨xk_769, List.forall_mem_cons.mpr ⟨xk_34, List.forall_mem_cons.mpr ⟨xk_45, List.forall_mem_cons.mpr ⟨xk_770, fun _ h => absurd h List.not_mem_nil⟩⟩⟩⟩⟩)) rfl rfl rfl (by decide +kernel) ⟨Nat.le_of_ble_eq_true rfl, Nat.le_of_ble_eq_true rfl⟩) ⟨fun _ _ _ _ q => q, va_recv hK hP (ci := 3) (q0 := 0) rfl rfl, fun U hU hW => ⟨rfl, xb_atS hAt hS hA0 hU hW, by rw [hU]; exact hP.sub (ws' := [(h0, .inr (3, [.int 0, .ref ta, .int zs, .int po, .int fa, .ref da, .ref ra, .ref la, .long we, .long le, .int pk, .int pm, .int co, .ref pa, .int pl, .ref xa, .ref ya, .int mb, .ref ea, .ref wa])), (ra, .inl (cI, 28, .inl rf))]) [0, 1] rfl⟩⟩ rfl rfl hl.1 rfl (lv_room (Nat.le_of_ble_eq_true rfl)) dR_holds_109 ⟨Nat.zero_le _, Nat.zero_le _⟩) ?_
                        refine lv_aload_n hx hb dR_holds_112 rfl (lv_at hl 3 rfl) ?_
                        refine lv_iload_n hx hb dR_holds_113 rfl (lv_at hl 4 rfl) ?_
                        refine lv_iload hx hb dR_holds_114 (lv_at hl 0 rfl) ?_
                        refine lv_iload_n hx hb dR_holds_116 rfl (lv_at hl 5 rfl) ?_
                        refine lv_i2l hx hb dR_holds_117 rfl ?_
                        refine lv_iload_n hx hb dR_holds_118 rfl (lv_at hl 6 rfl) ?_
                        refine lv_i2l hx hb dR_holds_119 rfl ?_
                        refine xb_rd (W.runV (C := "NailRulesModel") (As := [.int kind, .int be, .long a.toInt64, .long b.toInt64]) (rest := [.long (fR_formula rf kind wh a.toInt64 b.toInt64)]) ⟨hx, hb, hml, hown, hts⟩ (cR_formula l E h0 ([.int 0, .ref ta, .int zs, .int po, .int fa, .ref da, .ref ra, .ref la, .long we, .long le, .int pk, .int pm, .int co, .ref pa, .int pl, .ref xa, .ref ya, .int mb, .ref ea, .ref wa]) ra rf kind be a.toInt64 b.toInt64 rfl (xp_rul0 (by assumption)) (xp_rulN 1 (by decide) (by assumption))) (cwV 4 hts (xb_gi (List.forall_mem_cons.mpr ⟨xk_767, List.forall_mem_cons.mpr ⟨xk_769, List.forall_mem_cons.mpr ⟨xk_34, List.forall_mem_cons.mpr ⟨xk_45, List.forall_mem_cons.mpr ⟨xk_770, fun _ h => absurd h List.not_mem_nil⟩⟩⟩⟩⟩)) rfl rfl rfl (by decide +kernel) ⟨Nat.le_of_ble_eq_true rfl, Nat.le_of_ble_eq_true rfl⟩) ⟨fun _ _ _ _ q => q, va_recv hK hP (ci := 3) (q0 := 0) rfl rfl, fun U hU hW => ⟨rfl, xb_atS hAt hS hA0 hU hW, by rw [hU]; exact hP.sub (ws' := [(h0, .inr (3, [.int 0, .ref ta, .int zs, .int po, .int fa, .ref da, .ref ra, .ref la, .long we, .long le, .int pk, .int pm, .int co, .ref pa, .int pl, .ref xa, .ref ya, .int mb, .ref ea, .ref wa])), (ra, .inl (cI, 28, .inl rf))]) [0, 1] rfl⟩⟩ rfl rfl hl.1 rfl (lv_room (Nat.le_of_ble_eq_true rfl)) dR_holds_120 ⟨Nat.zero_le _, Nat.zero_le _⟩) ?_
                        refine W.lcmp hx hb dR_holds_123 ?_
                        refine lv_if_ge (tgt := 132) hx hb dR_holds_124 (by decide) (fun c_37 => ?_) (fun c_37 => ?_)
                        · have c_37 := (lg_cmp_ge _ _).mp c_37
                          refine lv_iload hx hb dR_holds_132 (lv_at hl 0 rfl) ?_
                          refine lv_istore (lv' := [(7, .int be), (8, .int wh), (6, .int 1), (0, .ref h0), (1, .int kind), (2, .int a), (3, .int b), (4, .int angle), (5, .int part)]) hx hb dR_holds_134 hl (by decide) rfl (fun ls hl => ?_)
                          refine lv_iinc (v := wh + 1) (lv' := [(8, .int (wh + 1)), (7, .int be), (6, .int 1), (0, .ref h0), (1, .int kind), (2, .int a), (3, .int b), (4, .int angle), (5, .int part)]) hx hb dR_holds_136 hl (k := 1) rfl rfl (by decide) rfl (fun ls hl => ?_)
                          refine lv_goto (tgt := 95) hx hb dR_holds_139 (by decide) ?_
                          exact ih_95 be (wh + 1) (xl_s1 (b := 4) hinv_95 (by decide) (by decide) (by assumption)) (hres_95_0.trans ((if_neg c_35).trans ((if_pos c_37).trans (rfl)))) (hres_95_1.trans ((if_neg c_35).trans ((if_pos c_37).trans (rfl)))) _ _ (hP.sub [0, 1] rfl) (hD.sub [0, 1] (by decide) rfl) hS ls (lv_sub hl [1, 0, 2, 3, 4, 5, 6, 7, 8] rfl)
                        · have c_37 := fun q => c_37 ((lg_cmp_ge _ _).mpr q)
                          refine lv_iload hx hb dR_holds_127 (lv_at hl 1 rfl) ?_
                          refine lv_goto (tgt := 134) hx hb dR_holds_129 (by decide) ?_
                          refine lv_istore (lv' := [(7, .int wh), (8, .int wh), (6, .int 1), (0, .ref h0), (1, .int kind), (2, .int a), (3, .int b), (4, .int angle), (5, .int part)]) hx hb dR_holds_134 hl (by decide) rfl (fun ls hl => ?_)
                          refine lv_iinc (v := wh + 1) (lv' := [(8, .int (wh + 1)), (7, .int wh), (6, .int 1), (0, .ref h0), (1, .int kind), (2, .int a), (3, .int b), (4, .int angle), (5, .int part)]) hx hb dR_holds_136 hl (k := 1) rfl rfl (by decide) rfl (fun ls hl => ?_)
                          refine lv_goto (tgt := 95) hx hb dR_holds_139 (by decide) ?_
                          exact ih_95 wh (wh + 1) (xl_s1 (b := 4) hinv_95 (by decide) (by decide) (by assumption)) (hres_95_0.trans ((if_neg c_35).trans ((if_neg c_37).trans (rfl)))) (hres_95_1.trans ((if_neg c_35).trans ((if_neg c_37).trans (rfl)))) _ _ (hP.sub [0, 1] rfl) (hD.sub [0, 1] (by decide) rfl) hS ls (lv_sub hl [1, 0, 2, 3, 4, 5, 6, 7, 8] rfl)
                  exact lp_95 4 (0) (1) (⟨1, rfl, by omega, by omega, by omega⟩) ((if_pos c_1).trans ((if_pos c_10).trans ((if_pos c_19).trans ((if_pos c_28).trans ((if_neg c_30).trans ((if_pos c_32).trans (rfl))))))) ((if_pos c_1).trans ((if_pos c_10).trans ((if_pos c_19).trans ((if_pos c_28).trans ((if_neg c_30).trans ((if_pos c_32).trans (rfl))))))) _ _ (hP.sub [0, 1] rfl) (hD.sub [0, 1] (by decide) rfl) hS ls (lv_sub hl [1, 0, 2, 3, 4, 5, 6, 7, 8] rfl)
                · exact absurd c_34 (by decide)
            · refine lv_iconst (v := 1) hx hb dR_holds_63 (by decide) ?_
              refine lv_goto (tgt := 77) hx hb dR_holds_64 (by decide) ?_
              refine va_put (D := (dC, dI)) (ci := 3) (v := .int 1) (ty := .int) (C := xR_R) (T := xF_R) (N := 20) hx hb hts xi_R xt_R xt_R_ok xn_R hown hK hP hD hS 0 rfl rfl 0 (by decide) (hts _ xk_646) (fun _ h9 => h9) rfl (by decide +kernel) rfl rfl (Nat.le_of_ble_eq_true rfl) dR_holds_77 (fun H locs hP hD hS => ?_)
              have hP : va_P (dC, dI) classes [(h0, .inr (3, [.int 1, .ref ta, .int zs, .int po, .int fa, .ref da, .ref ra, .ref la, .long we, .long le, .int pk, .int pm, .int co, .ref pa, .int pl, .ref xa, .ref ya, .int mb, .ref ea, .ref wa])), (ra, .inl (cI, 28, .inl rf))] H := hP
              have hD : va_D A [(h0, .inr (3, [.int 1, .ref ta, .int zs, .int po, .int fa, .ref da, .ref ra, .ref la, .long we, .long le, .int pk, .int pm, .int co, .ref pa, .int pl, .ref xa, .ref ya, .int mb, .ref ea, .ref wa])), (ra, .inl (cI, 28, .inl rf))] := hD
              refine lv_aload_n hx hb dR_holds_80 rfl (lv_at hl 1 rfl) ?_
              refine va_get (D := (dC, dI)) (ci := 3) (v := .int 1) (C := xR_R) (T := xF_R) (N := 20) hx hb hts xi_R hown hK hP 0 rfl rfl 0 (by decide) (hts _ xk_646) (fun _ h9 => h9) rfl dR_holds_81 ?_
              refine lv_if_le (tgt := 89) hx hb dR_holds_84 (by decide) (fun c_38 => ?_) (fun c_38 => ?_)
              · exact absurd c_38 (by decide)
              · refine lv_lconst (v := 0) hx hb dR_holds_87 (by decide) ?_
                have e_0 : gR_holds rf we kind a b angle part = (0 : Int64) := (if_pos c_1).trans ((if_pos c_10).trans ((if_pos c_19).trans ((if_pos c_28).trans ((if_neg c_30).trans ((if_neg c_32).trans (rfl))))))
                have e_1 : gR_holds_0 rf we kind a b angle part = (1 : Int32) := (if_pos c_1).trans ((if_pos c_10).trans ((if_pos c_19).trans ((if_pos c_28).trans ((if_neg c_30).trans ((if_neg c_32).trans (rfl))))))
                have hP9 := hP.sub (ws' := [(h0, .inr (3, [.int 1, .ref ta, .int zs, .int po, .int fa, .ref da, .ref ra, .ref la, .long we, .long le, .int pk, .int pm, .int co, .ref pa, .int pl, .ref xa, .ref ya, .int mb, .ref ea, .ref wa])), (ra, .inl (cI, 28, .inl rf))]) [0, 1] rfl
                have hD9 := hD.sub (ws' := [(h0, .inr (3, [.int 1, .ref ta, .int zs, .int po, .int fa, .ref da, .ref ra, .ref la, .long we, .long le, .int pk, .int pm, .int co, .ref pa, .int pl, .ref xa, .ref ya, .int mb, .ref ea, .ref wa])), (ra, .inl (cI, 28, .inl rf))]) [0, 1] (by decide) rfl
                exact W.lret (v := 0) hx hb hr (fun t ht hW => ⟨_, _, rfl, ⟨by first | rfl | (simp only [e_0, e_1]; try rfl), by first | rfl | (simp only [e_0, e_1]; try rfl)⟩, by rw [ht]; exact hP9, hD9, hS.F ht⟩) hS.2.2 dR_holds_88
end
