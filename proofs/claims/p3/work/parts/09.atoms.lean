def xt_odd (w : Cond) : Bool := match w with
  | .declares x => decide (Cond.declares x ∈ lw_tbl)
  | .castable a b => decide (Cond.castable a b ∈ lw_tbl)
  | .laysStatic a b d => decide (Cond.laysStatic a b d ∈ lw_tbl)
  | .isRef (.static a b d) => decide (a = "java/lang/Throwable" ∧ ((b = "UNASSIGNED_STACK" ∧ d = "[Ljava/lang/StackTraceElement;") ∨ (b = "SUPPRESSED_SENTINEL" ∧ d = "Ljava/util/List;")))
  | _ => false
def xt_names : List String := ["java/lang/RuntimeException", "java/lang/Exception"]
theorem xt_a1 : (Bundle.ownAtoms "NailRules" 164 "java/lang/IndexOutOfBoundsException" xt_names).all (fun w => decide (w ∈ lw_gd) || xt_odd w) = true := by decide +kernel
theorem xt_a2 : (Bundle.ownAtoms "NailRules" 133 "java/lang/IllegalArgumentException" xt_names).all (fun w => decide (w ∈ lw_gd) || xt_odd w) = true := by decide +kernel
theorem xt_a3 : (Bundle.ownAtoms "NailRules" 113 "java/lang/IllegalStateException" xt_names).all (fun w => decide (w ∈ lw_gd) || xt_odd w) = true := by decide +kernel
abbrev xt_nar : List Cond := flatC (Jvm.Cond.and given_1 narrow_1)
theorem xt_n1 : (Cond.isRef (.static "java/lang/Throwable" "UNASSIGNED_STACK" "[Ljava/lang/StackTraceElement;")) ∈ xt_nar := by decide +kernel
theorem xt_n2 : (Cond.isRef (.static "java/lang/Throwable" "SUPPRESSED_SENTINEL" "Ljava/util/List;")) ∈ xt_nar := by decide +kernel
theorem xt_l1 : (Cond.laysStatic "java/lang/Throwable" "UNASSIGNED_STACK" "[Ljava/lang/StackTraceElement;") ∈ lw_tbl := by decide +kernel
theorem xt_l2 : (Cond.laysStatic "java/lang/Throwable" "SUPPRESSED_SENTINEL" "Ljava/util/List;") ∈ lw_tbl := by decide +kernel
theorem xt_l3 : (Cond.initialized "java/lang/Throwable") ∈ lw_tbl := by decide +kernel
theorem xt_atoms {l : Launch} {s0 U : State} {dC : Nat → ClassId} {dI : Nat → Nat → Nat} {tys : List (ClassId × FieldType)} (E : xb_Env l s0 dC dI tys) (h : xb_At s0 U) (a : Array Value) {ws : List Cond} (hall : ws.all (fun w => decide (w ∈ lw_gd) || xt_odd w) = true) : ∀ w ∈ ws, w.before a U = true := by
  intro w hw
  have h1 := List.all_eq_true.mp hall w hw
  rw [Bool.or_eq_true] at h1
  rcases h1 with h1 | h1
  · exact xb_hts E h a w (of_decide_eq_true h1)
  · obtain ⟨-, ⟨a0, hw0, hn0⟩, -⟩ := E
    unfold xt_odd at h1
    split at h1
    · exact va_Nw.use rfl (va_Nw.warmD h.1 (va_Nw.of rfl (hw0 _ (of_decide_eq_true h1))))
    · exact va_Nw.use rfl (va_Nw.warmC h.1 (va_Nw.of rfl (hw0 _ (of_decide_eq_true h1))))
    · exact xt_ls h (hw0 _ (of_decide_eq_true h1))
    · have h2 := of_decide_eq_true h1
      obtain ⟨rfl, ⟨rfl, rfl⟩ | ⟨rfl, rfl⟩⟩ := h2
      · exact xt_rs h (hw0 _ xt_l1) (hw0 _ xt_l3) (flat_of_before _ hn0 _ xt_n1)
      · exact xt_rs h (hw0 _ xt_l2) (hw0 _ xt_l3) (flat_of_before _ hn0 _ xt_n2)
    · cases h1
theorem xt_str {l : Launch} {s0 U : State} {dC : Nat → ClassId} {dI : Nat → Nat → Nat} {tys : List (ClassId × FieldType)} (E : xb_Env l s0 dC dI tys) (h : xb_At s0 U) {own tx : String} {k : Nat} (hw : Cond.stringRef own k tx ∈ lw_tbl) (hn : Cond.exactly (.string own k) "java/lang/String" ∈ xt_nar) : ∃ q, vk_R own k tx q U := by
  obtain ⟨-, ⟨a0, hw0, hn0⟩, -⟩ := E
  have h1 := flat_of_before _ hn0 _ hn
  obtain ⟨q, cc, cell, k1, h2, -⟩ := Cond.exactly_spec h1
  exact ⟨q, vk_R.warm h.1 (vk_R.of (hw0 _ hw) h2)⟩
