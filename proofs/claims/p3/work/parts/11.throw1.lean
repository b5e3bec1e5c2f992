theorem xs_111 : Cond.exactly (.string "NailRules" 111) "java/lang/String" ∈ xt_nar := by decide +kernel
theorem xs_116 : Cond.exactly (.string "NailRules" 116) "java/lang/String" ∈ xt_nar := by decide +kernel
theorem xs_131 : Cond.exactly (.string "NailRules" 131) "java/lang/String" ∈ xt_nar := by decide +kernel
theorem xs_137 : Cond.exactly (.string "NailRules" 137) "java/lang/String" ∈ xt_nar := by decide +kernel
theorem xs_158 : Cond.exactly (.string "NailRules" 158) "java/lang/String" ∈ xt_nar := by decide +kernel
theorem xs_162 : Cond.exactly (.string "NailRules" 162) "java/lang/String" ∈ xt_nar := by decide +kernel
theorem xs_165 : Cond.exactly (.string "NailRules" 165) "java/lang/String" ∈ xt_nar := by decide +kernel
theorem xs_209 : Cond.exactly (.string "NailRules" 209) "java/lang/String" ∈ xt_nar := by decide +kernel
theorem xs_210 : Cond.exactly (.string "NailRules" 210) "java/lang/String" ∈ xt_nar := by decide +kernel
theorem xs_212 : Cond.exactly (.string "NailRules" 212) "java/lang/String" ∈ xt_nar := by decide +kernel
theorem xs_214 : Cond.exactly (.string "NailRules" 214) "java/lang/String" ∈ xt_nar := by decide +kernel
theorem xs_216 : Cond.exactly (.string "NailRules" 216) "java/lang/String" ∈ xt_nar := by decide +kernel
theorem xs_218 : Cond.exactly (.string "NailRules" 218) "java/lang/String" ∈ xt_nar := by decide +kernel
theorem xs_220 : Cond.exactly (.string "NailRules" 220) "java/lang/String" ∈ xt_nar := by decide +kernel
set_option maxHeartbeats 4000000 in
set_option maxRecDepth 100000 in
theorem cN_requireIndex (l : Launch) {s0 : State} {dC : Nat → ClassId} {dI : Nat → Nat → Nat} {cI cC cL cO : ClassId} (E : xb_Env l s0 dC dI (xtys cI cC cL cO)) (i : Int32) (b : Int32) (h1 : ¬ i < 0) (h2 : i < b) : Met l yN_requireIndex [.code yN_requireIndex bN_requireIndex 2 none] ({ frames := 0, cells := 0, slots := 0, locals := 0 }) (va_Pc [.int i, .int b] (fun U => xb_At s0 U ∧ va_P (dC, dI) classes [] U.heap)) (xb_R (none)) 0 0 (fun _ => False) := by
  refine Met.ofW (cc := bN_requireIndex) (maxL := 2) (ret := none) (by decide) rfl ?_
  intro p e s m args below meth c s₁ B hml hv
  obtain ⟨rfl, hAt, hP⟩ := hv
  have hx := B.exec
  have hb := B.bytes
  have hr := B.returns
  have hts := xb_hts E hAt ([.int i, .int b] : List Value).toArray
  have hown : s.vm.findClass "NailRules" = some m.cls := findClass_of_methodNamed B.named
  have hlocks := B.notSynchronized
  have hK := xb_K E hAt
  have hl := lv_entry ([.int i, .int b]) (n := 2) (Nat.le_of_ble_eq_true rfl)
  rw [lg_entry_eq]
  generalize (lg_sl ([.int i, .int b]) ++ List.replicate (2 - (lg_sl ([.int i, .int b])).length) Slot.unset).toArray = ls at hl ⊢
  have hl : lv_has ls 2 [(0, .int i), (1, .int b)] := hl
  refine lv_iload_n hx hb dN_requireIndex_0 rfl (lv_at hl 0 rfl) ?_
  refine lv_if_lt (tgt := 9) hx hb dN_requireIndex_1 (by decide) (fun c_1 => ?_) (fun c_1 => ?_)
  · contradiction
  · refine lv_iload_n hx hb dN_requireIndex_4 rfl (lv_at hl 0 rfl) ?_
    refine lv_iload_n hx hb dN_requireIndex_5 rfl (lv_at hl 1 rfl) ?_
    refine lv_icmp_lt (tgt := 19) hx hb dN_requireIndex_6 (by decide) (fun c_2 => ?_) (fun c_2 => ?_)
    · exact W.vret hx hb hr (fun t ht hW => ⟨rfl, ht⟩) (fun _ h => by cases h) dN_requireIndex_19
    · contradiction

set_option maxHeartbeats 4000000 in
set_option maxRecDepth 100000 in
theorem cN_requireIndex_x (l : Launch) {s0 : State} {dC : Nat → ClassId} {dI : Nat → Nat → Nat} {cI cC cL cO : ClassId} (E : xb_Env l s0 dC dI (xtys cI cC cL cO)) (i : Int32) (b : Int32) (hb9 : i < 0 ∨ ¬ i < b) : xt_Met l yN_requireIndex [.code yN_requireIndex bN_requireIndex 2 none] ({ frames := 6, cells := 1, slots := 6, locals := 82 }) (va_Pc [.int i, .int b] (fun U => xb_At s0 U ∧ va_P (dC, dI) classes [] U.heap)) "java/lang/IndexOutOfBoundsException" := by
  refine xt_Met.ofW (cc := bN_requireIndex) (maxL := 2) (ret := none) (by decide) rfl ?_
  intro p e s m args below meth c s₁ B hml hex hv
  obtain ⟨rfl, hAt, hP⟩ := hv
  have hx := B.exec
  have hb := B.bytes
  have hr := B.returns
  have hts := xb_hts E hAt ([.int i, .int b] : List Value).toArray
  have hown : s.vm.findClass "NailRules" = some m.cls := findClass_of_methodNamed B.named
  have hlocks := B.notSynchronized
  have hK := xb_K E hAt
  have hl := lv_entry ([.int i, .int b]) (n := 2) (Nat.le_of_ble_eq_true rfl)
  rw [lg_entry_eq]
  generalize (lg_sl ([.int i, .int b]) ++ List.replicate (2 - (lg_sl ([.int i, .int b])).length) Slot.unset).toArray = ls at hl ⊢
  have hl : lv_has ls 2 [(0, .int i), (1, .int b)] := hl
  refine lv_iload_n hx hb dN_requireIndex_0 rfl (lv_at hl 0 rfl) ?_
  refine lv_if_lt (tgt := 9) hx hb dN_requireIndex_1 (by decide) (fun c_1 => ?_) (fun c_1 => ?_)
  · obtain ⟨q9, hq9⟩ := xt_str E hAt xk_332 xs_162
    exact xt_throw (names := xt_names) hx hb (hml.trans hl.1.symm) E.1 hown hlocks hex (by decide) (by decide) (xt_atoms E hAt _ xt_a1) (hts _ xk_291) (hts _ xk_54) hq9 dN_requireIndex_9 dN_requireIndex_12 dN_requireIndex_13 dN_requireIndex_15 dN_requireIndex_18 (by decide) (by decide) (by decide) (by decide)
  · refine lv_iload_n hx hb dN_requireIndex_4 rfl (lv_at hl 0 rfl) ?_
    refine lv_iload_n hx hb dN_requireIndex_5 rfl (lv_at hl 1 rfl) ?_
    refine lv_icmp_lt (tgt := 19) hx hb dN_requireIndex_6 (by decide) (fun c_2 => ?_) (fun c_2 => ?_)
    · rcases hb9 with h | h <;> contradiction
    · obtain ⟨q9, hq9⟩ := xt_str E hAt xk_332 xs_162
      exact xt_throw (names := xt_names) hx hb (hml.trans hl.1.symm) E.1 hown hlocks hex (by decide) (by decide) (xt_atoms E hAt _ xt_a1) (hts _ xk_291) (hts _ xk_54) hq9 dN_requireIndex_9 dN_requireIndex_12 dN_requireIndex_13 dN_requireIndex_15 dN_requireIndex_18 (by decide) (by decide) (by decide) (by decide)

set_option maxHeartbeats 4000000 in
set_option maxRecDepth 100000 in
theorem cN_requireWithin (l : Launch) {s0 : State} {dC : Nat → ClassId} {dI : Nat → Nat → Nat} {cI cC cL cO : ClassId} (E : xb_Env l s0 dC dI (xtys cI cC cL cO)) (n : Int64) (lo : Int64) (hi : Int64) (h1 : ¬ n < lo) (h2 : n ≤ hi) : Met l yN_requireWithin [.code yN_requireWithin bN_requireWithin 6 none] ({ frames := 0, cells := 0, slots := 0, locals := 0 }) (va_Pc [.long n, .long lo, .long hi] (fun U => xb_At s0 U ∧ va_P (dC, dI) classes [] U.heap)) (xb_R (none)) 0 0 (fun _ => False) := by
  refine Met.ofW (cc := bN_requireWithin) (maxL := 6) (ret := none) (by decide) rfl ?_
  intro p e s m args below meth c s₁ B hml hv
  obtain ⟨rfl, hAt, hP⟩ := hv
  have hx := B.exec
  have hb := B.bytes
  have hr := B.returns
  have hts := xb_hts E hAt ([.long n, .long lo, .long hi] : List Value).toArray
  have hown : s.vm.findClass "NailRules" = some m.cls := findClass_of_methodNamed B.named
  have hlocks := B.notSynchronized
  have hK := xb_K E hAt
  have hl := lv_entry ([.long n, .long lo, .long hi]) (n := 6) (Nat.le_of_ble_eq_true rfl)
  rw [lg_entry_eq]
  generalize (lg_sl ([.long n, .long lo, .long hi]) ++ List.replicate (6 - (lg_sl ([.long n, .long lo, .long hi])).length) Slot.unset).toArray = ls at hl ⊢
  have hl : lv_has ls 6 [(0, .long n), (2, .long lo), (4, .long hi)] := hl
  refine lv_lload_n hx hb dN_requireWithin_0 rfl (lv_at hl 0 rfl) ?_
  refine lv_lload_n hx hb dN_requireWithin_1 rfl (lv_at hl 1 rfl) ?_
  refine W.lcmp hx hb dN_requireWithin_2 ?_
  refine lv_if_lt (tgt := 13) hx hb dN_requireWithin_3 (by decide) (fun c_1 => ?_) (fun c_1 => ?_)
  · have c_1 := (lg_cmp_lt _ _).mp c_1
    contradiction
  · have c_1 := fun q => c_1 ((lg_cmp_lt _ _).mpr q)
    refine lv_lload_n hx hb dN_requireWithin_6 rfl (lv_at hl 0 rfl) ?_
    refine lv_lload hx hb dN_requireWithin_7 (lv_at hl 2 rfl) ?_
    refine W.lcmp hx hb dN_requireWithin_9 ?_
    refine lv_if_le (tgt := 23) hx hb dN_requireWithin_10 (by decide) (fun c_2 => ?_) (fun c_2 => ?_)
    · have c_2 := (lg_cmp_le _ _).mp c_2
      exact W.vret hx hb hr (fun t ht hW => ⟨rfl, ht⟩) (fun _ h => by cases h) dN_requireWithin_23
    · have c_2 := fun q => c_2 ((lg_cmp_le _ _).mpr q)
      contradiction

set_option maxHeartbeats 4000000 in
set_option maxRecDepth 100000 in
theorem cN_requireWithin_x (l : Launch) {s0 : State} {dC : Nat → ClassId} {dI : Nat → Nat → Nat} {cI cC cL cO : ClassId} (E : xb_Env l s0 dC dI (xtys cI cC cL cO)) (n : Int64) (lo : Int64) (hi : Int64) (hb9 : n < lo ∨ ¬ n ≤ hi) : xt_Met l yN_requireWithin [.code yN_requireWithin bN_requireWithin 6 none] ({ frames := 6, cells := 1, slots := 6, locals := 82 }) (va_Pc [.long n, .long lo, .long hi] (fun U => xb_At s0 U ∧ va_P (dC, dI) classes [] U.heap)) "java/lang/IllegalArgumentException" := by
  refine xt_Met.ofW (cc := bN_requireWithin) (maxL := 6) (ret := none) (by decide) rfl ?_
  intro p e s m args below meth c s₁ B hml hex hv
  obtain ⟨rfl, hAt, hP⟩ := hv
  have hx := B.exec
  have hb := B.bytes
  have hr := B.returns
  have hts := xb_hts E hAt ([.long n, .long lo, .long hi] : List Value).toArray
  have hown : s.vm.findClass "NailRules" = some m.cls := findClass_of_methodNamed B.named
  have hlocks := B.notSynchronized
  have hK := xb_K E hAt
  have hl := lv_entry ([.long n, .long lo, .long hi]) (n := 6) (Nat.le_of_ble_eq_true rfl)
  rw [lg_entry_eq]
  generalize (lg_sl ([.long n, .long lo, .long hi]) ++ List.replicate (6 - (lg_sl ([.long n, .long lo, .long hi])).length) Slot.unset).toArray = ls at hl ⊢
  have hl : lv_has ls 6 [(0, .long n), (2, .long lo), (4, .long hi)] := hl
  refine lv_lload_n hx hb dN_requireWithin_0 rfl (lv_at hl 0 rfl) ?_
  refine lv_lload_n hx hb dN_requireWithin_1 rfl (lv_at hl 1 rfl) ?_
  refine W.lcmp hx hb dN_requireWithin_2 ?_
  refine lv_if_lt (tgt := 13) hx hb dN_requireWithin_3 (by decide) (fun c_1 => ?_) (fun c_1 => ?_)
  · have c_1 := (lg_cmp_lt _ _).mp c_1
    obtain ⟨q9, hq9⟩ := xt_str E hAt xk_383 xs_165
    exact xt_throw (names := xt_names) hx hb (hml.trans hl.1.symm) E.1 hown hlocks hex (by decide) (by decide) (xt_atoms E hAt _ xt_a2) (hts _ xk_374) (hts _ xk_55) hq9 dN_requireWithin_13 dN_requireWithin_16 dN_requireWithin_17 dN_requireWithin_19 dN_requireWithin_22 (by decide) (by decide) (by decide) (by decide)
  · have c_1 := fun q => c_1 ((lg_cmp_lt _ _).mpr q)
    refine lv_lload_n hx hb dN_requireWithin_6 rfl (lv_at hl 0 rfl) ?_
    refine lv_lload hx hb dN_requireWithin_7 (lv_at hl 2 rfl) ?_
    refine W.lcmp hx hb dN_requireWithin_9 ?_
    refine lv_if_le (tgt := 23) hx hb dN_requireWithin_10 (by decide) (fun c_2 => ?_) (fun c_2 => ?_)
    · have c_2 := (lg_cmp_le _ _).mp c_2
      rcases hb9 with h | h <;> contradiction
    · have c_2 := fun q => c_2 ((lg_cmp_le _ _).mpr q)
      obtain ⟨q9, hq9⟩ := xt_str E hAt xk_383 xs_165
      exact xt_throw (names := xt_names) hx hb (hml.trans hl.1.symm) E.1 hown hlocks hex (by decide) (by decide) (xt_atoms E hAt _ xt_a2) (hts _ xk_374) (hts _ xk_55) hq9 dN_requireWithin_13 dN_requireWithin_16 dN_requireWithin_17 dN_requireWithin_19 dN_requireWithin_22 (by decide) (by decide) (by decide) (by decide)

def fN_rule (rf : Nat → Int32) (kind : Int32) (what : Int32) : Int32 := fN_told rf kind what
set_option maxHeartbeats 4000000 in
set_option maxRecDepth 100000 in
theorem cN_rule (l : Launch) {s0 : State} {dC : Nat → ClassId} {dI : Nat → Nat → Nat} {cI cC cL cO : ClassId} (E : xb_Env l s0 dC dI (xtys cI cC cL cO)) (h0 : Nat) (fs : List Value) (ra : Nat) (rf : Nat → Int32) (kind : Int32) (what : Int32) (hf1 : fs[1]? = some (.ref ra)) (k1 : ¬ kind < 0) (k2 : kind < 4) (w1 : ¬ what < 0) (w2 : what < 7) (hk : vp_in (kind * 7 + what) 28) : Met l yN_rule [.code yN_rule bN_rule 3 (some (.int))] ({ frames := 1, cells := 0, slots := 0, locals := 22 }) (va_Pc [.ref h0, .int kind, .int what] (fun U => xb_At s0 U ∧ va_P (dC, dI) classes [(h0, .inr (0, fs)), (ra, .inl (cI, 28, .inl rf))] U.heap)) (xb_R (some (.int (fN_rule rf kind what)))) 0 0 (fun _ => False) := by
  refine Met.ofW (cc := bN_rule) (maxL := 3) (ret := (some (.int))) (by decide) rfl ?_
  intro p e s m args below meth c s₁ B hml hv
  obtain ⟨rfl, hAt, hP⟩ := hv
  have hx := B.exec
  have hb := B.bytes
  have hr := B.returns
  have hts := xb_hts E hAt ([.ref h0, .int kind, .int what] : List Value).toArray
  have hown : s.vm.findClass "NailRules" = some m.cls := findClass_of_methodNamed B.named
  have hlocks := B.notSynchronized
  have hK := xb_K E hAt
  have hl := lv_entry ([.ref h0, .int kind, .int what]) (n := 3) (Nat.le_of_ble_eq_true rfl)
  rw [lg_entry_eq]
  generalize (lg_sl ([.ref h0, .int kind, .int what]) ++ List.replicate (3 - (lg_sl ([.ref h0, .int kind, .int what])).length) Slot.unset).toArray = ls at hl ⊢
  have hl : lv_has ls 3 [(0, .ref h0), (1, .int kind), (2, .int what)] := hl
  refine lv_iload_n hx hb dN_rule_0 rfl (lv_at hl 1 rfl) ?_
  refine lv_iconst (v := 4) hx hb dN_rule_1 (by decide) ?_
  refine xb_rd (W.runS (As := [.int kind, .int 4]) (rest := []) ⟨hx, hb, hml, hown, hts⟩ (cN_requireIndex l E kind 4 (by assumption) (by assumption)) (cwS 2 hts (xb_gi (List.forall_mem_cons.mpr ⟨xk_288, List.forall_mem_cons.mpr ⟨xk_289, List.forall_mem_cons.mpr ⟨xk_40, List.forall_mem_cons.mpr ⟨xk_290, fun _ h => absurd h List.not_mem_nil⟩⟩⟩⟩)) rfl rfl rfl (by decide +kernel) ⟨Nat.le_of_ble_eq_true rfl, Nat.le_of_ble_eq_true rfl⟩) ⟨fun _ _ _ _ q => q, fun U hU hW => ⟨rfl, xb_at0 hAt hU hW, fun k q h => by simp at h⟩⟩ rfl rfl hl.1 rfl (lv_room (Nat.le_of_ble_eq_true rfl)) dN_rule_2 ⟨Nat.zero_le _, Nat.zero_le _⟩) ?_
  refine lv_iload_n hx hb dN_rule_5 rfl (lv_at hl 2 rfl) ?_
  refine lv_bipush (v := 7) hx hb dN_rule_6 (by decide) ?_
  refine xb_rd (W.runS (As := [.int what, .int 7]) (rest := []) ⟨hx, hb, hml, hown, hts⟩ (cN_requireIndex l E what 7 (by assumption) (by assumption)) (cwS 2 hts (xb_gi (List.forall_mem_cons.mpr ⟨xk_288, List.forall_mem_cons.mpr ⟨xk_289, List.forall_mem_cons.mpr ⟨xk_40, List.forall_mem_cons.mpr ⟨xk_290, fun _ h => absurd h List.not_mem_nil⟩⟩⟩⟩)) rfl rfl rfl (by decide +kernel) ⟨Nat.le_of_ble_eq_true rfl, Nat.le_of_ble_eq_true rfl⟩) ⟨fun _ _ _ _ q => q, fun U hU hW => ⟨rfl, xb_at0 hAt hU hW, fun k q h => by simp at h⟩⟩ rfl rfl hl.1 rfl (lv_room (Nat.le_of_ble_eq_true rfl)) dN_rule_8 ⟨Nat.zero_le _, Nat.zero_le _⟩) ?_
  refine lv_aload_n hx hb dN_rule_11 rfl (lv_at hl 0 rfl) ?_
  refine lv_iload_n hx hb dN_rule_12 rfl (lv_at hl 1 rfl) ?_
  refine lv_iload_n hx hb dN_rule_13 rfl (lv_at hl 2 rfl) ?_
  refine xb_rd (W.runV (C := "NailRules") (As := [.int kind, .int what]) (rest := []) ⟨hx, hb, hml, hown, hts⟩ (cN_told l E h0 fs ra rf kind what hf1 (by assumption)) (cwV 2 hts (xb_gi (List.forall_mem_cons.mpr ⟨xk_358, List.forall_mem_cons.mpr ⟨xk_360, List.forall_mem_cons.mpr ⟨xk_14, List.forall_mem_cons.mpr ⟨xk_40, List.forall_mem_cons.mpr ⟨xk_361, fun _ h => absurd h List.not_mem_nil⟩⟩⟩⟩⟩)) rfl rfl rfl (by decide +kernel) ⟨Nat.le_of_ble_eq_true rfl, Nat.le_of_ble_eq_true rfl⟩) ⟨fun _ _ _ _ q => q, va_recv hK hP (ci := 0) (q0 := 0) rfl rfl, fun U hU hW => ⟨rfl, xb_at0 hAt hU hW, by rw [hU]; exact hP.sub (ws' := [(h0, .inr (0, fs)), (ra, .inl (cI, 28, .inl rf))]) [0, 1] rfl⟩⟩ rfl rfl hl.1 rfl (lv_room (Nat.le_of_ble_eq_true rfl)) dN_rule_14 ⟨Nat.zero_le _, Nat.zero_le _⟩) ?_
  have e_f : fN_rule rf kind what = fN_told rf kind what := rfl
  exact W.iret (v := (fN_told rf kind what)) hx hb hr (fun t ht hW => ⟨by rw [e_f], ht⟩) (fun _ h => by cases h) dN_rule_17

set_option maxHeartbeats 4000000 in
set_option maxRecDepth 100000 in
theorem cN_rule_x1 (l : Launch) {s0 : State} {dC : Nat → ClassId} {dI : Nat → Nat → Nat} {cI cC cL cO : ClassId} (E : xb_Env l s0 dC dI (xtys cI cC cL cO)) (h0 : Nat) (fs : List Value) (ra : Nat) (rf : Nat → Int32) (kind : Int32) (what : Int32) (hf1 : fs[1]? = some (.ref ra)) (hb9 : kind < 0 ∨ ¬ kind < 4) : xt_Met l yN_rule [.code yN_rule bN_rule 3 (some (.int))] ({ frames := 7, cells := 1, slots := 6, locals := 103 }) (va_Pc [.ref h0, .int kind, .int what] (fun U => xb_At s0 U ∧ va_P (dC, dI) classes [(h0, .inr (0, fs)), (ra, .inl (cI, 28, .inl rf))] U.heap)) "java/lang/IndexOutOfBoundsException" := by
  refine xt_Met.ofW (cc := bN_rule) (maxL := 3) (ret := (some (.int))) (by decide) rfl ?_
  intro p e s m args below meth c s₁ B hml hex hv
  obtain ⟨rfl, hAt, hP⟩ := hv
  have hx := B.exec
  have hb := B.bytes
  have hr := B.returns
  have hts := xb_hts E hAt ([.ref h0, .int kind, .int what] : List Value).toArray
  have hown : s.vm.findClass "NailRules" = some m.cls := findClass_of_methodNamed B.named
  have hlocks := B.notSynchronized
  have hK := xb_K E hAt
  have hl := lv_entry ([.ref h0, .int kind, .int what]) (n := 3) (Nat.le_of_ble_eq_true rfl)
  rw [lg_entry_eq]
  generalize (lg_sl ([.ref h0, .int kind, .int what]) ++ List.replicate (3 - (lg_sl ([.ref h0, .int kind, .int what])).length) Slot.unset).toArray = ls at hl ⊢
  have hl : lv_has ls 3 [(0, .ref h0), (1, .int kind), (2, .int what)] := hl
  refine lv_iload_n hx hb dN_rule_0 rfl (lv_at hl 1 rfl) ?_
  refine lv_iconst (v := 4) hx hb dN_rule_1 (by decide) ?_
  exact xt_pass hlocks hex (xt_runS (As := [.int kind, .int 4]) (rest := []) ⟨hx, hb, hml, hown, hts⟩ (cN_requireIndex_x l E kind 4 (by assumption)) (cwS 2 hts (xb_gi (List.forall_mem_cons.mpr ⟨xk_288, List.forall_mem_cons.mpr ⟨xk_289, List.forall_mem_cons.mpr ⟨xk_40, List.forall_mem_cons.mpr ⟨xk_290, fun _ h => absurd h List.not_mem_nil⟩⟩⟩⟩)) rfl rfl rfl (by decide +kernel) ⟨Nat.le_of_ble_eq_true rfl, Nat.le_of_ble_eq_true rfl⟩) ⟨fun _ _ _ _ q => q, fun U hU hW => ⟨rfl, xb_at0 hAt hU hW, fun k q h => by simp at h⟩⟩ rfl rfl hl.1 rfl (lv_room (Nat.le_of_ble_eq_true rfl)) dN_rule_2 ⟨Nat.le_of_ble_eq_true rfl, Nat.le_of_ble_eq_true rfl⟩)

set_option maxHeartbeats 4000000 in
set_option maxRecDepth 100000 in
theorem cN_rule_x2 (l : Launch) {s0 : State} {dC : Nat → ClassId} {dI : Nat → Nat → Nat} {cI cC cL cO : ClassId} (E : xb_Env l s0 dC dI (xtys cI cC cL cO)) (h0 : Nat) (fs : List Value) (ra : Nat) (rf : Nat → Int32) (kind : Int32) (what : Int32) (hf1 : fs[1]? = some (.ref ra)) (k1 : ¬ kind < 0) (k2 : kind < 4) (hb9 : what < 0 ∨ ¬ what < 7) : xt_Met l yN_rule [.code yN_rule bN_rule 3 (some (.int))] ({ frames := 7, cells := 1, slots := 6, locals := 103 }) (va_Pc [.ref h0, .int kind, .int what] (fun U => xb_At s0 U ∧ va_P (dC, dI) classes [(h0, .inr (0, fs)), (ra, .inl (cI, 28, .inl rf))] U.heap)) "java/lang/IndexOutOfBoundsException" := by
  refine xt_Met.ofW (cc := bN_rule) (maxL := 3) (ret := (some (.int))) (by decide) rfl ?_
  intro p e s m args below meth c s₁ B hml hex hv
  obtain ⟨rfl, hAt, hP⟩ := hv
  have hx := B.exec
  have hb := B.bytes
  have hr := B.returns
  have hts := xb_hts E hAt ([.ref h0, .int kind, .int what] : List Value).toArray
  have hown : s.vm.findClass "NailRules" = some m.cls := findClass_of_methodNamed B.named
  have hlocks := B.notSynchronized
  have hK := xb_K E hAt
  have hl := lv_entry ([.ref h0, .int kind, .int what]) (n := 3) (Nat.le_of_ble_eq_true rfl)
  rw [lg_entry_eq]
  generalize (lg_sl ([.ref h0, .int kind, .int what]) ++ List.replicate (3 - (lg_sl ([.ref h0, .int kind, .int what])).length) Slot.unset).toArray = ls at hl ⊢
  have hl : lv_has ls 3 [(0, .ref h0), (1, .int kind), (2, .int what)] := hl
  refine lv_iload_n hx hb dN_rule_0 rfl (lv_at hl 1 rfl) ?_
  refine lv_iconst (v := 4) hx hb dN_rule_1 (by decide) ?_
  refine xb_rd (W.runS (As := [.int kind, .int 4]) (rest := []) ⟨hx, hb, hml, hown, hts⟩ (cN_requireIndex l E kind 4 (by assumption) (by assumption)) (cwS 2 hts (xb_gi (List.forall_mem_cons.mpr ⟨xk_288, List.forall_mem_cons.mpr ⟨xk_289, List.forall_mem_cons.mpr ⟨xk_40, List.forall_mem_cons.mpr ⟨xk_290, fun _ h => absurd h List.not_mem_nil⟩⟩⟩⟩)) rfl rfl rfl (by decide +kernel) ⟨Nat.le_of_ble_eq_true rfl, Nat.le_of_ble_eq_true rfl⟩) ⟨fun _ _ _ _ q => q, fun U hU hW => ⟨rfl, xb_at0 hAt hU hW, fun k q h => by simp at h⟩⟩ rfl rfl hl.1 rfl (lv_room (Nat.le_of_ble_eq_true rfl)) dN_rule_2 ⟨Nat.zero_le _, Nat.zero_le _⟩) ?_
  refine lv_iload_n hx hb dN_rule_5 rfl (lv_at hl 2 rfl) ?_
  refine lv_bipush (v := 7) hx hb dN_rule_6 (by decide) ?_
  exact xt_pass hlocks hex (xt_runS (As := [.int what, .int 7]) (rest := []) ⟨hx, hb, hml, hown, hts⟩ (cN_requireIndex_x l E what 7 (by assumption)) (cwS 2 hts (xb_gi (List.forall_mem_cons.mpr ⟨xk_288, List.forall_mem_cons.mpr ⟨xk_289, List.forall_mem_cons.mpr ⟨xk_40, List.forall_mem_cons.mpr ⟨xk_290, fun _ h => absurd h List.not_mem_nil⟩⟩⟩⟩)) rfl rfl rfl (by decide +kernel) ⟨Nat.le_of_ble_eq_true rfl, Nat.le_of_ble_eq_true rfl⟩) ⟨fun _ _ _ _ q => q, fun U hU hW => ⟨rfl, xb_at0 hAt hU hW, fun k q h => by simp at h⟩⟩ rfl rfl hl.1 rfl (lv_room (Nat.le_of_ble_eq_true rfl)) dN_rule_8 ⟨Nat.le_of_ble_eq_true rfl, Nat.le_of_ble_eq_true rfl⟩)
