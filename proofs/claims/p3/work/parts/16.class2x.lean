set_option maxHeartbeats 4000000 in
set_option maxRecDepth 100000 in
theorem cN_holds_x1 (l : Launch) {s0 : State} {dC : Nat → ClassId} {dI : Nat → Nat → Nat} {cI cC cL cO : ClassId} (E : xb_Env l s0 dC dI (xtys cI cC cL cO)) (h0 : Nat) (fs : List Value) (kind : Int32) (a : Int32) (b : Int32) (angle : Int32) (part : Int32) (hb9 : kind < 0 ∨ ¬ kind < 4) : xt_Met l yN_holds [.code yN_holds bN_holds 9 (some (.long))] ({ frames := 7, cells := 1, slots := 6, locals := 103 }) (va_Pc [.ref h0, .int kind, .int a, .int b, .int angle, .int part] (fun U => xb_At s0 U ∧ va_P (dC, dI) classes [(h0, .inr (0, fs))] U.heap)) "java/lang/IndexOutOfBoundsException" := by
  refine xt_Met.ofW (cc := bN_holds) (maxL := 9) (ret := (some (.long))) (by decide) rfl ?_
  intro p e s m args below meth c s₁ B hml hex hv
  obtain ⟨rfl, hAt, hP⟩ := hv
  have hx := B.exec
  have hb := B.bytes
  have hr := B.returns
  have hts := xb_hts E hAt ([.ref h0, .int kind, .int a, .int b, .int angle, .int part] : List Value).toArray
  have hown : s.vm.findClass "NailRules" = some m.cls := findClass_of_methodNamed B.named
  have hlocks := B.notSynchronized
  have hK := xb_K E hAt
  have hl := lv_entry ([.ref h0, .int kind, .int a, .int b, .int angle, .int part]) (n := 9) (Nat.le_of_ble_eq_true rfl)
  rw [lg_entry_eq]
  generalize (lg_sl ([.ref h0, .int kind, .int a, .int b, .int angle, .int part]) ++ List.replicate (9 - (lg_sl ([.ref h0, .int kind, .int a, .int b, .int angle, .int part])).length) Slot.unset).toArray = ls at hl ⊢
  have hl : lv_has ls 9 [(0, .ref h0), (1, .int kind), (2, .int a), (3, .int b), (4, .int angle), (5, .int part)] := hl
  refine lv_iload_n hx hb dN_holds_0 rfl (lv_at hl 1 rfl) ?_
  refine lv_iconst (v := 4) hx hb dN_holds_1 (by decide) ?_
  exact xt_pass hlocks hex (xt_runS (As := [.int kind, .int 4]) (rest := []) ⟨hx, hb, hml, hown, hts⟩ (cN_requireIndex_x l E kind 4 (hb9)) (cwS 2 hts (xb_gi (List.forall_mem_cons.mpr ⟨xk_288, List.forall_mem_cons.mpr ⟨xk_289, List.forall_mem_cons.mpr ⟨xk_40, List.forall_mem_cons.mpr ⟨xk_290, fun _ h => absurd h List.not_mem_nil⟩⟩⟩⟩)) rfl rfl rfl (by decide +kernel) ⟨Nat.le_of_ble_eq_true rfl, Nat.le_of_ble_eq_true rfl⟩) ⟨fun _ _ _ _ q => q, fun U hU hW => ⟨rfl, xb_at0 hAt hU hW, fun k q h => by simp at h⟩⟩ rfl rfl hl.1 rfl (lv_room (Nat.le_of_ble_eq_true rfl)) dN_holds_2 ⟨Nat.le_of_ble_eq_true rfl, Nat.le_of_ble_eq_true rfl⟩)

set_option maxHeartbeats 4000000 in
set_option maxRecDepth 100000 in
theorem cN_holds_x2 (l : Launch) {s0 : State} {dC : Nat → ClassId} {dI : Nat → Nat → Nat} {cI cC cL cO : ClassId} (E : xb_Env l s0 dC dI (xtys cI cC cL cO)) (h0 : Nat) (fs : List Value) (kind : Int32) (a : Int32) (b : Int32) (angle : Int32) (part : Int32) (ka : ¬ kind < 0) (kb : kind < 4) (hb9 : part < 0 ∨ ¬ part < 2) : xt_Met l yN_holds [.code yN_holds bN_holds 9 (some (.long))] ({ frames := 7, cells := 1, slots := 6, locals := 103 }) (va_Pc [.ref h0, .int kind, .int a, .int b, .int angle, .int part] (fun U => xb_At s0 U ∧ va_P (dC, dI) classes [(h0, .inr (0, fs))] U.heap)) "java/lang/IndexOutOfBoundsException" := by
  refine xt_Met.ofW (cc := bN_holds) (maxL := 9) (ret := (some (.long))) (by decide) rfl ?_
  intro p e s m args below meth c s₁ B hml hex hv
  obtain ⟨rfl, hAt, hP⟩ := hv
  have hx := B.exec
  have hb := B.bytes
  have hr := B.returns
  have hts := xb_hts E hAt ([.ref h0, .int kind, .int a, .int b, .int angle, .int part] : List Value).toArray
  have hown : s.vm.findClass "NailRules" = some m.cls := findClass_of_methodNamed B.named
  have hlocks := B.notSynchronized
  have hK := xb_K E hAt
  have hl := lv_entry ([.ref h0, .int kind, .int a, .int b, .int angle, .int part]) (n := 9) (Nat.le_of_ble_eq_true rfl)
  rw [lg_entry_eq]
  generalize (lg_sl ([.ref h0, .int kind, .int a, .int b, .int angle, .int part]) ++ List.replicate (9 - (lg_sl ([.ref h0, .int kind, .int a, .int b, .int angle, .int part])).length) Slot.unset).toArray = ls at hl ⊢
  have hl : lv_has ls 9 [(0, .ref h0), (1, .int kind), (2, .int a), (3, .int b), (4, .int angle), (5, .int part)] := hl
  refine lv_iload_n hx hb dN_holds_0 rfl (lv_at hl 1 rfl) ?_
  refine lv_iconst (v := 4) hx hb dN_holds_1 (by decide) ?_
  refine xb_rd (W.runS (As := [.int kind, .int 4]) (rest := []) ⟨hx, hb, hml, hown, hts⟩ (cN_requireIndex l E kind 4 (ka) (kb)) (cwS 2 hts (xb_gi (List.forall_mem_cons.mpr ⟨xk_288, List.forall_mem_cons.mpr ⟨xk_289, List.forall_mem_cons.mpr ⟨xk_40, List.forall_mem_cons.mpr ⟨xk_290, fun _ h => absurd h List.not_mem_nil⟩⟩⟩⟩)) rfl rfl rfl (by decide +kernel) ⟨Nat.le_of_ble_eq_true rfl, Nat.le_of_ble_eq_true rfl⟩) ⟨fun _ _ _ _ q => q, fun U hU hW => ⟨rfl, xb_at0 hAt hU hW, fun k q h => by simp at h⟩⟩ rfl rfl hl.1 rfl (lv_room (Nat.le_of_ble_eq_true rfl)) dN_holds_2 ⟨Nat.zero_le _, Nat.zero_le _⟩) ?_
  refine lv_iload hx hb dN_holds_5 (lv_at hl 5 rfl) ?_
  refine lv_iconst (v := 2) hx hb dN_holds_7 (by decide) ?_
  exact xt_pass hlocks hex (xt_runS (As := [.int part, .int 2]) (rest := []) ⟨hx, hb, hml, hown, hts⟩ (cN_requireIndex_x l E part 2 (hb9)) (cwS 2 hts (xb_gi (List.forall_mem_cons.mpr ⟨xk_288, List.forall_mem_cons.mpr ⟨xk_289, List.forall_mem_cons.mpr ⟨xk_40, List.forall_mem_cons.mpr ⟨xk_290, fun _ h => absurd h List.not_mem_nil⟩⟩⟩⟩)) rfl rfl rfl (by decide +kernel) ⟨Nat.le_of_ble_eq_true rfl, Nat.le_of_ble_eq_true rfl⟩) ⟨fun _ _ _ _ q => q, fun U hU hW => ⟨rfl, xb_at0 hAt hU hW, fun k q h => by simp at h⟩⟩ rfl rfl hl.1 rfl (lv_room (Nat.le_of_ble_eq_true rfl)) dN_holds_8 ⟨Nat.le_of_ble_eq_true rfl, Nat.le_of_ble_eq_true rfl⟩)

set_option maxHeartbeats 4000000 in
set_option maxRecDepth 100000 in
theorem cN_holds_x3 (l : Launch) {s0 : State} {dC : Nat → ClassId} {dI : Nat → Nat → Nat} {cI cC cL cO : ClassId} (E : xb_Env l s0 dC dI (xtys cI cC cL cO)) (h0 : Nat) (fs : List Value) (kind : Int32) (a : Int32) (b : Int32) (angle : Int32) (part : Int32) (ka : ¬ kind < 0) (kb : kind < 4) (qa : ¬ part < 0) (qb : part < 2) (hb9 : a.toInt64 < 1 ∨ ¬ a.toInt64 ≤ 1000) : xt_Met l yN_holds [.code yN_holds bN_holds 9 (some (.long))] ({ frames := 7, cells := 1, slots := 6, locals := 107 }) (va_Pc [.ref h0, .int kind, .int a, .int b, .int angle, .int part] (fun U => xb_At s0 U ∧ va_P (dC, dI) classes [(h0, .inr (0, fs))] U.heap)) "java/lang/IllegalArgumentException" := by
  refine xt_Met.ofW (cc := bN_holds) (maxL := 9) (ret := (some (.long))) (by decide) rfl ?_
  intro p e s m args below meth c s₁ B hml hex hv
  obtain ⟨rfl, hAt, hP⟩ := hv
  have hx := B.exec
  have hb := B.bytes
  have hr := B.returns
  have hts := xb_hts E hAt ([.ref h0, .int kind, .int a, .int b, .int angle, .int part] : List Value).toArray
  have hown : s.vm.findClass "NailRules" = some m.cls := findClass_of_methodNamed B.named
  have hlocks := B.notSynchronized
  have hK := xb_K E hAt
  have hl := lv_entry ([.ref h0, .int kind, .int a, .int b, .int angle, .int part]) (n := 9) (Nat.le_of_ble_eq_true rfl)
  rw [lg_entry_eq]
  generalize (lg_sl ([.ref h0, .int kind, .int a, .int b, .int angle, .int part]) ++ List.replicate (9 - (lg_sl ([.ref h0, .int kind, .int a, .int b, .int angle, .int part])).length) Slot.unset).toArray = ls at hl ⊢
  have hl : lv_has ls 9 [(0, .ref h0), (1, .int kind), (2, .int a), (3, .int b), (4, .int angle), (5, .int part)] := hl
  refine lv_iload_n hx hb dN_holds_0 rfl (lv_at hl 1 rfl) ?_
  refine lv_iconst (v := 4) hx hb dN_holds_1 (by decide) ?_
  refine xb_rd (W.runS (As := [.int kind, .int 4]) (rest := []) ⟨hx, hb, hml, hown, hts⟩ (cN_requireIndex l E kind 4 (ka) (kb)) (cwS 2 hts (xb_gi (List.forall_mem_cons.mpr ⟨xk_288, List.forall_mem_cons.mpr ⟨xk_289, List.forall_mem_cons.mpr ⟨xk_40, List.forall_mem_cons.mpr ⟨xk_290, fun _ h => absurd h List.not_mem_nil⟩⟩⟩⟩)) rfl rfl rfl (by decide +kernel) ⟨Nat.le_of_ble_eq_true rfl, Nat.le_of_ble_eq_true rfl⟩) ⟨fun _ _ _ _ q => q, fun U hU hW => ⟨rfl, xb_at0 hAt hU hW, fun k q h => by simp at h⟩⟩ rfl rfl hl.1 rfl (lv_room (Nat.le_of_ble_eq_true rfl)) dN_holds_2 ⟨Nat.zero_le _, Nat.zero_le _⟩) ?_
  refine lv_iload hx hb dN_holds_5 (lv_at hl 5 rfl) ?_
  refine lv_iconst (v := 2) hx hb dN_holds_7 (by decide) ?_
  refine xb_rd (W.runS (As := [.int part, .int 2]) (rest := []) ⟨hx, hb, hml, hown, hts⟩ (cN_requireIndex l E part 2 (qa) (qb)) (cwS 2 hts (xb_gi (List.forall_mem_cons.mpr ⟨xk_288, List.forall_mem_cons.mpr ⟨xk_289, List.forall_mem_cons.mpr ⟨xk_40, List.forall_mem_cons.mpr ⟨xk_290, fun _ h => absurd h List.not_mem_nil⟩⟩⟩⟩)) rfl rfl rfl (by decide +kernel) ⟨Nat.le_of_ble_eq_true rfl, Nat.le_of_ble_eq_true rfl⟩) ⟨fun _ _ _ _ q => q, fun U hU hW => ⟨rfl, xb_at0 hAt hU hW, fun k q h => by simp at h⟩⟩ rfl rfl hl.1 rfl (lv_room (Nat.le_of_ble_eq_true rfl)) dN_holds_8 ⟨Nat.zero_le _, Nat.zero_le _⟩) ?_
  refine lv_iload_n hx hb dN_holds_11 rfl (lv_at hl 2 rfl) ?_
  refine lv_i2l hx hb dN_holds_12 rfl ?_
  refine lv_lconst (v := 1) hx hb dN_holds_13 (by decide) ?_
  refine lv_ldc2 (v := 1000) hx hb hown (hts _ xk_397) dN_holds_14 ?_
  exact xt_pass hlocks hex (xt_runS (As := [.long a.toInt64, .long 1, .long 1000]) (rest := []) ⟨hx, hb, hml, hown, hts⟩ (cN_requireWithin_x l E a.toInt64 1 1000 (hb9)) (cwS 3 hts (xb_gi (List.forall_mem_cons.mpr ⟨xk_371, List.forall_mem_cons.mpr ⟨xk_372, List.forall_mem_cons.mpr ⟨xk_40, List.forall_mem_cons.mpr ⟨xk_373, fun _ h => absurd h List.not_mem_nil⟩⟩⟩⟩)) rfl rfl rfl (by decide +kernel) ⟨Nat.le_of_ble_eq_true rfl, Nat.le_of_ble_eq_true rfl⟩) ⟨fun _ _ _ _ q => q, fun U hU hW => ⟨rfl, xb_at0 hAt hU hW, fun k q h => by simp at h⟩⟩ rfl rfl hl.1 rfl (lv_room (Nat.le_of_ble_eq_true rfl)) dN_holds_17 ⟨Nat.le_of_ble_eq_true rfl, Nat.le_of_ble_eq_true rfl⟩)

set_option maxHeartbeats 4000000 in
set_option maxRecDepth 100000 in
theorem cN_holds_x4 (l : Launch) {s0 : State} {dC : Nat → ClassId} {dI : Nat → Nat → Nat} {cI cC cL cO : ClassId} (E : xb_Env l s0 dC dI (xtys cI cC cL cO)) (h0 : Nat) (fs : List Value) (kind : Int32) (a : Int32) (b : Int32) (angle : Int32) (part : Int32) (ka : ¬ kind < 0) (kb : kind < 4) (qa : ¬ part < 0) (qb : part < 2) (ua : ¬ a.toInt64 < 1) (ub : a.toInt64 ≤ 1000) (hb9 : b.toInt64 < 1 ∨ ¬ b.toInt64 ≤ 1000) : xt_Met l yN_holds [.code yN_holds bN_holds 9 (some (.long))] ({ frames := 7, cells := 1, slots := 6, locals := 107 }) (va_Pc [.ref h0, .int kind, .int a, .int b, .int angle, .int part] (fun U => xb_At s0 U ∧ va_P (dC, dI) classes [(h0, .inr (0, fs))] U.heap)) "java/lang/IllegalArgumentException" := by
  refine xt_Met.ofW (cc := bN_holds) (maxL := 9) (ret := (some (.long))) (by decide) rfl ?_
  intro p e s m args below meth c s₁ B hml hex hv
  obtain ⟨rfl, hAt, hP⟩ := hv
  have hx := B.exec
  have hb := B.bytes
  have hr := B.returns
  have hts := xb_hts E hAt ([.ref h0, .int kind, .int a, .int b, .int angle, .int part] : List Value).toArray
  have hown : s.vm.findClass "NailRules" = some m.cls := findClass_of_methodNamed B.named
  have hlocks := B.notSynchronized
  have hK := xb_K E hAt
  have hl := lv_entry ([.ref h0, .int kind, .int a, .int b, .int angle, .int part]) (n := 9) (Nat.le_of_ble_eq_true rfl)
  rw [lg_entry_eq]
  generalize (lg_sl ([.ref h0, .int kind, .int a, .int b, .int angle, .int part]) ++ List.replicate (9 - (lg_sl ([.ref h0, .int kind, .int a, .int b, .int angle, .int part])).length) Slot.unset).toArray = ls at hl ⊢
  have hl : lv_has ls 9 [(0, .ref h0), (1, .int kind), (2, .int a), (3, .int b), (4, .int angle), (5, .int part)] := hl
  refine lv_iload_n hx hb dN_holds_0 rfl (lv_at hl 1 rfl) ?_
  refine lv_iconst (v := 4) hx hb dN_holds_1 (by decide) ?_
  refine xb_rd (W.runS (As := [.int kind, .int 4]) (rest := []) ⟨hx, hb, hml, hown, hts⟩ (cN_requireIndex l E kind 4 (ka) (kb)) (cwS 2 hts (xb_gi (List.forall_mem_cons.mpr ⟨xk_288, List.forall_mem_cons.mpr ⟨xk_289, List.forall_mem_cons.mpr ⟨xk_40, List.forall_mem_cons.mpr ⟨xk_290, fun _ h => absurd h List.not_mem_nil⟩⟩⟩⟩)) rfl rfl rfl (by decide +kernel) ⟨Nat.le_of_ble_eq_true rfl, Nat.le_of_ble_eq_true rfl⟩) ⟨fun _ _ _ _ q => q, fun U hU hW => ⟨rfl, xb_at0 hAt hU hW, fun k q h => by simp at h⟩⟩ rfl rfl hl.1 rfl (lv_room (Nat.le_of_ble_eq_true rfl)) dN_holds_2 ⟨Nat.zero_le _, Nat.zero_le _⟩) ?_
  refine lv_iload hx hb dN_holds_5 (lv_at hl 5 rfl) ?_
  refine lv_iconst (v := 2) hx hb dN_holds_7 (by decide) ?_
  refine xb_rd (W.runS (As := [.int part, .int 2]) (rest := []) ⟨hx, hb, hml, hown, hts⟩ (cN_requireIndex l E part 2 (qa) (qb)) (cwS 2 hts (xb_gi (List.forall_mem_cons.mpr ⟨xk_288, List.forall_mem_cons.mpr ⟨xk_289, List.forall_mem_cons.mpr ⟨xk_40, List.forall_mem_cons.mpr ⟨xk_290, fun _ h => absurd h List.not_mem_nil⟩⟩⟩⟩)) rfl rfl rfl (by decide +kernel) ⟨Nat.le_of_ble_eq_true rfl, Nat.le_of_ble_eq_true rfl⟩) ⟨fun _ _ _ _ q => q, fun U hU hW => ⟨rfl, xb_at0 hAt hU hW, fun k q h => by simp at h⟩⟩ rfl rfl hl.1 rfl (lv_room (Nat.le_of_ble_eq_true rfl)) dN_holds_8 ⟨Nat.zero_le _, Nat.zero_le _⟩) ?_
  refine lv_iload_n hx hb dN_holds_11 rfl (lv_at hl 2 rfl) ?_
  refine lv_i2l hx hb dN_holds_12 rfl ?_
  refine lv_lconst (v := 1) hx hb dN_holds_13 (by decide) ?_
  refine lv_ldc2 (v := 1000) hx hb hown (hts _ xk_397) dN_holds_14 ?_
  refine xb_rd (W.runS (As := [.long a.toInt64, .long 1, .long 1000]) (rest := []) ⟨hx, hb, hml, hown, hts⟩ (cN_requireWithin l E a.toInt64 1 1000 (ua) (ub)) (cwS 3 hts (xb_gi (List.forall_mem_cons.mpr ⟨xk_371, List.forall_mem_cons.mpr ⟨xk_372, List.forall_mem_cons.mpr ⟨xk_40, List.forall_mem_cons.mpr ⟨xk_373, fun _ h => absurd h List.not_mem_nil⟩⟩⟩⟩)) rfl rfl rfl (by decide +kernel) ⟨Nat.le_of_ble_eq_true rfl, Nat.le_of_ble_eq_true rfl⟩) ⟨fun _ _ _ _ q => q, fun U hU hW => ⟨rfl, xb_at0 hAt hU hW, fun k q h => by simp at h⟩⟩ rfl rfl hl.1 rfl (lv_room (Nat.le_of_ble_eq_true rfl)) dN_holds_17 ⟨Nat.zero_le _, Nat.zero_le _⟩) ?_
  refine lv_iload_n hx hb dN_holds_20 rfl (lv_at hl 3 rfl) ?_
  refine lv_i2l hx hb dN_holds_21 rfl ?_
  refine lv_lconst (v := 1) hx hb dN_holds_22 (by decide) ?_
  refine lv_ldc2 (v := 1000) hx hb hown (hts _ xk_397) dN_holds_23 ?_
  exact xt_pass hlocks hex (xt_runS (As := [.long b.toInt64, .long 1, .long 1000]) (rest := []) ⟨hx, hb, hml, hown, hts⟩ (cN_requireWithin_x l E b.toInt64 1 1000 (hb9)) (cwS 3 hts (xb_gi (List.forall_mem_cons.mpr ⟨xk_371, List.forall_mem_cons.mpr ⟨xk_372, List.forall_mem_cons.mpr ⟨xk_40, List.forall_mem_cons.mpr ⟨xk_373, fun _ h => absurd h List.not_mem_nil⟩⟩⟩⟩)) rfl rfl rfl (by decide +kernel) ⟨Nat.le_of_ble_eq_true rfl, Nat.le_of_ble_eq_true rfl⟩) ⟨fun _ _ _ _ q => q, fun U hU hW => ⟨rfl, xb_at0 hAt hU hW, fun k q h => by simp at h⟩⟩ rfl rfl hl.1 rfl (lv_room (Nat.le_of_ble_eq_true rfl)) dN_holds_26 ⟨Nat.le_of_ble_eq_true rfl, Nat.le_of_ble_eq_true rfl⟩)

set_option maxHeartbeats 4000000 in
set_option maxRecDepth 100000 in
theorem cN_holds_x5 (l : Launch) {s0 : State} {dC : Nat → ClassId} {dI : Nat → Nat → Nat} {cI cC cL cO : ClassId} (E : xb_Env l s0 dC dI (xtys cI cC cL cO)) (h0 : Nat) (fs : List Value) (kind : Int32) (a : Int32) (b : Int32) (angle : Int32) (part : Int32) (ka : ¬ kind < 0) (kb : kind < 4) (qa : ¬ part < 0) (qb : part < 2) (ua : ¬ a.toInt64 < 1) (ub : a.toInt64 ≤ 1000) (wa : ¬ b.toInt64 < 1) (wb : b.toInt64 ≤ 1000) (hb9 : angle.toInt64 < 0 ∨ ¬ angle.toInt64 ≤ 90) : xt_Met l yN_holds [.code yN_holds bN_holds 9 (some (.long))] ({ frames := 7, cells := 1, slots := 6, locals := 107 }) (va_Pc [.ref h0, .int kind, .int a, .int b, .int angle, .int part] (fun U => xb_At s0 U ∧ va_P (dC, dI) classes [(h0, .inr (0, fs))] U.heap)) "java/lang/IllegalArgumentException" := by
  refine xt_Met.ofW (cc := bN_holds) (maxL := 9) (ret := (some (.long))) (by decide) rfl ?_
  intro p e s m args below meth c s₁ B hml hex hv
  obtain ⟨rfl, hAt, hP⟩ := hv
  have hx := B.exec
  have hb := B.bytes
  have hr := B.returns
  have hts := xb_hts E hAt ([.ref h0, .int kind, .int a, .int b, .int angle, .int part] : List Value).toArray
  have hown : s.vm.findClass "NailRules" = some m.cls := findClass_of_methodNamed B.named
  have hlocks := B.notSynchronized
  have hK := xb_K E hAt
  have hl := lv_entry ([.ref h0, .int kind, .int a, .int b, .int angle, .int part]) (n := 9) (Nat.le_of_ble_eq_true rfl)
  rw [lg_entry_eq]
  generalize (lg_sl ([.ref h0, .int kind, .int a, .int b, .int angle, .int part]) ++ List.replicate (9 - (lg_sl ([.ref h0, .int kind, .int a, .int b, .int angle, .int part])).length) Slot.unset).toArray = ls at hl ⊢
  have hl : lv_has ls 9 [(0, .ref h0), (1, .int kind), (2, .int a), (3, .int b), (4, .int angle), (5, .int part)] := hl
  refine lv_iload_n hx hb dN_holds_0 rfl (lv_at hl 1 rfl) ?_
  refine lv_iconst (v := 4) hx hb dN_holds_1 (by decide) ?_
  refine xb_rd (W.runS (As := [.int kind, .int 4]) (rest := []) ⟨hx, hb, hml, hown, hts⟩ (cN_requireIndex l E kind 4 (ka) (kb)) (cwS 2 hts (xb_gi (List.forall_mem_cons.mpr ⟨xk_288, List.forall_mem_cons.mpr ⟨xk_289, List.forall_mem_cons.mpr ⟨xk_40, List.forall_mem_cons.mpr ⟨xk_290, fun _ h => absurd h List.not_mem_nil⟩⟩⟩⟩)) rfl rfl rfl (by decide +kernel) ⟨Nat.le_of_ble_eq_true rfl, Nat.le_of_ble_eq_true rfl⟩) ⟨fun _ _ _ _ q => q, fun U hU hW => ⟨rfl, xb_at0 hAt hU hW, fun k q h => by simp at h⟩⟩ rfl rfl hl.1 rfl (lv_room (Nat.le_of_ble_eq_true rfl)) dN_holds_2 ⟨Nat.zero_le _, Nat.zero_le _⟩) ?_
  refine lv_iload hx hb dN_holds_5 (lv_at hl 5 rfl) ?_
  refine lv_iconst (v := 2) hx hb dN_holds_7 (by decide) ?_
  refine xb_rd (W.runS (As := [.int part, .int 2]) (rest := []) ⟨hx, hb, hml, hown, hts⟩ (cN_requireIndex l E part 2 (qa) (qb)) (cwS 2 hts (xb_gi (List.forall_mem_cons.mpr ⟨xk_288, List.forall_mem_cons.mpr ⟨xk_289, List.forall_mem_cons.mpr ⟨xk_40, List.forall_mem_cons.mpr ⟨xk_290, fun _ h => absurd h List.not_mem_nil⟩⟩⟩⟩)) rfl rfl rfl (by decide +kernel) ⟨Nat.le_of_ble_eq_true rfl, Nat.le_of_ble_eq_true rfl⟩) ⟨fun _ _ _ _ q => q, fun U hU hW => ⟨rfl, xb_at0 hAt hU hW, fun k q h => by simp at h⟩⟩ rfl rfl hl.1 rfl (lv_room (Nat.le_of_ble_eq_true rfl)) dN_holds_8 ⟨Nat.zero_le _, Nat.zero_le _⟩) ?_
  refine lv_iload_n hx hb dN_holds_11 rfl (lv_at hl 2 rfl) ?_
  refine lv_i2l hx hb dN_holds_12 rfl ?_
  refine lv_lconst (v := 1) hx hb dN_holds_13 (by decide) ?_
  refine lv_ldc2 (v := 1000) hx hb hown (hts _ xk_397) dN_holds_14 ?_
  refine xb_rd (W.runS (As := [.long a.toInt64, .long 1, .long 1000]) (rest := []) ⟨hx, hb, hml, hown, hts⟩ (cN_requireWithin l E a.toInt64 1 1000 (ua) (ub)) (cwS 3 hts (xb_gi (List.forall_mem_cons.mpr ⟨xk_371, List.forall_mem_cons.mpr ⟨xk_372, List.forall_mem_cons.mpr ⟨xk_40, List.forall_mem_cons.mpr ⟨xk_373, fun _ h => absurd h List.not_mem_nil⟩⟩⟩⟩)) rfl rfl rfl (by decide +kernel) ⟨Nat.le_of_ble_eq_true rfl, Nat.le_of_ble_eq_true rfl⟩) ⟨fun _ _ _ _ q => q, fun U hU hW => ⟨rfl, xb_at0 hAt hU hW, fun k q h => by simp at h⟩⟩ rfl rfl hl.1 rfl (lv_room (Nat.le_of_ble_eq_true rfl)) dN_holds_17 ⟨Nat.zero_le _, Nat.zero_le _⟩) ?_
  refine lv_iload_n hx hb dN_holds_20 rfl (lv_at hl 3 rfl) ?_
  refine lv_i2l hx hb dN_holds_21 rfl ?_
  refine lv_lconst (v := 1) hx hb dN_holds_22 (by decide) ?_
  refine lv_ldc2 (v := 1000) hx hb hown (hts _ xk_397) dN_holds_23 ?_
  refine xb_rd (W.runS (As := [.long b.toInt64, .long 1, .long 1000]) (rest := []) ⟨hx, hb, hml, hown, hts⟩ (cN_requireWithin l E b.toInt64 1 1000 (wa) (wb)) (cwS 3 hts (xb_gi (List.forall_mem_cons.mpr ⟨xk_371, List.forall_mem_cons.mpr ⟨xk_372, List.forall_mem_cons.mpr ⟨xk_40, List.forall_mem_cons.mpr ⟨xk_373, fun _ h => absurd h List.not_mem_nil⟩⟩⟩⟩)) rfl rfl rfl (by decide +kernel) ⟨Nat.le_of_ble_eq_true rfl, Nat.le_of_ble_eq_true rfl⟩) ⟨fun _ _ _ _ q => q, fun U hU hW => ⟨rfl, xb_at0 hAt hU hW, fun k q h => by simp at h⟩⟩ rfl rfl hl.1 rfl (lv_room (Nat.le_of_ble_eq_true rfl)) dN_holds_26 ⟨Nat.zero_le _, Nat.zero_le _⟩) ?_
  refine lv_iload hx hb dN_holds_29 (lv_at hl 4 rfl) ?_
  refine lv_i2l hx hb dN_holds_31 rfl ?_
  refine lv_lconst (v := 0) hx hb dN_holds_32 (by decide) ?_
  refine lv_ldc2 (v := 90) hx hb hown (hts _ xk_398) dN_holds_33 ?_
  exact xt_pass hlocks hex (xt_runS (As := [.long angle.toInt64, .long 0, .long 90]) (rest := []) ⟨hx, hb, hml, hown, hts⟩ (cN_requireWithin_x l E angle.toInt64 0 90 (hb9)) (cwS 3 hts (xb_gi (List.forall_mem_cons.mpr ⟨xk_371, List.forall_mem_cons.mpr ⟨xk_372, List.forall_mem_cons.mpr ⟨xk_40, List.forall_mem_cons.mpr ⟨xk_373, fun _ h => absurd h List.not_mem_nil⟩⟩⟩⟩)) rfl rfl rfl (by decide +kernel) ⟨Nat.le_of_ble_eq_true rfl, Nat.le_of_ble_eq_true rfl⟩) ⟨fun _ _ _ _ q => q, fun U hU hW => ⟨rfl, xb_at0 hAt hU hW, fun k q h => by simp at h⟩⟩ rfl rfl hl.1 rfl (lv_room (Nat.le_of_ble_eq_true rfl)) dN_holds_36 ⟨Nat.le_of_ble_eq_true rfl, Nat.le_of_ble_eq_true rfl⟩)

set_option maxHeartbeats 4000000 in
set_option maxRecDepth 100000 in
theorem cN_together_x1 (l : Launch) {s0 : State} {dC : Nat → ClassId} {dI : Nat → Nat → Nat} {cI cC cL cO : ClassId} (E : xb_Env l s0 dC dI (xtys cI cC cL cO)) (h0 : Nat) (fs : List Value) (n : Int32) (one : Int64) (hb9 : n.toInt64 < 0 ∨ ¬ n.toInt64 ≤ 1000) : xt_Met l yN_together [.code yN_together bN_together 4 (some (.long))] ({ frames := 7, cells := 1, slots := 6, locals := 107 }) (va_Pc [.ref h0, .int n, .long one] (fun U => xb_At s0 U ∧ va_P (dC, dI) classes [(h0, .inr (0, fs))] U.heap)) "java/lang/IllegalArgumentException" := by
  refine xt_Met.ofW (cc := bN_together) (maxL := 4) (ret := (some (.long))) (by decide) rfl ?_
  intro p e s m args below meth c s₁ B hml hex hv
  obtain ⟨rfl, hAt, hP⟩ := hv
  have hx := B.exec
  have hb := B.bytes
  have hr := B.returns
  have hts := xb_hts E hAt ([.ref h0, .int n, .long one] : List Value).toArray
  have hown : s.vm.findClass "NailRules" = some m.cls := findClass_of_methodNamed B.named
  have hlocks := B.notSynchronized
  have hK := xb_K E hAt
  have hl := lv_entry ([.ref h0, .int n, .long one]) (n := 4) (Nat.le_of_ble_eq_true rfl)
  rw [lg_entry_eq]
  generalize (lg_sl ([.ref h0, .int n, .long one]) ++ List.replicate (4 - (lg_sl ([.ref h0, .int n, .long one])).length) Slot.unset).toArray = ls at hl ⊢
  have hl : lv_has ls 4 [(0, .ref h0), (1, .int n), (2, .long one)] := hl
  refine lv_iload_n hx hb dN_together_0 rfl (lv_at hl 1 rfl) ?_
  refine lv_i2l hx hb dN_together_1 rfl ?_
  refine lv_lconst (v := 0) hx hb dN_together_2 (by decide) ?_
  refine lv_ldc2 (v := 1000) hx hb hown (hts _ xk_397) dN_together_3 ?_
  exact xt_pass hlocks hex (xt_runS (As := [.long n.toInt64, .long 0, .long 1000]) (rest := []) ⟨hx, hb, hml, hown, hts⟩ (cN_requireWithin_x l E n.toInt64 0 1000 (hb9)) (cwS 3 hts (xb_gi (List.forall_mem_cons.mpr ⟨xk_371, List.forall_mem_cons.mpr ⟨xk_372, List.forall_mem_cons.mpr ⟨xk_40, List.forall_mem_cons.mpr ⟨xk_373, fun _ h => absurd h List.not_mem_nil⟩⟩⟩⟩)) rfl rfl rfl (by decide +kernel) ⟨Nat.le_of_ble_eq_true rfl, Nat.le_of_ble_eq_true rfl⟩) ⟨fun _ _ _ _ q => q, fun U hU hW => ⟨rfl, xb_at0 hAt hU hW, fun k q h => by simp at h⟩⟩ rfl rfl hl.1 rfl (lv_room (Nat.le_of_ble_eq_true rfl)) dN_together_6 ⟨Nat.le_of_ble_eq_true rfl, Nat.le_of_ble_eq_true rfl⟩)

set_option maxHeartbeats 4000000 in
set_option maxRecDepth 100000 in
theorem cN_together_x2 (l : Launch) {s0 : State} {dC : Nat → ClassId} {dI : Nat → Nat → Nat} {cI cC cL cO : ClassId} (E : xb_Env l s0 dC dI (xtys cI cC cL cO)) (h0 : Nat) (fs : List Value) (n : Int32) (one : Int64) (ua : ¬ n.toInt64 < 0) (ub : n.toInt64 ≤ 1000) (hb9 : one < 0 ∨ ¬ one ≤ 1000000000000) : xt_Met l yN_together [.code yN_together bN_together 4 (some (.long))] ({ frames := 7, cells := 1, slots := 6, locals := 107 }) (va_Pc [.ref h0, .int n, .long one] (fun U => xb_At s0 U ∧ va_P (dC, dI) classes [(h0, .inr (0, fs))] U.heap)) "java/lang/IllegalArgumentException" := by
  refine xt_Met.ofW (cc := bN_together) (maxL := 4) (ret := (some (.long))) (by decide) rfl ?_
  intro p e s m args below meth c s₁ B hml hex hv
  obtain ⟨rfl, hAt, hP⟩ := hv
  have hx := B.exec
  have hb := B.bytes
  have hr := B.returns
  have hts := xb_hts E hAt ([.ref h0, .int n, .long one] : List Value).toArray
  have hown : s.vm.findClass "NailRules" = some m.cls := findClass_of_methodNamed B.named
  have hlocks := B.notSynchronized
  have hK := xb_K E hAt
  have hl := lv_entry ([.ref h0, .int n, .long one]) (n := 4) (Nat.le_of_ble_eq_true rfl)
  rw [lg_entry_eq]
  generalize (lg_sl ([.ref h0, .int n, .long one]) ++ List.replicate (4 - (lg_sl ([.ref h0, .int n, .long one])).length) Slot.unset).toArray = ls at hl ⊢
  have hl : lv_has ls 4 [(0, .ref h0), (1, .int n), (2, .long one)] := hl
  refine lv_iload_n hx hb dN_together_0 rfl (lv_at hl 1 rfl) ?_
  refine lv_i2l hx hb dN_together_1 rfl ?_
  refine lv_lconst (v := 0) hx hb dN_together_2 (by decide) ?_
  refine lv_ldc2 (v := 1000) hx hb hown (hts _ xk_397) dN_together_3 ?_
  refine xb_rd (W.runS (As := [.long n.toInt64, .long 0, .long 1000]) (rest := []) ⟨hx, hb, hml, hown, hts⟩ (cN_requireWithin l E n.toInt64 0 1000 (ua) (ub)) (cwS 3 hts (xb_gi (List.forall_mem_cons.mpr ⟨xk_371, List.forall_mem_cons.mpr ⟨xk_372, List.forall_mem_cons.mpr ⟨xk_40, List.forall_mem_cons.mpr ⟨xk_373, fun _ h => absurd h List.not_mem_nil⟩⟩⟩⟩)) rfl rfl rfl (by decide +kernel) ⟨Nat.le_of_ble_eq_true rfl, Nat.le_of_ble_eq_true rfl⟩) ⟨fun _ _ _ _ q => q, fun U hU hW => ⟨rfl, xb_at0 hAt hU hW, fun k q h => by simp at h⟩⟩ rfl rfl hl.1 rfl (lv_room (Nat.le_of_ble_eq_true rfl)) dN_together_6 ⟨Nat.zero_le _, Nat.zero_le _⟩) ?_
  refine lv_lload_n hx hb dN_together_9 rfl (lv_at hl 2 rfl) ?_
  refine lv_lconst (v := 0) hx hb dN_together_10 (by decide) ?_
  refine lv_ldc2 (v := 1000000000000) hx hb hown (hts _ xk_417) dN_together_11 ?_
  exact xt_pass hlocks hex (xt_runS (As := [.long one, .long 0, .long 1000000000000]) (rest := []) ⟨hx, hb, hml, hown, hts⟩ (cN_requireWithin_x l E one 0 1000000000000 (hb9)) (cwS 3 hts (xb_gi (List.forall_mem_cons.mpr ⟨xk_371, List.forall_mem_cons.mpr ⟨xk_372, List.forall_mem_cons.mpr ⟨xk_40, List.forall_mem_cons.mpr ⟨xk_373, fun _ h => absurd h List.not_mem_nil⟩⟩⟩⟩)) rfl rfl rfl (by decide +kernel) ⟨Nat.le_of_ble_eq_true rfl, Nat.le_of_ble_eq_true rfl⟩) ⟨fun _ _ _ _ q => q, fun U hU hW => ⟨rfl, xb_at0 hAt hU hW, fun k q h => by simp at h⟩⟩ rfl rfl hl.1 rfl (lv_room (Nat.le_of_ble_eq_true rfl)) dN_together_14 ⟨Nat.le_of_ble_eq_true rfl, Nat.le_of_ble_eq_true rfl⟩)

set_option maxHeartbeats 4000000 in
set_option maxRecDepth 100000 in
theorem cN_count_x1 (l : Launch) {s0 : State} {dC : Nat → ClassId} {dI : Nat → Nat → Nat} {cI cC cL cO : ClassId} (E : xb_Env l s0 dC dI (xtys cI cC cL cO)) (h0 : Nat) (fs : List Value) (load : Int64) (one : Int64) (hb9 : load < 0 ∨ ¬ load ≤ 1000000000000) : xt_Met l yN_count [.code yN_count bN_count 6 (some (.int))] ({ frames := 7, cells := 1, slots := 6, locals := 107 }) (va_Pc [.ref h0, .long load, .long one] (fun U => xb_At s0 U ∧ va_P (dC, dI) classes [(h0, .inr (0, fs))] U.heap)) "java/lang/IllegalArgumentException" := by
  refine xt_Met.ofW (cc := bN_count) (maxL := 6) (ret := (some (.int))) (by decide) rfl ?_
  intro p e s m args below meth c s₁ B hml hex hv
  obtain ⟨rfl, hAt, hP⟩ := hv
  have hx := B.exec
  have hb := B.bytes
  have hr := B.returns
  have hts := xb_hts E hAt ([.ref h0, .long load, .long one] : List Value).toArray
  have hown : s.vm.findClass "NailRules" = some m.cls := findClass_of_methodNamed B.named
  have hlocks := B.notSynchronized
  have hK := xb_K E hAt
  have hl := lv_entry ([.ref h0, .long load, .long one]) (n := 6) (Nat.le_of_ble_eq_true rfl)
  rw [lg_entry_eq]
  generalize (lg_sl ([.ref h0, .long load, .long one]) ++ List.replicate (6 - (lg_sl ([.ref h0, .long load, .long one])).length) Slot.unset).toArray = ls at hl ⊢
  have hl : lv_has ls 6 [(0, .ref h0), (1, .long load), (3, .long one)] := hl
  refine lv_lload_n hx hb dN_count_0 rfl (lv_at hl 1 rfl) ?_
  refine lv_lconst (v := 0) hx hb dN_count_1 (by decide) ?_
  refine lv_ldc2 (v := 1000000000000) hx hb hown (hts _ xk_417) dN_count_2 ?_
  exact xt_pass hlocks hex (xt_runS (As := [.long load, .long 0, .long 1000000000000]) (rest := []) ⟨hx, hb, hml, hown, hts⟩ (cN_requireWithin_x l E load 0 1000000000000 (hb9)) (cwS 3 hts (xb_gi (List.forall_mem_cons.mpr ⟨xk_371, List.forall_mem_cons.mpr ⟨xk_372, List.forall_mem_cons.mpr ⟨xk_40, List.forall_mem_cons.mpr ⟨xk_373, fun _ h => absurd h List.not_mem_nil⟩⟩⟩⟩)) rfl rfl rfl (by decide +kernel) ⟨Nat.le_of_ble_eq_true rfl, Nat.le_of_ble_eq_true rfl⟩) ⟨fun _ _ _ _ q => q, fun U hU hW => ⟨rfl, xb_at0 hAt hU hW, fun k q h => by simp at h⟩⟩ rfl rfl hl.1 rfl (lv_room (Nat.le_of_ble_eq_true rfl)) dN_count_5 ⟨Nat.le_of_ble_eq_true rfl, Nat.le_of_ble_eq_true rfl⟩)

set_option maxHeartbeats 4000000 in
set_option maxRecDepth 100000 in
theorem cN_count_x2 (l : Launch) {s0 : State} {dC : Nat → ClassId} {dI : Nat → Nat → Nat} {cI cC cL cO : ClassId} (E : xb_Env l s0 dC dI (xtys cI cC cL cO)) (h0 : Nat) (fs : List Value) (load : Int64) (one : Int64) (ua : ¬ load < 0) (ub : load ≤ 1000000000000) (hb9 : one < 0 ∨ ¬ one ≤ 1000000000000) : xt_Met l yN_count [.code yN_count bN_count 6 (some (.int))] ({ frames := 7, cells := 1, slots := 6, locals := 107 }) (va_Pc [.ref h0, .long load, .long one] (fun U => xb_At s0 U ∧ va_P (dC, dI) classes [(h0, .inr (0, fs))] U.heap)) "java/lang/IllegalArgumentException" := by
  refine xt_Met.ofW (cc := bN_count) (maxL := 6) (ret := (some (.int))) (by decide) rfl ?_
  intro p e s m args below meth c s₁ B hml hex hv
  obtain ⟨rfl, hAt, hP⟩ := hv
  have hx := B.exec
  have hb := B.bytes
  have hr := B.returns
  have hts := xb_hts E hAt ([.ref h0, .long load, .long one] : List Value).toArray
  have hown : s.vm.findClass "NailRules" = some m.cls := findClass_of_methodNamed B.named
  have hlocks := B.notSynchronized
  have hK := xb_K E hAt
  have hl := lv_entry ([.ref h0, .long load, .long one]) (n := 6) (Nat.le_of_ble_eq_true rfl)
  rw [lg_entry_eq]
  generalize (lg_sl ([.ref h0, .long load, .long one]) ++ List.replicate (6 - (lg_sl ([.ref h0, .long load, .long one])).length) Slot.unset).toArray = ls at hl ⊢
  have hl : lv_has ls 6 [(0, .ref h0), (1, .long load), (3, .long one)] := hl
  refine lv_lload_n hx hb dN_count_0 rfl (lv_at hl 1 rfl) ?_
  refine lv_lconst (v := 0) hx hb dN_count_1 (by decide) ?_
  refine lv_ldc2 (v := 1000000000000) hx hb hown (hts _ xk_417) dN_count_2 ?_
  refine xb_rd (W.runS (As := [.long load, .long 0, .long 1000000000000]) (rest := []) ⟨hx, hb, hml, hown, hts⟩ (cN_requireWithin l E load 0 1000000000000 (ua) (ub)) (cwS 3 hts (xb_gi (List.forall_mem_cons.mpr ⟨xk_371, List.forall_mem_cons.mpr ⟨xk_372, List.forall_mem_cons.mpr ⟨xk_40, List.forall_mem_cons.mpr ⟨xk_373, fun _ h => absurd h List.not_mem_nil⟩⟩⟩⟩)) rfl rfl rfl (by decide +kernel) ⟨Nat.le_of_ble_eq_true rfl, Nat.le_of_ble_eq_true rfl⟩) ⟨fun _ _ _ _ q => q, fun U hU hW => ⟨rfl, xb_at0 hAt hU hW, fun k q h => by simp at h⟩⟩ rfl rfl hl.1 rfl (lv_room (Nat.le_of_ble_eq_true rfl)) dN_count_5 ⟨Nat.zero_le _, Nat.zero_le _⟩) ?_
  refine lv_lload_n hx hb dN_count_8 rfl (lv_at hl 2 rfl) ?_
  refine lv_lconst (v := 0) hx hb dN_count_9 (by decide) ?_
  refine lv_ldc2 (v := 1000000000000) hx hb hown (hts _ xk_417) dN_count_10 ?_
  exact xt_pass hlocks hex (xt_runS (As := [.long one, .long 0, .long 1000000000000]) (rest := []) ⟨hx, hb, hml, hown, hts⟩ (cN_requireWithin_x l E one 0 1000000000000 (hb9)) (cwS 3 hts (xb_gi (List.forall_mem_cons.mpr ⟨xk_371, List.forall_mem_cons.mpr ⟨xk_372, List.forall_mem_cons.mpr ⟨xk_40, List.forall_mem_cons.mpr ⟨xk_373, fun _ h => absurd h List.not_mem_nil⟩⟩⟩⟩)) rfl rfl rfl (by decide +kernel) ⟨Nat.le_of_ble_eq_true rfl, Nat.le_of_ble_eq_true rfl⟩) ⟨fun _ _ _ _ q => q, fun U hU hW => ⟨rfl, xb_at0 hAt hU hW, fun k q h => by simp at h⟩⟩ rfl rfl hl.1 rfl (lv_room (Nat.le_of_ble_eq_true rfl)) dN_count_13 ⟨Nat.le_of_ble_eq_true rfl, Nat.le_of_ble_eq_true rfl⟩)

set_option maxHeartbeats 4000000 in
set_option maxRecDepth 100000 in
theorem cN_pattern_x1 (l : Launch) {s0 : State} {dC : Nat → ClassId} {dI : Nat → Nat → Nat} {cI cC cL cO : ClassId} (E : xb_Env l s0 dC dI (xtys cI cC cL cO)) (h0 : Nat) (fs : List Value) (kind : Int32) (w : Int32) (h : Int32) (n : Int32) (hb9 : kind < 0 ∨ ¬ kind < 4) : xt_Met l yN_pattern [.code yN_pattern bN_pattern 7 (some (.boolean))] ({ frames := 7, cells := 1, slots := 6, locals := 103 }) (va_Pc [.ref h0, .int kind, .int w, .int h, .int n] (fun U => xb_At s0 U ∧ va_P (dC, dI) classes [(h0, .inr (0, fs))] U.heap)) "java/lang/IndexOutOfBoundsException" := by
  refine xt_Met.ofW (cc := bN_pattern) (maxL := 7) (ret := (some (.boolean))) (by decide) rfl ?_
  intro p e s m args below meth c s₁ B hml hex hv
  obtain ⟨rfl, hAt, hP⟩ := hv
  have hx := B.exec
  have hb := B.bytes
  have hr := B.returns
  have hts := xb_hts E hAt ([.ref h0, .int kind, .int w, .int h, .int n] : List Value).toArray
  have hown : s.vm.findClass "NailRules" = some m.cls := findClass_of_methodNamed B.named
  have hlocks := B.notSynchronized
  have hK := xb_K E hAt
  have hl := lv_entry ([.ref h0, .int kind, .int w, .int h, .int n]) (n := 7) (Nat.le_of_ble_eq_true rfl)
  rw [lg_entry_eq]
  generalize (lg_sl ([.ref h0, .int kind, .int w, .int h, .int n]) ++ List.replicate (7 - (lg_sl ([.ref h0, .int kind, .int w, .int h, .int n])).length) Slot.unset).toArray = ls at hl ⊢
  have hl : lv_has ls 7 [(0, .ref h0), (1, .int kind), (2, .int w), (3, .int h), (4, .int n)] := hl
  refine lv_iload_n hx hb dN_pattern_0 rfl (lv_at hl 1 rfl) ?_
  refine lv_iconst (v := 4) hx hb dN_pattern_1 (by decide) ?_
  exact xt_pass hlocks hex (xt_runS (As := [.int kind, .int 4]) (rest := []) ⟨hx, hb, hml, hown, hts⟩ (cN_requireIndex_x l E kind 4 (hb9)) (cwS 2 hts (xb_gi (List.forall_mem_cons.mpr ⟨xk_288, List.forall_mem_cons.mpr ⟨xk_289, List.forall_mem_cons.mpr ⟨xk_40, List.forall_mem_cons.mpr ⟨xk_290, fun _ h => absurd h List.not_mem_nil⟩⟩⟩⟩)) rfl rfl rfl (by decide +kernel) ⟨Nat.le_of_ble_eq_true rfl, Nat.le_of_ble_eq_true rfl⟩) ⟨fun _ _ _ _ q => q, fun U hU hW => ⟨rfl, xb_at0 hAt hU hW, fun k q h => by simp at h⟩⟩ rfl rfl hl.1 rfl (lv_room (Nat.le_of_ble_eq_true rfl)) dN_pattern_2 ⟨Nat.le_of_ble_eq_true rfl, Nat.le_of_ble_eq_true rfl⟩)

set_option maxHeartbeats 4000000 in
set_option maxRecDepth 100000 in
theorem cN_pattern_x2 (l : Launch) {s0 : State} {dC : Nat → ClassId} {dI : Nat → Nat → Nat} {cI cC cL cO : ClassId} (E : xb_Env l s0 dC dI (xtys cI cC cL cO)) (h0 : Nat) (fs : List Value) (kind : Int32) (w : Int32) (h : Int32) (n : Int32) (ka : ¬ kind < 0) (kb : kind < 4) (hb9 : w.toInt64 < 1 ∨ ¬ w.toInt64 ≤ 100000) : xt_Met l yN_pattern [.code yN_pattern bN_pattern 7 (some (.boolean))] ({ frames := 7, cells := 1, slots := 6, locals := 107 }) (va_Pc [.ref h0, .int kind, .int w, .int h, .int n] (fun U => xb_At s0 U ∧ va_P (dC, dI) classes [(h0, .inr (0, fs))] U.heap)) "java/lang/IllegalArgumentException" := by
  refine xt_Met.ofW (cc := bN_pattern) (maxL := 7) (ret := (some (.boolean))) (by decide) rfl ?_
  intro p e s m args below meth c s₁ B hml hex hv
  obtain ⟨rfl, hAt, hP⟩ := hv
  have hx := B.exec
  have hb := B.bytes
  have hr := B.returns
  have hts := xb_hts E hAt ([.ref h0, .int kind, .int w, .int h, .int n] : List Value).toArray
  have hown : s.vm.findClass "NailRules" = some m.cls := findClass_of_methodNamed B.named
  have hlocks := B.notSynchronized
  have hK := xb_K E hAt
  have hl := lv_entry ([.ref h0, .int kind, .int w, .int h, .int n]) (n := 7) (Nat.le_of_ble_eq_true rfl)
  rw [lg_entry_eq]
  generalize (lg_sl ([.ref h0, .int kind, .int w, .int h, .int n]) ++ List.replicate (7 - (lg_sl ([.ref h0, .int kind, .int w, .int h, .int n])).length) Slot.unset).toArray = ls at hl ⊢
  have hl : lv_has ls 7 [(0, .ref h0), (1, .int kind), (2, .int w), (3, .int h), (4, .int n)] := hl
  refine lv_iload_n hx hb dN_pattern_0 rfl (lv_at hl 1 rfl) ?_
  refine lv_iconst (v := 4) hx hb dN_pattern_1 (by decide) ?_
  refine xb_rd (W.runS (As := [.int kind, .int 4]) (rest := []) ⟨hx, hb, hml, hown, hts⟩ (cN_requireIndex l E kind 4 (ka) (kb)) (cwS 2 hts (xb_gi (List.forall_mem_cons.mpr ⟨xk_288, List.forall_mem_cons.mpr ⟨xk_289, List.forall_mem_cons.mpr ⟨xk_40, List.forall_mem_cons.mpr ⟨xk_290, fun _ h => absurd h List.not_mem_nil⟩⟩⟩⟩)) rfl rfl rfl (by decide +kernel) ⟨Nat.le_of_ble_eq_true rfl, Nat.le_of_ble_eq_true rfl⟩) ⟨fun _ _ _ _ q => q, fun U hU hW => ⟨rfl, xb_at0 hAt hU hW, fun k q h => by simp at h⟩⟩ rfl rfl hl.1 rfl (lv_room (Nat.le_of_ble_eq_true rfl)) dN_pattern_2 ⟨Nat.zero_le _, Nat.zero_le _⟩) ?_
  refine lv_iload_n hx hb dN_pattern_5 rfl (lv_at hl 2 rfl) ?_
  refine lv_i2l hx hb dN_pattern_6 rfl ?_
  refine lv_lconst (v := 1) hx hb dN_pattern_7 (by decide) ?_
  refine lv_ldc2 (v := 100000) hx hb hown (hts _ xk_437) dN_pattern_8 ?_
  exact xt_pass hlocks hex (xt_runS (As := [.long w.toInt64, .long 1, .long 100000]) (rest := []) ⟨hx, hb, hml, hown, hts⟩ (cN_requireWithin_x l E w.toInt64 1 100000 (hb9)) (cwS 3 hts (xb_gi (List.forall_mem_cons.mpr ⟨xk_371, List.forall_mem_cons.mpr ⟨xk_372, List.forall_mem_cons.mpr ⟨xk_40, List.forall_mem_cons.mpr ⟨xk_373, fun _ h => absurd h List.not_mem_nil⟩⟩⟩⟩)) rfl rfl rfl (by decide +kernel) ⟨Nat.le_of_ble_eq_true rfl, Nat.le_of_ble_eq_true rfl⟩) ⟨fun _ _ _ _ q => q, fun U hU hW => ⟨rfl, xb_at0 hAt hU hW, fun k q h => by simp at h⟩⟩ rfl rfl hl.1 rfl (lv_room (Nat.le_of_ble_eq_true rfl)) dN_pattern_11 ⟨Nat.le_of_ble_eq_true rfl, Nat.le_of_ble_eq_true rfl⟩)

set_option maxHeartbeats 4000000 in
set_option maxRecDepth 100000 in
theorem cN_pattern_x3 (l : Launch) {s0 : State} {dC : Nat → ClassId} {dI : Nat → Nat → Nat} {cI cC cL cO : ClassId} (E : xb_Env l s0 dC dI (xtys cI cC cL cO)) (h0 : Nat) (fs : List Value) (kind : Int32) (w : Int32) (h : Int32) (n : Int32) (ka : ¬ kind < 0) (kb : kind < 4) (ua : ¬ w.toInt64 < 1) (ub : w.toInt64 ≤ 100000) (hb9 : h.toInt64 < 1 ∨ ¬ h.toInt64 ≤ 100000) : xt_Met l yN_pattern [.code yN_pattern bN_pattern 7 (some (.boolean))] ({ frames := 7, cells := 1, slots := 6, locals := 107 }) (va_Pc [.ref h0, .int kind, .int w, .int h, .int n] (fun U => xb_At s0 U ∧ va_P (dC, dI) classes [(h0, .inr (0, fs))] U.heap)) "java/lang/IllegalArgumentException" := by
  refine xt_Met.ofW (cc := bN_pattern) (maxL := 7) (ret := (some (.boolean))) (by decide) rfl ?_
  intro p e s m args below meth c s₁ B hml hex hv
  obtain ⟨rfl, hAt, hP⟩ := hv
  have hx := B.exec
  have hb := B.bytes
  have hr := B.returns
  have hts := xb_hts E hAt ([.ref h0, .int kind, .int w, .int h, .int n] : List Value).toArray
  have hown : s.vm.findClass "NailRules" = some m.cls := findClass_of_methodNamed B.named
  have hlocks := B.notSynchronized
  have hK := xb_K E hAt
  have hl := lv_entry ([.ref h0, .int kind, .int w, .int h, .int n]) (n := 7) (Nat.le_of_ble_eq_true rfl)
  rw [lg_entry_eq]
  generalize (lg_sl ([.ref h0, .int kind, .int w, .int h, .int n]) ++ List.replicate (7 - (lg_sl ([.ref h0, .int kind, .int w, .int h, .int n])).length) Slot.unset).toArray = ls at hl ⊢
  have hl : lv_has ls 7 [(0, .ref h0), (1, .int kind), (2, .int w), (3, .int h), (4, .int n)] := hl
  refine lv_iload_n hx hb dN_pattern_0 rfl (lv_at hl 1 rfl) ?_
  refine lv_iconst (v := 4) hx hb dN_pattern_1 (by decide) ?_
  refine xb_rd (W.runS (As := [.int kind, .int 4]) (rest := []) ⟨hx, hb, hml, hown, hts⟩ (cN_requireIndex l E kind 4 (ka) (kb)) (cwS 2 hts (xb_gi (List.forall_mem_cons.mpr ⟨xk_288, List.forall_mem_cons.mpr ⟨xk_289, List.forall_mem_cons.mpr ⟨xk_40, List.forall_mem_cons.mpr ⟨xk_290, fun _ h => absurd h List.not_mem_nil⟩⟩⟩⟩)) rfl rfl rfl (by decide +kernel) ⟨Nat.le_of_ble_eq_true rfl, Nat.le_of_ble_eq_true rfl⟩) ⟨fun _ _ _ _ q => q, fun U hU hW => ⟨rfl, xb_at0 hAt hU hW, fun k q h => by simp at h⟩⟩ rfl rfl hl.1 rfl (lv_room (Nat.le_of_ble_eq_true rfl)) dN_pattern_2 ⟨Nat.zero_le _, Nat.zero_le _⟩) ?_
  refine lv_iload_n hx hb dN_pattern_5 rfl (lv_at hl 2 rfl) ?_
  refine lv_i2l hx hb dN_pattern_6 rfl ?_
  refine lv_lconst (v := 1) hx hb dN_pattern_7 (by decide) ?_
  refine lv_ldc2 (v := 100000) hx hb hown (hts _ xk_437) dN_pattern_8 ?_
  refine xb_rd (W.runS (As := [.long w.toInt64, .long 1, .long 100000]) (rest := []) ⟨hx, hb, hml, hown, hts⟩ (cN_requireWithin l E w.toInt64 1 100000 (ua) (ub)) (cwS 3 hts (xb_gi (List.forall_mem_cons.mpr ⟨xk_371, List.forall_mem_cons.mpr ⟨xk_372, List.forall_mem_cons.mpr ⟨xk_40, List.forall_mem_cons.mpr ⟨xk_373, fun _ h => absurd h List.not_mem_nil⟩⟩⟩⟩)) rfl rfl rfl (by decide +kernel) ⟨Nat.le_of_ble_eq_true rfl, Nat.le_of_ble_eq_true rfl⟩) ⟨fun _ _ _ _ q => q, fun U hU hW => ⟨rfl, xb_at0 hAt hU hW, fun k q h => by simp at h⟩⟩ rfl rfl hl.1 rfl (lv_room (Nat.le_of_ble_eq_true rfl)) dN_pattern_11 ⟨Nat.zero_le _, Nat.zero_le _⟩) ?_
  refine lv_iload_n hx hb dN_pattern_14 rfl (lv_at hl 3 rfl) ?_
  refine lv_i2l hx hb dN_pattern_15 rfl ?_
  refine lv_lconst (v := 1) hx hb dN_pattern_16 (by decide) ?_
  refine lv_ldc2 (v := 100000) hx hb hown (hts _ xk_437) dN_pattern_17 ?_
  exact xt_pass hlocks hex (xt_runS (As := [.long h.toInt64, .long 1, .long 100000]) (rest := []) ⟨hx, hb, hml, hown, hts⟩ (cN_requireWithin_x l E h.toInt64 1 100000 (hb9)) (cwS 3 hts (xb_gi (List.forall_mem_cons.mpr ⟨xk_371, List.forall_mem_cons.mpr ⟨xk_372, List.forall_mem_cons.mpr ⟨xk_40, List.forall_mem_cons.mpr ⟨xk_373, fun _ h => absurd h List.not_mem_nil⟩⟩⟩⟩)) rfl rfl rfl (by decide +kernel) ⟨Nat.le_of_ble_eq_true rfl, Nat.le_of_ble_eq_true rfl⟩) ⟨fun _ _ _ _ q => q, fun U hU hW => ⟨rfl, xb_at0 hAt hU hW, fun k q h => by simp at h⟩⟩ rfl rfl hl.1 rfl (lv_room (Nat.le_of_ble_eq_true rfl)) dN_pattern_20 ⟨Nat.le_of_ble_eq_true rfl, Nat.le_of_ble_eq_true rfl⟩)

set_option maxHeartbeats 4000000 in
set_option maxRecDepth 100000 in
theorem cN_pattern_x4 (l : Launch) {s0 : State} {dC : Nat → ClassId} {dI : Nat → Nat → Nat} {cI cC cL cO : ClassId} (E : xb_Env l s0 dC dI (xtys cI cC cL cO)) (h0 : Nat) (fs : List Value) (kind : Int32) (w : Int32) (h : Int32) (n : Int32) (ka : ¬ kind < 0) (kb : kind < 4) (ua : ¬ w.toInt64 < 1) (ub : w.toInt64 ≤ 100000) (ga : ¬ h.toInt64 < 1) (gb : h.toInt64 ≤ 100000) (hb9 : n.toInt64 < 1 ∨ ¬ n.toInt64 ≤ 100) : xt_Met l yN_pattern [.code yN_pattern bN_pattern 7 (some (.boolean))] ({ frames := 7, cells := 1, slots := 6, locals := 107 }) (va_Pc [.ref h0, .int kind, .int w, .int h, .int n] (fun U => xb_At s0 U ∧ va_P (dC, dI) classes [(h0, .inr (0, fs))] U.heap)) "java/lang/IllegalArgumentException" := by
  refine xt_Met.ofW (cc := bN_pattern) (maxL := 7) (ret := (some (.boolean))) (by decide) rfl ?_
  intro p e s m args below meth c s₁ B hml hex hv
  obtain ⟨rfl, hAt, hP⟩ := hv
  have hx := B.exec
  have hb := B.bytes
  have hr := B.returns
  have hts := xb_hts E hAt ([.ref h0, .int kind, .int w, .int h, .int n] : List Value).toArray
  have hown : s.vm.findClass "NailRules" = some m.cls := findClass_of_methodNamed B.named
  have hlocks := B.notSynchronized
  have hK := xb_K E hAt
  have hl := lv_entry ([.ref h0, .int kind, .int w, .int h, .int n]) (n := 7) (Nat.le_of_ble_eq_true rfl)
  rw [lg_entry_eq]
  generalize (lg_sl ([.ref h0, .int kind, .int w, .int h, .int n]) ++ List.replicate (7 - (lg_sl ([.ref h0, .int kind, .int w, .int h, .int n])).length) Slot.unset).toArray = ls at hl ⊢
  have hl : lv_has ls 7 [(0, .ref h0), (1, .int kind), (2, .int w), (3, .int h), (4, .int n)] := hl
  refine lv_iload_n hx hb dN_pattern_0 rfl (lv_at hl 1 rfl) ?_
  refine lv_iconst (v := 4) hx hb dN_pattern_1 (by decide) ?_
  refine xb_rd (W.runS (As := [.int kind, .int 4]) (rest := []) ⟨hx, hb, hml, hown, hts⟩ (cN_requireIndex l E kind 4 (ka) (kb)) (cwS 2 hts (xb_gi (List.forall_mem_cons.mpr ⟨xk_288, List.forall_mem_cons.mpr ⟨xk_289, List.forall_mem_cons.mpr ⟨xk_40, List.forall_mem_cons.mpr ⟨xk_290, fun _ h => absurd h List.not_mem_nil⟩⟩⟩⟩)) rfl rfl rfl (by decide +kernel) ⟨Nat.le_of_ble_eq_true rfl, Nat.le_of_ble_eq_true rfl⟩) ⟨fun _ _ _ _ q => q, fun U hU hW => ⟨rfl, xb_at0 hAt hU hW, fun k q h => by simp at h⟩⟩ rfl rfl hl.1 rfl (lv_room (Nat.le_of_ble_eq_true rfl)) dN_pattern_2 ⟨Nat.zero_le _, Nat.zero_le _⟩) ?_
  refine lv_iload_n hx hb dN_pattern_5 rfl (lv_at hl 2 rfl) ?_
  refine lv_i2l hx hb dN_pattern_6 rfl ?_
  refine lv_lconst (v := 1) hx hb dN_pattern_7 (by decide) ?_
  refine lv_ldc2 (v := 100000) hx hb hown (hts _ xk_437) dN_pattern_8 ?_
  refine xb_rd (W.runS (As := [.long w.toInt64, .long 1, .long 100000]) (rest := []) ⟨hx, hb, hml, hown, hts⟩ (cN_requireWithin l E w.toInt64 1 100000 (ua) (ub)) (cwS 3 hts (xb_gi (List.forall_mem_cons.mpr ⟨xk_371, List.forall_mem_cons.mpr ⟨xk_372, List.forall_mem_cons.mpr ⟨xk_40, List.forall_mem_cons.mpr ⟨xk_373, fun _ h => absurd h List.not_mem_nil⟩⟩⟩⟩)) rfl rfl rfl (by decide +kernel) ⟨Nat.le_of_ble_eq_true rfl, Nat.le_of_ble_eq_true rfl⟩) ⟨fun _ _ _ _ q => q, fun U hU hW => ⟨rfl, xb_at0 hAt hU hW, fun k q h => by simp at h⟩⟩ rfl rfl hl.1 rfl (lv_room (Nat.le_of_ble_eq_true rfl)) dN_pattern_11 ⟨Nat.zero_le _, Nat.zero_le _⟩) ?_
  refine lv_iload_n hx hb dN_pattern_14 rfl (lv_at hl 3 rfl) ?_
  refine lv_i2l hx hb dN_pattern_15 rfl ?_
  refine lv_lconst (v := 1) hx hb dN_pattern_16 (by decide) ?_
  refine lv_ldc2 (v := 100000) hx hb hown (hts _ xk_437) dN_pattern_17 ?_
  refine xb_rd (W.runS (As := [.long h.toInt64, .long 1, .long 100000]) (rest := []) ⟨hx, hb, hml, hown, hts⟩ (cN_requireWithin l E h.toInt64 1 100000 (ga) (gb)) (cwS 3 hts (xb_gi (List.forall_mem_cons.mpr ⟨xk_371, List.forall_mem_cons.mpr ⟨xk_372, List.forall_mem_cons.mpr ⟨xk_40, List.forall_mem_cons.mpr ⟨xk_373, fun _ h => absurd h List.not_mem_nil⟩⟩⟩⟩)) rfl rfl rfl (by decide +kernel) ⟨Nat.le_of_ble_eq_true rfl, Nat.le_of_ble_eq_true rfl⟩) ⟨fun _ _ _ _ q => q, fun U hU hW => ⟨rfl, xb_at0 hAt hU hW, fun k q h => by simp at h⟩⟩ rfl rfl hl.1 rfl (lv_room (Nat.le_of_ble_eq_true rfl)) dN_pattern_20 ⟨Nat.zero_le _, Nat.zero_le _⟩) ?_
  refine lv_iload hx hb dN_pattern_23 (lv_at hl 4 rfl) ?_
  refine lv_i2l hx hb dN_pattern_25 rfl ?_
  refine lv_lconst (v := 1) hx hb dN_pattern_26 (by decide) ?_
  refine lv_ldc2 (v := 100) hx hb hown (hts _ xk_370) dN_pattern_27 ?_
  exact xt_pass hlocks hex (xt_runS (As := [.long n.toInt64, .long 1, .long 100]) (rest := []) ⟨hx, hb, hml, hown, hts⟩ (cN_requireWithin_x l E n.toInt64 1 100 (hb9)) (cwS 3 hts (xb_gi (List.forall_mem_cons.mpr ⟨xk_371, List.forall_mem_cons.mpr ⟨xk_372, List.forall_mem_cons.mpr ⟨xk_40, List.forall_mem_cons.mpr ⟨xk_373, fun _ h => absurd h List.not_mem_nil⟩⟩⟩⟩)) rfl rfl rfl (by decide +kernel) ⟨Nat.le_of_ble_eq_true rfl, Nat.le_of_ble_eq_true rfl⟩) ⟨fun _ _ _ _ q => q, fun U hU hW => ⟨rfl, xb_at0 hAt hU hW, fun k q h => by simp at h⟩⟩ rfl rfl hl.1 rfl (lv_room (Nat.le_of_ble_eq_true rfl)) dN_pattern_30 ⟨Nat.le_of_ble_eq_true rfl, Nat.le_of_ble_eq_true rfl⟩)

set_option maxHeartbeats 4000000 in
set_option maxRecDepth 100000 in
theorem cN_keeps_x1 (l : Launch) {s0 : State} {dC : Nat → ClassId} {dI : Nat → Nat → Nat} {cI cC cL cO : ClassId} (E : xb_Env l s0 dC dI (xtys cI cC cL cO)) (h0 : Nat) (fs : List Value) (kind : Int32) (w : Int32) (h : Int32) (hb9 : kind < 0 ∨ ¬ kind < 4) : xt_Met l yN_keeps [.code yN_keeps bN_keeps 6 (some (.int))] ({ frames := 7, cells := 1, slots := 6, locals := 103 }) (va_Pc [.ref h0, .int kind, .int w, .int h] (fun U => xb_At s0 U ∧ va_P (dC, dI) classes [(h0, .inr (0, fs))] U.heap)) "java/lang/IndexOutOfBoundsException" := by
  refine xt_Met.ofW (cc := bN_keeps) (maxL := 6) (ret := (some (.int))) (by decide) rfl ?_
  intro p e s m args below meth c s₁ B hml hex hv
  obtain ⟨rfl, hAt, hP⟩ := hv
  have hx := B.exec
  have hb := B.bytes
  have hr := B.returns
  have hts := xb_hts E hAt ([.ref h0, .int kind, .int w, .int h] : List Value).toArray
  have hown : s.vm.findClass "NailRules" = some m.cls := findClass_of_methodNamed B.named
  have hlocks := B.notSynchronized
  have hK := xb_K E hAt
  have hl := lv_entry ([.ref h0, .int kind, .int w, .int h]) (n := 6) (Nat.le_of_ble_eq_true rfl)
  rw [lg_entry_eq]
  generalize (lg_sl ([.ref h0, .int kind, .int w, .int h]) ++ List.replicate (6 - (lg_sl ([.ref h0, .int kind, .int w, .int h])).length) Slot.unset).toArray = ls at hl ⊢
  have hl : lv_has ls 6 [(0, .ref h0), (1, .int kind), (2, .int w), (3, .int h)] := hl
  refine lv_iload_n hx hb dN_keeps_0 rfl (lv_at hl 1 rfl) ?_
  refine lv_iconst (v := 4) hx hb dN_keeps_1 (by decide) ?_
  exact xt_pass hlocks hex (xt_runS (As := [.int kind, .int 4]) (rest := []) ⟨hx, hb, hml, hown, hts⟩ (cN_requireIndex_x l E kind 4 (hb9)) (cwS 2 hts (xb_gi (List.forall_mem_cons.mpr ⟨xk_288, List.forall_mem_cons.mpr ⟨xk_289, List.forall_mem_cons.mpr ⟨xk_40, List.forall_mem_cons.mpr ⟨xk_290, fun _ h => absurd h List.not_mem_nil⟩⟩⟩⟩)) rfl rfl rfl (by decide +kernel) ⟨Nat.le_of_ble_eq_true rfl, Nat.le_of_ble_eq_true rfl⟩) ⟨fun _ _ _ _ q => q, fun U hU hW => ⟨rfl, xb_at0 hAt hU hW, fun k q h => by simp at h⟩⟩ rfl rfl hl.1 rfl (lv_room (Nat.le_of_ble_eq_true rfl)) dN_keeps_2 ⟨Nat.le_of_ble_eq_true rfl, Nat.le_of_ble_eq_true rfl⟩)

set_option maxHeartbeats 4000000 in
set_option maxRecDepth 100000 in
theorem cN_keeps_x2 (l : Launch) {s0 : State} {dC : Nat → ClassId} {dI : Nat → Nat → Nat} {cI cC cL cO : ClassId} (E : xb_Env l s0 dC dI (xtys cI cC cL cO)) (h0 : Nat) (fs : List Value) (kind : Int32) (w : Int32) (h : Int32) (ka : ¬ kind < 0) (kb : kind < 4) (hb9 : w.toInt64 < 1 ∨ ¬ w.toInt64 ≤ 100000) : xt_Met l yN_keeps [.code yN_keeps bN_keeps 6 (some (.int))] ({ frames := 7, cells := 1, slots := 6, locals := 107 }) (va_Pc [.ref h0, .int kind, .int w, .int h] (fun U => xb_At s0 U ∧ va_P (dC, dI) classes [(h0, .inr (0, fs))] U.heap)) "java/lang/IllegalArgumentException" := by
  refine xt_Met.ofW (cc := bN_keeps) (maxL := 6) (ret := (some (.int))) (by decide) rfl ?_
  intro p e s m args below meth c s₁ B hml hex hv
  obtain ⟨rfl, hAt, hP⟩ := hv
  have hx := B.exec
  have hb := B.bytes
  have hr := B.returns
  have hts := xb_hts E hAt ([.ref h0, .int kind, .int w, .int h] : List Value).toArray
  have hown : s.vm.findClass "NailRules" = some m.cls := findClass_of_methodNamed B.named
  have hlocks := B.notSynchronized
  have hK := xb_K E hAt
  have hl := lv_entry ([.ref h0, .int kind, .int w, .int h]) (n := 6) (Nat.le_of_ble_eq_true rfl)
  rw [lg_entry_eq]
  generalize (lg_sl ([.ref h0, .int kind, .int w, .int h]) ++ List.replicate (6 - (lg_sl ([.ref h0, .int kind, .int w, .int h])).length) Slot.unset).toArray = ls at hl ⊢
  have hl : lv_has ls 6 [(0, .ref h0), (1, .int kind), (2, .int w), (3, .int h)] := hl
  refine lv_iload_n hx hb dN_keeps_0 rfl (lv_at hl 1 rfl) ?_
  refine lv_iconst (v := 4) hx hb dN_keeps_1 (by decide) ?_
  refine xb_rd (W.runS (As := [.int kind, .int 4]) (rest := []) ⟨hx, hb, hml, hown, hts⟩ (cN_requireIndex l E kind 4 (ka) (kb)) (cwS 2 hts (xb_gi (List.forall_mem_cons.mpr ⟨xk_288, List.forall_mem_cons.mpr ⟨xk_289, List.forall_mem_cons.mpr ⟨xk_40, List.forall_mem_cons.mpr ⟨xk_290, fun _ h => absurd h List.not_mem_nil⟩⟩⟩⟩)) rfl rfl rfl (by decide +kernel) ⟨Nat.le_of_ble_eq_true rfl, Nat.le_of_ble_eq_true rfl⟩) ⟨fun _ _ _ _ q => q, fun U hU hW => ⟨rfl, xb_at0 hAt hU hW, fun k q h => by simp at h⟩⟩ rfl rfl hl.1 rfl (lv_room (Nat.le_of_ble_eq_true rfl)) dN_keeps_2 ⟨Nat.zero_le _, Nat.zero_le _⟩) ?_
  refine lv_iload_n hx hb dN_keeps_5 rfl (lv_at hl 2 rfl) ?_
  refine lv_i2l hx hb dN_keeps_6 rfl ?_
  refine lv_lconst (v := 1) hx hb dN_keeps_7 (by decide) ?_
  refine lv_ldc2 (v := 100000) hx hb hown (hts _ xk_437) dN_keeps_8 ?_
  exact xt_pass hlocks hex (xt_runS (As := [.long w.toInt64, .long 1, .long 100000]) (rest := []) ⟨hx, hb, hml, hown, hts⟩ (cN_requireWithin_x l E w.toInt64 1 100000 (hb9)) (cwS 3 hts (xb_gi (List.forall_mem_cons.mpr ⟨xk_371, List.forall_mem_cons.mpr ⟨xk_372, List.forall_mem_cons.mpr ⟨xk_40, List.forall_mem_cons.mpr ⟨xk_373, fun _ h => absurd h List.not_mem_nil⟩⟩⟩⟩)) rfl rfl rfl (by decide +kernel) ⟨Nat.le_of_ble_eq_true rfl, Nat.le_of_ble_eq_true rfl⟩) ⟨fun _ _ _ _ q => q, fun U hU hW => ⟨rfl, xb_at0 hAt hU hW, fun k q h => by simp at h⟩⟩ rfl rfl hl.1 rfl (lv_room (Nat.le_of_ble_eq_true rfl)) dN_keeps_11 ⟨Nat.le_of_ble_eq_true rfl, Nat.le_of_ble_eq_true rfl⟩)

set_option maxHeartbeats 4000000 in
set_option maxRecDepth 100000 in
theorem cN_keeps_x3 (l : Launch) {s0 : State} {dC : Nat → ClassId} {dI : Nat → Nat → Nat} {cI cC cL cO : ClassId} (E : xb_Env l s0 dC dI (xtys cI cC cL cO)) (h0 : Nat) (fs : List Value) (kind : Int32) (w : Int32) (h : Int32) (ka : ¬ kind < 0) (kb : kind < 4) (ua : ¬ w.toInt64 < 1) (ub : w.toInt64 ≤ 100000) (hb9 : h.toInt64 < 1 ∨ ¬ h.toInt64 ≤ 100000) : xt_Met l yN_keeps [.code yN_keeps bN_keeps 6 (some (.int))] ({ frames := 7, cells := 1, slots := 6, locals := 107 }) (va_Pc [.ref h0, .int kind, .int w, .int h] (fun U => xb_At s0 U ∧ va_P (dC, dI) classes [(h0, .inr (0, fs))] U.heap)) "java/lang/IllegalArgumentException" := by
  refine xt_Met.ofW (cc := bN_keeps) (maxL := 6) (ret := (some (.int))) (by decide) rfl ?_
  intro p e s m args below meth c s₁ B hml hex hv
  obtain ⟨rfl, hAt, hP⟩ := hv
  have hx := B.exec
  have hb := B.bytes
  have hr := B.returns
  have hts := xb_hts E hAt ([.ref h0, .int kind, .int w, .int h] : List Value).toArray
  have hown : s.vm.findClass "NailRules" = some m.cls := findClass_of_methodNamed B.named
  have hlocks := B.notSynchronized
  have hK := xb_K E hAt
  have hl := lv_entry ([.ref h0, .int kind, .int w, .int h]) (n := 6) (Nat.le_of_ble_eq_true rfl)
  rw [lg_entry_eq]
  generalize (lg_sl ([.ref h0, .int kind, .int w, .int h]) ++ List.replicate (6 - (lg_sl ([.ref h0, .int kind, .int w, .int h])).length) Slot.unset).toArray = ls at hl ⊢
  have hl : lv_has ls 6 [(0, .ref h0), (1, .int kind), (2, .int w), (3, .int h)] := hl
  refine lv_iload_n hx hb dN_keeps_0 rfl (lv_at hl 1 rfl) ?_
  refine lv_iconst (v := 4) hx hb dN_keeps_1 (by decide) ?_
  refine xb_rd (W.runS (As := [.int kind, .int 4]) (rest := []) ⟨hx, hb, hml, hown, hts⟩ (cN_requireIndex l E kind 4 (ka) (kb)) (cwS 2 hts (xb_gi (List.forall_mem_cons.mpr ⟨xk_288, List.forall_mem_cons.mpr ⟨xk_289, List.forall_mem_cons.mpr ⟨xk_40, List.forall_mem_cons.mpr ⟨xk_290, fun _ h => absurd h List.not_mem_nil⟩⟩⟩⟩)) rfl rfl rfl (by decide +kernel) ⟨Nat.le_of_ble_eq_true rfl, Nat.le_of_ble_eq_true rfl⟩) ⟨fun _ _ _ _ q => q, fun U hU hW => ⟨rfl, xb_at0 hAt hU hW, fun k q h => by simp at h⟩⟩ rfl rfl hl.1 rfl (lv_room (Nat.le_of_ble_eq_true rfl)) dN_keeps_2 ⟨Nat.zero_le _, Nat.zero_le _⟩) ?_
  refine lv_iload_n hx hb dN_keeps_5 rfl (lv_at hl 2 rfl) ?_
  refine lv_i2l hx hb dN_keeps_6 rfl ?_
  refine lv_lconst (v := 1) hx hb dN_keeps_7 (by decide) ?_
  refine lv_ldc2 (v := 100000) hx hb hown (hts _ xk_437) dN_keeps_8 ?_
  refine xb_rd (W.runS (As := [.long w.toInt64, .long 1, .long 100000]) (rest := []) ⟨hx, hb, hml, hown, hts⟩ (cN_requireWithin l E w.toInt64 1 100000 (ua) (ub)) (cwS 3 hts (xb_gi (List.forall_mem_cons.mpr ⟨xk_371, List.forall_mem_cons.mpr ⟨xk_372, List.forall_mem_cons.mpr ⟨xk_40, List.forall_mem_cons.mpr ⟨xk_373, fun _ h => absurd h List.not_mem_nil⟩⟩⟩⟩)) rfl rfl rfl (by decide +kernel) ⟨Nat.le_of_ble_eq_true rfl, Nat.le_of_ble_eq_true rfl⟩) ⟨fun _ _ _ _ q => q, fun U hU hW => ⟨rfl, xb_at0 hAt hU hW, fun k q h => by simp at h⟩⟩ rfl rfl hl.1 rfl (lv_room (Nat.le_of_ble_eq_true rfl)) dN_keeps_11 ⟨Nat.zero_le _, Nat.zero_le _⟩) ?_
  refine lv_iload_n hx hb dN_keeps_14 rfl (lv_at hl 3 rfl) ?_
  refine lv_i2l hx hb dN_keeps_15 rfl ?_
  refine lv_lconst (v := 1) hx hb dN_keeps_16 (by decide) ?_
  refine lv_ldc2 (v := 100000) hx hb hown (hts _ xk_437) dN_keeps_17 ?_
  exact xt_pass hlocks hex (xt_runS (As := [.long h.toInt64, .long 1, .long 100000]) (rest := []) ⟨hx, hb, hml, hown, hts⟩ (cN_requireWithin_x l E h.toInt64 1 100000 (hb9)) (cwS 3 hts (xb_gi (List.forall_mem_cons.mpr ⟨xk_371, List.forall_mem_cons.mpr ⟨xk_372, List.forall_mem_cons.mpr ⟨xk_40, List.forall_mem_cons.mpr ⟨xk_373, fun _ h => absurd h List.not_mem_nil⟩⟩⟩⟩)) rfl rfl rfl (by decide +kernel) ⟨Nat.le_of_ble_eq_true rfl, Nat.le_of_ble_eq_true rfl⟩) ⟨fun _ _ _ _ q => q, fun U hU hW => ⟨rfl, xb_at0 hAt hU hW, fun k q h => by simp at h⟩⟩ rfl rfl hl.1 rfl (lv_room (Nat.le_of_ble_eq_true rfl)) dN_keeps_20 ⟨Nat.le_of_ble_eq_true rfl, Nat.le_of_ble_eq_true rfl⟩)

set_option maxHeartbeats 4000000 in
set_option maxRecDepth 100000 in
theorem cN_hole_x1 (l : Launch) {s0 : State} {dC : Nat → ClassId} {dI : Nat → Nat → Nat} {cI cC cL cO : ClassId} (E : xb_Env l s0 dC dI (xtys cI cC cL cO)) (h0 : Nat) (fs : List Value) (kind : Int32) (hb9 : kind < 0 ∨ ¬ kind < 4) : xt_Met l yN_hole [.code yN_hole bN_hole 3 (some (.int))] ({ frames := 7, cells := 1, slots := 6, locals := 103 }) (va_Pc [.ref h0, .int kind] (fun U => xb_At s0 U ∧ va_P (dC, dI) classes [(h0, .inr (0, fs))] U.heap)) "java/lang/IndexOutOfBoundsException" := by
  refine xt_Met.ofW (cc := bN_hole) (maxL := 3) (ret := (some (.int))) (by decide) rfl ?_
  intro p e s m args below meth c s₁ B hml hex hv
  obtain ⟨rfl, hAt, hP⟩ := hv
  have hx := B.exec
  have hb := B.bytes
  have hr := B.returns
  have hts := xb_hts E hAt ([.ref h0, .int kind] : List Value).toArray
  have hown : s.vm.findClass "NailRules" = some m.cls := findClass_of_methodNamed B.named
  have hlocks := B.notSynchronized
  have hK := xb_K E hAt
  have hl := lv_entry ([.ref h0, .int kind]) (n := 3) (Nat.le_of_ble_eq_true rfl)
  rw [lg_entry_eq]
  generalize (lg_sl ([.ref h0, .int kind]) ++ List.replicate (3 - (lg_sl ([.ref h0, .int kind])).length) Slot.unset).toArray = ls at hl ⊢
  have hl : lv_has ls 3 [(0, .ref h0), (1, .int kind)] := hl
  refine lv_iload_n hx hb dN_hole_0 rfl (lv_at hl 1 rfl) ?_
  refine lv_iconst (v := 4) hx hb dN_hole_1 (by decide) ?_
  exact xt_pass hlocks hex (xt_runS (As := [.int kind, .int 4]) (rest := []) ⟨hx, hb, hml, hown, hts⟩ (cN_requireIndex_x l E kind 4 (hb9)) (cwS 2 hts (xb_gi (List.forall_mem_cons.mpr ⟨xk_288, List.forall_mem_cons.mpr ⟨xk_289, List.forall_mem_cons.mpr ⟨xk_40, List.forall_mem_cons.mpr ⟨xk_290, fun _ h => absurd h List.not_mem_nil⟩⟩⟩⟩)) rfl rfl rfl (by decide +kernel) ⟨Nat.le_of_ble_eq_true rfl, Nat.le_of_ble_eq_true rfl⟩) ⟨fun _ _ _ _ q => q, fun U hU hW => ⟨rfl, xb_at0 hAt hU hW, fun k q h => by simp at h⟩⟩ rfl rfl hl.1 rfl (lv_room (Nat.le_of_ble_eq_true rfl)) dN_hole_2 ⟨Nat.le_of_ble_eq_true rfl, Nat.le_of_ble_eq_true rfl⟩)

set_option maxHeartbeats 4000000 in
set_option maxRecDepth 100000 in
theorem cN_thick_x1 (l : Launch) {s0 : State} {dC : Nat → ClassId} {dI : Nat → Nat → Nat} {cI cC cL cO : ClassId} (E : xb_Env l s0 dC dI (xtys cI cC cL cO)) (h0 : Nat) (fs : List Value) (kind : Int32) (tk : Int32) (hb9 : kind < 0 ∨ ¬ kind < 4) : xt_Met l yN_thick [.code yN_thick bN_thick 3 (some (.boolean))] ({ frames := 7, cells := 1, slots := 6, locals := 103 }) (va_Pc [.ref h0, .int kind, .int tk] (fun U => xb_At s0 U ∧ va_P (dC, dI) classes [(h0, .inr (0, fs))] U.heap)) "java/lang/IndexOutOfBoundsException" := by
  refine xt_Met.ofW (cc := bN_thick) (maxL := 3) (ret := (some (.boolean))) (by decide) rfl ?_
  intro p e s m args below meth c s₁ B hml hex hv
  obtain ⟨rfl, hAt, hP⟩ := hv
  have hx := B.exec
  have hb := B.bytes
  have hr := B.returns
  have hts := xb_hts E hAt ([.ref h0, .int kind, .int tk] : List Value).toArray
  have hown : s.vm.findClass "NailRules" = some m.cls := findClass_of_methodNamed B.named
  have hlocks := B.notSynchronized
  have hK := xb_K E hAt
  have hl := lv_entry ([.ref h0, .int kind, .int tk]) (n := 3) (Nat.le_of_ble_eq_true rfl)
  rw [lg_entry_eq]
  generalize (lg_sl ([.ref h0, .int kind, .int tk]) ++ List.replicate (3 - (lg_sl ([.ref h0, .int kind, .int tk])).length) Slot.unset).toArray = ls at hl ⊢
  have hl : lv_has ls 3 [(0, .ref h0), (1, .int kind), (2, .int tk)] := hl
  refine lv_iload_n hx hb dN_thick_0 rfl (lv_at hl 1 rfl) ?_
  refine lv_iconst (v := 4) hx hb dN_thick_1 (by decide) ?_
  exact xt_pass hlocks hex (xt_runS (As := [.int kind, .int 4]) (rest := []) ⟨hx, hb, hml, hown, hts⟩ (cN_requireIndex_x l E kind 4 (hb9)) (cwS 2 hts (xb_gi (List.forall_mem_cons.mpr ⟨xk_288, List.forall_mem_cons.mpr ⟨xk_289, List.forall_mem_cons.mpr ⟨xk_40, List.forall_mem_cons.mpr ⟨xk_290, fun _ h => absurd h List.not_mem_nil⟩⟩⟩⟩)) rfl rfl rfl (by decide +kernel) ⟨Nat.le_of_ble_eq_true rfl, Nat.le_of_ble_eq_true rfl⟩) ⟨fun _ _ _ _ q => q, fun U hU hW => ⟨rfl, xb_at0 hAt hU hW, fun k q h => by simp at h⟩⟩ rfl rfl hl.1 rfl (lv_room (Nat.le_of_ble_eq_true rfl)) dN_thick_2 ⟨Nat.le_of_ble_eq_true rfl, Nat.le_of_ble_eq_true rfl⟩)

set_option maxHeartbeats 4000000 in
set_option maxRecDepth 100000 in
theorem cN_thick_x2 (l : Launch) {s0 : State} {dC : Nat → ClassId} {dI : Nat → Nat → Nat} {cI cC cL cO : ClassId} (E : xb_Env l s0 dC dI (xtys cI cC cL cO)) (h0 : Nat) (fs : List Value) (kind : Int32) (tk : Int32) (ka : ¬ kind < 0) (kb : kind < 4) (hb9 : ¬ 0 ≤ tk) : xt_Met l yN_thick [.code yN_thick bN_thick 3 (some (.boolean))] ({ frames := 6, cells := 1, slots := 6, locals := 82 }) (va_Pc [.ref h0, .int kind, .int tk] (fun U => xb_At s0 U ∧ va_P (dC, dI) classes [(h0, .inr (0, fs))] U.heap)) "java/lang/IllegalArgumentException" := by
  refine xt_Met.ofW (cc := bN_thick) (maxL := 3) (ret := (some (.boolean))) (by decide) rfl ?_
  intro p e s m args below meth c s₁ B hml hex hv
  obtain ⟨rfl, hAt, hP⟩ := hv
  have hx := B.exec
  have hb := B.bytes
  have hr := B.returns
  have hts := xb_hts E hAt ([.ref h0, .int kind, .int tk] : List Value).toArray
  have hown : s.vm.findClass "NailRules" = some m.cls := findClass_of_methodNamed B.named
  have hlocks := B.notSynchronized
  have hK := xb_K E hAt
  have hl := lv_entry ([.ref h0, .int kind, .int tk]) (n := 3) (Nat.le_of_ble_eq_true rfl)
  rw [lg_entry_eq]
  generalize (lg_sl ([.ref h0, .int kind, .int tk]) ++ List.replicate (3 - (lg_sl ([.ref h0, .int kind, .int tk])).length) Slot.unset).toArray = ls at hl ⊢
  have hl : lv_has ls 3 [(0, .ref h0), (1, .int kind), (2, .int tk)] := hl
  refine lv_iload_n hx hb dN_thick_0 rfl (lv_at hl 1 rfl) ?_
  refine lv_iconst (v := 4) hx hb dN_thick_1 (by decide) ?_
  refine xb_rd (W.runS (As := [.int kind, .int 4]) (rest := []) ⟨hx, hb, hml, hown, hts⟩ (cN_requireIndex l E kind 4 (ka) (kb)) (cwS 2 hts (xb_gi (List.forall_mem_cons.mpr ⟨xk_288, List.forall_mem_cons.mpr ⟨xk_289, List.forall_mem_cons.mpr ⟨xk_40, List.forall_mem_cons.mpr ⟨xk_290, fun _ h => absurd h List.not_mem_nil⟩⟩⟩⟩)) rfl rfl rfl (by decide +kernel) ⟨Nat.le_of_ble_eq_true rfl, Nat.le_of_ble_eq_true rfl⟩) ⟨fun _ _ _ _ q => q, fun U hU hW => ⟨rfl, xb_at0 hAt hU hW, fun k q h => by simp at h⟩⟩ rfl rfl hl.1 rfl (lv_room (Nat.le_of_ble_eq_true rfl)) dN_thick_2 ⟨Nat.zero_le _, Nat.zero_le _⟩) ?_
  refine lv_iload_n hx hb dN_thick_5 rfl (lv_at hl 2 rfl) ?_
  refine lv_if_ge (tgt := 19) hx hb dN_thick_6 (by decide) (fun c_1 => ?_) (fun c_1 => ?_)
  · contradiction
  · obtain ⟨q9, hq9⟩ := xt_str E hAt xk_630 xs_158
    exact xt_throw (names := xt_names) hx hb (hml.trans hl.1.symm) E.1 hown hlocks hex (by decide) (by decide) (xt_atoms E hAt _ xt_a2) (hts _ xk_374) (hts _ xk_55) hq9 dN_thick_9 dN_thick_12 dN_thick_13 dN_thick_15 dN_thick_18 (by decide) (by decide) (by decide) (by decide)

set_option maxHeartbeats 4000000 in
set_option maxRecDepth 100000 in
theorem cN_at_x0 (l : Launch) {s0 : State} {dC : Nat → ClassId} {dI : Nat → Nat → Nat} {cI cC cL cO : ClassId} (E : xb_Env l s0 dC dI (xtys cI cC cL cO)) (h0 : Nat) (fs : List Value) (pn : Int32) (k9 : Int32) (axis : Int32) (hf6 : fs[6]? = some (.int pn)) (hb9 : pn = 0) : xt_Met l yN_at [.code yN_at bN_at 3 (some (.int))] ({ frames := 6, cells := 1, slots := 6, locals := 82 }) (va_Pc [.ref h0, .int k9, .int axis] (fun U => xb_At s0 U ∧ va_P (dC, dI) classes [(h0, .inr (0, fs))] U.heap)) "java/lang/IllegalStateException" := by
  refine xt_Met.ofW (cc := bN_at) (maxL := 3) (ret := (some (.int))) (by decide) rfl ?_
  intro p e s m args below meth c s₁ B hml hex hv
  obtain ⟨rfl, hAt, hP⟩ := hv
  have hx := B.exec
  have hb := B.bytes
  have hr := B.returns
  have hts := xb_hts E hAt ([.ref h0, .int k9, .int axis] : List Value).toArray
  have hown : s.vm.findClass "NailRules" = some m.cls := findClass_of_methodNamed B.named
  have hlocks := B.notSynchronized
  have hK := xb_K E hAt
  have hl := lv_entry ([.ref h0, .int k9, .int axis]) (n := 3) (Nat.le_of_ble_eq_true rfl)
  rw [lg_entry_eq]
  generalize (lg_sl ([.ref h0, .int k9, .int axis]) ++ List.replicate (3 - (lg_sl ([.ref h0, .int k9, .int axis])).length) Slot.unset).toArray = ls at hl ⊢
  have hl : lv_has ls 3 [(0, .ref h0), (1, .int k9), (2, .int axis)] := hl
  refine lv_aload_n hx hb dN_at_0 rfl (lv_at hl 0 rfl) ?_
  refine va_get (D := (dC, dI)) (ci := 0) (v := .int pn) (C := xR_N) (T := xF_N) (N := 11) hx hb hts xi_N hown hK hP 0 rfl rfl 6 (by decide) (hts _ xk_120) (fun _ h9 => h9) hf6 dN_at_1 ?_
  refine lv_if_ne (tgt := 17) hx hb dN_at_4 (by decide) (fun c_1 => ?_) (fun c_1 => ?_)
  · contradiction
  · obtain ⟨q9, hq9⟩ := xt_str E hAt xk_466 xs_111
    exact xt_throw (names := xt_names) hx hb (hml.trans hl.1.symm) E.1 hown hlocks hex (by decide) (by decide) (xt_atoms E hAt _ xt_a3) (hts _ xk_457) (hts _ xk_56) hq9 dN_at_7 dN_at_10 dN_at_11 dN_at_13 dN_at_16 (by decide) (by decide) (by decide) (by decide)

set_option maxHeartbeats 4000000 in
set_option maxRecDepth 100000 in
theorem cN_at_x1 (l : Launch) {s0 : State} {dC : Nat → ClassId} {dI : Nat → Nat → Nat} {cI cC cL cO : ClassId} (E : xb_Env l s0 dC dI (xtys cI cC cL cO)) (h0 : Nat) (fs : List Value) (pn : Int32) (k9 : Int32) (axis : Int32) (hf6 : fs[6]? = some (.int pn)) (pn0 : ¬ pn = 0) (hb9 : k9 < 0 ∨ ¬ k9 < pn) : xt_Met l yN_at [.code yN_at bN_at 3 (some (.int))] ({ frames := 7, cells := 1, slots := 6, locals := 103 }) (va_Pc [.ref h0, .int k9, .int axis] (fun U => xb_At s0 U ∧ va_P (dC, dI) classes [(h0, .inr (0, fs))] U.heap)) "java/lang/IndexOutOfBoundsException" := by
  refine xt_Met.ofW (cc := bN_at) (maxL := 3) (ret := (some (.int))) (by decide) rfl ?_
  intro p e s m args below meth c s₁ B hml hex hv
  obtain ⟨rfl, hAt, hP⟩ := hv
  have hx := B.exec
  have hb := B.bytes
  have hr := B.returns
  have hts := xb_hts E hAt ([.ref h0, .int k9, .int axis] : List Value).toArray
  have hown : s.vm.findClass "NailRules" = some m.cls := findClass_of_methodNamed B.named
  have hlocks := B.notSynchronized
  have hK := xb_K E hAt
  have hl := lv_entry ([.ref h0, .int k9, .int axis]) (n := 3) (Nat.le_of_ble_eq_true rfl)
  rw [lg_entry_eq]
  generalize (lg_sl ([.ref h0, .int k9, .int axis]) ++ List.replicate (3 - (lg_sl ([.ref h0, .int k9, .int axis])).length) Slot.unset).toArray = ls at hl ⊢
  have hl : lv_has ls 3 [(0, .ref h0), (1, .int k9), (2, .int axis)] := hl
  refine lv_aload_n hx hb dN_at_0 rfl (lv_at hl 0 rfl) ?_
  refine va_get (D := (dC, dI)) (ci := 0) (v := .int pn) (C := xR_N) (T := xF_N) (N := 11) hx hb hts xi_N hown hK hP 0 rfl rfl 6 (by decide) (hts _ xk_120) (fun _ h9 => h9) hf6 dN_at_1 ?_
  refine lv_if_ne (tgt := 17) hx hb dN_at_4 (by decide) (fun c_1 => ?_) (fun c_1 => ?_)
  · refine lv_iload_n hx hb dN_at_17 rfl (lv_at hl 1 rfl) ?_
    refine lv_aload_n hx hb dN_at_18 rfl (lv_at hl 0 rfl) ?_
    refine va_get (D := (dC, dI)) (ci := 0) (v := .int pn) (C := xR_N) (T := xF_N) (N := 11) hx hb hts xi_N hown hK hP 0 rfl rfl 6 (by decide) (hts _ xk_120) (fun _ h9 => h9) hf6 dN_at_19 ?_
    exact xt_pass hlocks hex (xt_runS (As := [.int k9, .int pn]) (rest := []) ⟨hx, hb, hml, hown, hts⟩ (cN_requireIndex_x l E k9 pn (hb9)) (cwS 2 hts (xb_gi (List.forall_mem_cons.mpr ⟨xk_288, List.forall_mem_cons.mpr ⟨xk_289, List.forall_mem_cons.mpr ⟨xk_40, List.forall_mem_cons.mpr ⟨xk_290, fun _ h => absurd h List.not_mem_nil⟩⟩⟩⟩)) rfl rfl rfl (by decide +kernel) ⟨Nat.le_of_ble_eq_true rfl, Nat.le_of_ble_eq_true rfl⟩) ⟨fun _ _ _ _ q => q, fun U hU hW => ⟨rfl, xb_at0 hAt hU hW, fun k q h => by simp at h⟩⟩ rfl rfl hl.1 rfl (lv_room (Nat.le_of_ble_eq_true rfl)) dN_at_22 ⟨Nat.le_of_ble_eq_true rfl, Nat.le_of_ble_eq_true rfl⟩)
  · contradiction

set_option maxHeartbeats 4000000 in
set_option maxRecDepth 100000 in
theorem cN_at_x2 (l : Launch) {s0 : State} {dC : Nat → ClassId} {dI : Nat → Nat → Nat} {cI cC cL cO : ClassId} (E : xb_Env l s0 dC dI (xtys cI cC cL cO)) (h0 : Nat) (fs : List Value) (pn : Int32) (k9 : Int32) (axis : Int32) (hf6 : fs[6]? = some (.int pn)) (pn0 : ¬ pn = 0) (ka : ¬ k9 < 0) (kb : k9 < pn) (hb9 : axis < 0 ∨ ¬ axis < 2) : xt_Met l yN_at [.code yN_at bN_at 3 (some (.int))] ({ frames := 7, cells := 1, slots := 6, locals := 103 }) (va_Pc [.ref h0, .int k9, .int axis] (fun U => xb_At s0 U ∧ va_P (dC, dI) classes [(h0, .inr (0, fs))] U.heap)) "java/lang/IndexOutOfBoundsException" := by
  refine xt_Met.ofW (cc := bN_at) (maxL := 3) (ret := (some (.int))) (by decide) rfl ?_
  intro p e s m args below meth c s₁ B hml hex hv
  obtain ⟨rfl, hAt, hP⟩ := hv
  have hx := B.exec
  have hb := B.bytes
  have hr := B.returns
  have hts := xb_hts E hAt ([.ref h0, .int k9, .int axis] : List Value).toArray
  have hown : s.vm.findClass "NailRules" = some m.cls := findClass_of_methodNamed B.named
  have hlocks := B.notSynchronized
  have hK := xb_K E hAt
  have hl := lv_entry ([.ref h0, .int k9, .int axis]) (n := 3) (Nat.le_of_ble_eq_true rfl)
  rw [lg_entry_eq]
  generalize (lg_sl ([.ref h0, .int k9, .int axis]) ++ List.replicate (3 - (lg_sl ([.ref h0, .int k9, .int axis])).length) Slot.unset).toArray = ls at hl ⊢
  have hl : lv_has ls 3 [(0, .ref h0), (1, .int k9), (2, .int axis)] := hl
  refine lv_aload_n hx hb dN_at_0 rfl (lv_at hl 0 rfl) ?_
  refine va_get (D := (dC, dI)) (ci := 0) (v := .int pn) (C := xR_N) (T := xF_N) (N := 11) hx hb hts xi_N hown hK hP 0 rfl rfl 6 (by decide) (hts _ xk_120) (fun _ h9 => h9) hf6 dN_at_1 ?_
  refine lv_if_ne (tgt := 17) hx hb dN_at_4 (by decide) (fun c_1 => ?_) (fun c_1 => ?_)
  · refine lv_iload_n hx hb dN_at_17 rfl (lv_at hl 1 rfl) ?_
    refine lv_aload_n hx hb dN_at_18 rfl (lv_at hl 0 rfl) ?_
    refine va_get (D := (dC, dI)) (ci := 0) (v := .int pn) (C := xR_N) (T := xF_N) (N := 11) hx hb hts xi_N hown hK hP 0 rfl rfl 6 (by decide) (hts _ xk_120) (fun _ h9 => h9) hf6 dN_at_19 ?_
    refine xb_rd (W.runS (As := [.int k9, .int pn]) (rest := []) ⟨hx, hb, hml, hown, hts⟩ (cN_requireIndex l E k9 pn (ka) (kb)) (cwS 2 hts (xb_gi (List.forall_mem_cons.mpr ⟨xk_288, List.forall_mem_cons.mpr ⟨xk_289, List.forall_mem_cons.mpr ⟨xk_40, List.forall_mem_cons.mpr ⟨xk_290, fun _ h => absurd h List.not_mem_nil⟩⟩⟩⟩)) rfl rfl rfl (by decide +kernel) ⟨Nat.le_of_ble_eq_true rfl, Nat.le_of_ble_eq_true rfl⟩) ⟨fun _ _ _ _ q => q, fun U hU hW => ⟨rfl, xb_at0 hAt hU hW, fun k q h => by simp at h⟩⟩ rfl rfl hl.1 rfl (lv_room (Nat.le_of_ble_eq_true rfl)) dN_at_22 ⟨Nat.zero_le _, Nat.zero_le _⟩) ?_
    refine lv_iload_n hx hb dN_at_25 rfl (lv_at hl 2 rfl) ?_
    refine lv_iconst (v := 2) hx hb dN_at_26 (by decide) ?_
    exact xt_pass hlocks hex (xt_runS (As := [.int axis, .int 2]) (rest := []) ⟨hx, hb, hml, hown, hts⟩ (cN_requireIndex_x l E axis 2 (hb9)) (cwS 2 hts (xb_gi (List.forall_mem_cons.mpr ⟨xk_288, List.forall_mem_cons.mpr ⟨xk_289, List.forall_mem_cons.mpr ⟨xk_40, List.forall_mem_cons.mpr ⟨xk_290, fun _ h => absurd h List.not_mem_nil⟩⟩⟩⟩)) rfl rfl rfl (by decide +kernel) ⟨Nat.le_of_ble_eq_true rfl, Nat.le_of_ble_eq_true rfl⟩) ⟨fun _ _ _ _ q => q, fun U hU hW => ⟨rfl, xb_at0 hAt hU hW, fun k q h => by simp at h⟩⟩ rfl rfl hl.1 rfl (lv_room (Nat.le_of_ble_eq_true rfl)) dN_at_27 ⟨Nat.le_of_ble_eq_true rfl, Nat.le_of_ble_eq_true rfl⟩)
  · contradiction

set_option maxHeartbeats 4000000 in
set_option maxRecDepth 100000 in
theorem cN_place_x1 (l : Launch) {s0 : State} {dC : Nat → ClassId} {dI : Nat → Nat → Nat} {cI cC cL cO : ClassId} (E : xb_Env l s0 dC dI (xtys cI cC cL cO)) (h0 : Nat) (fs : List Value) (x : Int32) (y : Int32) (hb9 : x.toInt64 < 0 ∨ ¬ x.toInt64 ≤ 100000) : xt_Met l yN_place [.code yN_place bN_place 3 (some (.int))] ({ frames := 7, cells := 1, slots := 6, locals := 107 }) (va_Pc [.ref h0, .int x, .int y] (fun U => xb_At s0 U ∧ va_P (dC, dI) classes [(h0, .inr (0, fs))] U.heap)) "java/lang/IllegalArgumentException" := by
  refine xt_Met.ofW (cc := bN_place) (maxL := 3) (ret := (some (.int))) (by decide) rfl ?_
  intro p e s m args below meth c s₁ B hml hex hv
  obtain ⟨rfl, hAt, hP⟩ := hv
  have hx := B.exec
  have hb := B.bytes
  have hr := B.returns
  have hts := xb_hts E hAt ([.ref h0, .int x, .int y] : List Value).toArray
  have hown : s.vm.findClass "NailRules" = some m.cls := findClass_of_methodNamed B.named
  have hlocks := B.notSynchronized
  have hK := xb_K E hAt
  have hl := lv_entry ([.ref h0, .int x, .int y]) (n := 3) (Nat.le_of_ble_eq_true rfl)
  rw [lg_entry_eq]
  generalize (lg_sl ([.ref h0, .int x, .int y]) ++ List.replicate (3 - (lg_sl ([.ref h0, .int x, .int y])).length) Slot.unset).toArray = ls at hl ⊢
  have hl : lv_has ls 3 [(0, .ref h0), (1, .int x), (2, .int y)] := hl
  refine lv_iload_n hx hb dN_place_0 rfl (lv_at hl 1 rfl) ?_
  refine lv_i2l hx hb dN_place_1 rfl ?_
  refine lv_lconst (v := 0) hx hb dN_place_2 (by decide) ?_
  refine lv_ldc2 (v := 100000) hx hb hown (hts _ xk_437) dN_place_3 ?_
  exact xt_pass hlocks hex (xt_runS (As := [.long x.toInt64, .long 0, .long 100000]) (rest := []) ⟨hx, hb, hml, hown, hts⟩ (cN_requireWithin_x l E x.toInt64 0 100000 (hb9)) (cwS 3 hts (xb_gi (List.forall_mem_cons.mpr ⟨xk_371, List.forall_mem_cons.mpr ⟨xk_372, List.forall_mem_cons.mpr ⟨xk_40, List.forall_mem_cons.mpr ⟨xk_373, fun _ h => absurd h List.not_mem_nil⟩⟩⟩⟩)) rfl rfl rfl (by decide +kernel) ⟨Nat.le_of_ble_eq_true rfl, Nat.le_of_ble_eq_true rfl⟩) ⟨fun _ _ _ _ q => q, fun U hU hW => ⟨rfl, xb_at0 hAt hU hW, fun k q h => by simp at h⟩⟩ rfl rfl hl.1 rfl (lv_room (Nat.le_of_ble_eq_true rfl)) dN_place_6 ⟨Nat.le_of_ble_eq_true rfl, Nat.le_of_ble_eq_true rfl⟩)

set_option maxHeartbeats 4000000 in
set_option maxRecDepth 100000 in
theorem cN_place_x2 (l : Launch) {s0 : State} {dC : Nat → ClassId} {dI : Nat → Nat → Nat} {cI cC cL cO : ClassId} (E : xb_Env l s0 dC dI (xtys cI cC cL cO)) (h0 : Nat) (fs : List Value) (x : Int32) (y : Int32) (ua : ¬ x.toInt64 < 0) (ub : x.toInt64 ≤ 100000) (hb9 : y.toInt64 < 0 ∨ ¬ y.toInt64 ≤ 100000) : xt_Met l yN_place [.code yN_place bN_place 3 (some (.int))] ({ frames := 7, cells := 1, slots := 6, locals := 107 }) (va_Pc [.ref h0, .int x, .int y] (fun U => xb_At s0 U ∧ va_P (dC, dI) classes [(h0, .inr (0, fs))] U.heap)) "java/lang/IllegalArgumentException" := by
  refine xt_Met.ofW (cc := bN_place) (maxL := 3) (ret := (some (.int))) (by decide) rfl ?_
  intro p e s m args below meth c s₁ B hml hex hv
  obtain ⟨rfl, hAt, hP⟩ := hv
  have hx := B.exec
  have hb := B.bytes
  have hr := B.returns
  have hts := xb_hts E hAt ([.ref h0, .int x, .int y] : List Value).toArray
  have hown : s.vm.findClass "NailRules" = some m.cls := findClass_of_methodNamed B.named
  have hlocks := B.notSynchronized
  have hK := xb_K E hAt
  have hl := lv_entry ([.ref h0, .int x, .int y]) (n := 3) (Nat.le_of_ble_eq_true rfl)
  rw [lg_entry_eq]
  generalize (lg_sl ([.ref h0, .int x, .int y]) ++ List.replicate (3 - (lg_sl ([.ref h0, .int x, .int y])).length) Slot.unset).toArray = ls at hl ⊢
  have hl : lv_has ls 3 [(0, .ref h0), (1, .int x), (2, .int y)] := hl
  refine lv_iload_n hx hb dN_place_0 rfl (lv_at hl 1 rfl) ?_
  refine lv_i2l hx hb dN_place_1 rfl ?_
  refine lv_lconst (v := 0) hx hb dN_place_2 (by decide) ?_
  refine lv_ldc2 (v := 100000) hx hb hown (hts _ xk_437) dN_place_3 ?_
  refine xb_rd (W.runS (As := [.long x.toInt64, .long 0, .long 100000]) (rest := []) ⟨hx, hb, hml, hown, hts⟩ (cN_requireWithin l E x.toInt64 0 100000 (ua) (ub)) (cwS 3 hts (xb_gi (List.forall_mem_cons.mpr ⟨xk_371, List.forall_mem_cons.mpr ⟨xk_372, List.forall_mem_cons.mpr ⟨xk_40, List.forall_mem_cons.mpr ⟨xk_373, fun _ h => absurd h List.not_mem_nil⟩⟩⟩⟩)) rfl rfl rfl (by decide +kernel) ⟨Nat.le_of_ble_eq_true rfl, Nat.le_of_ble_eq_true rfl⟩) ⟨fun _ _ _ _ q => q, fun U hU hW => ⟨rfl, xb_at0 hAt hU hW, fun k q h => by simp at h⟩⟩ rfl rfl hl.1 rfl (lv_room (Nat.le_of_ble_eq_true rfl)) dN_place_6 ⟨Nat.zero_le _, Nat.zero_le _⟩) ?_
  refine lv_iload_n hx hb dN_place_9 rfl (lv_at hl 2 rfl) ?_
  refine lv_i2l hx hb dN_place_10 rfl ?_
  refine lv_lconst (v := 0) hx hb dN_place_11 (by decide) ?_
  refine lv_ldc2 (v := 100000) hx hb hown (hts _ xk_437) dN_place_12 ?_
  exact xt_pass hlocks hex (xt_runS (As := [.long y.toInt64, .long 0, .long 100000]) (rest := []) ⟨hx, hb, hml, hown, hts⟩ (cN_requireWithin_x l E y.toInt64 0 100000 (hb9)) (cwS 3 hts (xb_gi (List.forall_mem_cons.mpr ⟨xk_371, List.forall_mem_cons.mpr ⟨xk_372, List.forall_mem_cons.mpr ⟨xk_40, List.forall_mem_cons.mpr ⟨xk_373, fun _ h => absurd h List.not_mem_nil⟩⟩⟩⟩)) rfl rfl rfl (by decide +kernel) ⟨Nat.le_of_ble_eq_true rfl, Nat.le_of_ble_eq_true rfl⟩) ⟨fun _ _ _ _ q => q, fun U hU hW => ⟨rfl, xb_at0 hAt hU hW, fun k q h => by simp at h⟩⟩ rfl rfl hl.1 rfl (lv_room (Nat.le_of_ble_eq_true rfl)) dN_place_15 ⟨Nat.le_of_ble_eq_true rfl, Nat.le_of_ble_eq_true rfl⟩)

set_option maxHeartbeats 4000000 in
set_option maxRecDepth 100000 in
theorem cN_place_x3 (l : Launch) {s0 : State} {dC : Nat → ClassId} {dI : Nat → Nat → Nat} {cI cC cL cO : ClassId} (E : xb_Env l s0 dC dI (xtys cI cC cL cO)) (h0 : Nat) (fs : List Value) (qn : Int32) (x : Int32) (y : Int32) (hf9 : fs[9]? = some (.int qn)) (ua : ¬ x.toInt64 < 0) (ub : x.toInt64 ≤ 100000) (wa : ¬ y.toInt64 < 0) (wb : y.toInt64 ≤ 100000) (hb9 : ¬ qn < 32) : xt_Met l yN_place [.code yN_place bN_place 3 (some (.int))] ({ frames := 6, cells := 1, slots := 6, locals := 82 }) (va_Pc [.ref h0, .int x, .int y] (fun U => xb_At s0 U ∧ va_P (dC, dI) classes [(h0, .inr (0, fs))] U.heap)) "java/lang/IllegalStateException" := by
  refine xt_Met.ofW (cc := bN_place) (maxL := 3) (ret := (some (.int))) (by decide) rfl ?_
  intro p e s m args below meth c s₁ B hml hex hv
  obtain ⟨rfl, hAt, hP⟩ := hv
  have hx := B.exec
  have hb := B.bytes
  have hr := B.returns
  have hts := xb_hts E hAt ([.ref h0, .int x, .int y] : List Value).toArray
  have hown : s.vm.findClass "NailRules" = some m.cls := findClass_of_methodNamed B.named
  have hlocks := B.notSynchronized
  have hK := xb_K E hAt
  have hl := lv_entry ([.ref h0, .int x, .int y]) (n := 3) (Nat.le_of_ble_eq_true rfl)
  rw [lg_entry_eq]
  generalize (lg_sl ([.ref h0, .int x, .int y]) ++ List.replicate (3 - (lg_sl ([.ref h0, .int x, .int y])).length) Slot.unset).toArray = ls at hl ⊢
  have hl : lv_has ls 3 [(0, .ref h0), (1, .int x), (2, .int y)] := hl
  refine lv_iload_n hx hb dN_place_0 rfl (lv_at hl 1 rfl) ?_
  refine lv_i2l hx hb dN_place_1 rfl ?_
  refine lv_lconst (v := 0) hx hb dN_place_2 (by decide) ?_
  refine lv_ldc2 (v := 100000) hx hb hown (hts _ xk_437) dN_place_3 ?_
  refine xb_rd (W.runS (As := [.long x.toInt64, .long 0, .long 100000]) (rest := []) ⟨hx, hb, hml, hown, hts⟩ (cN_requireWithin l E x.toInt64 0 100000 (ua) (ub)) (cwS 3 hts (xb_gi (List.forall_mem_cons.mpr ⟨xk_371, List.forall_mem_cons.mpr ⟨xk_372, List.forall_mem_cons.mpr ⟨xk_40, List.forall_mem_cons.mpr ⟨xk_373, fun _ h => absurd h List.not_mem_nil⟩⟩⟩⟩)) rfl rfl rfl (by decide +kernel) ⟨Nat.le_of_ble_eq_true rfl, Nat.le_of_ble_eq_true rfl⟩) ⟨fun _ _ _ _ q => q, fun U hU hW => ⟨rfl, xb_at0 hAt hU hW, fun k q h => by simp at h⟩⟩ rfl rfl hl.1 rfl (lv_room (Nat.le_of_ble_eq_true rfl)) dN_place_6 ⟨Nat.zero_le _, Nat.zero_le _⟩) ?_
  refine lv_iload_n hx hb dN_place_9 rfl (lv_at hl 2 rfl) ?_
  refine lv_i2l hx hb dN_place_10 rfl ?_
  refine lv_lconst (v := 0) hx hb dN_place_11 (by decide) ?_
  refine lv_ldc2 (v := 100000) hx hb hown (hts _ xk_437) dN_place_12 ?_
  refine xb_rd (W.runS (As := [.long y.toInt64, .long 0, .long 100000]) (rest := []) ⟨hx, hb, hml, hown, hts⟩ (cN_requireWithin l E y.toInt64 0 100000 (wa) (wb)) (cwS 3 hts (xb_gi (List.forall_mem_cons.mpr ⟨xk_371, List.forall_mem_cons.mpr ⟨xk_372, List.forall_mem_cons.mpr ⟨xk_40, List.forall_mem_cons.mpr ⟨xk_373, fun _ h => absurd h List.not_mem_nil⟩⟩⟩⟩)) rfl rfl rfl (by decide +kernel) ⟨Nat.le_of_ble_eq_true rfl, Nat.le_of_ble_eq_true rfl⟩) ⟨fun _ _ _ _ q => q, fun U hU hW => ⟨rfl, xb_at0 hAt hU hW, fun k q h => by simp at h⟩⟩ rfl rfl hl.1 rfl (lv_room (Nat.le_of_ble_eq_true rfl)) dN_place_15 ⟨Nat.zero_le _, Nat.zero_le _⟩) ?_
  refine lv_aload_n hx hb dN_place_18 rfl (lv_at hl 0 rfl) ?_
  refine va_get (D := (dC, dI)) (ci := 0) (v := .int qn) (C := xR_N) (T := xF_N) (N := 11) hx hb hts xi_N hown hK hP 0 rfl rfl 9 (by decide) (hts _ xk_123) (fun _ h9 => h9) hf9 dN_place_19 ?_
  refine lv_bipush (v := 32) hx hb dN_place_22 (by decide) ?_
  refine lv_icmp_lt (tgt := 37) hx hb dN_place_24 (by decide) (fun c_1 => ?_) (fun c_1 => ?_)
  · contradiction
  · obtain ⟨q9, hq9⟩ := xt_str E hAt xk_480 xs_116
    exact xt_throw (names := xt_names) hx hb (hml.trans hl.1.symm) E.1 hown hlocks hex (by decide) (by decide) (xt_atoms E hAt _ xt_a3) (hts _ xk_457) (hts _ xk_56) hq9 dN_place_27 dN_place_30 dN_place_31 dN_place_33 dN_place_36 (by decide) (by decide) (by decide) (by decide)

set_option maxHeartbeats 4000000 in
set_option maxRecDepth 100000 in
theorem cN_set_x1 (l : Launch) {s0 : State} {dC : Nat → ClassId} {dI : Nat → Nat → Nat} {cI cC cL cO : ClassId} (E : xb_Env l s0 dC dI (xtys cI cC cL cO)) (h0 : Nat) (fs : List Value) (what : Int32) (pct : Int32) (hb9 : what < 0 ∨ ¬ what < 2) : xt_Met l yN_set [.code yN_set bN_set 3 none] ({ frames := 7, cells := 1, slots := 6, locals := 103 }) (va_Pc [.ref h0, .int what, .int pct] (fun U => xb_At s0 U ∧ va_P (dC, dI) classes [(h0, .inr (0, fs))] U.heap)) "java/lang/IndexOutOfBoundsException" := by
  refine xt_Met.ofW (cc := bN_set) (maxL := 3) (ret := none) (by decide) rfl ?_
  intro p e s m args below meth c s₁ B hml hex hv
  obtain ⟨rfl, hAt, hP⟩ := hv
  have hx := B.exec
  have hb := B.bytes
  have hr := B.returns
  have hts := xb_hts E hAt ([.ref h0, .int what, .int pct] : List Value).toArray
  have hown : s.vm.findClass "NailRules" = some m.cls := findClass_of_methodNamed B.named
  have hlocks := B.notSynchronized
  have hK := xb_K E hAt
  have hl := lv_entry ([.ref h0, .int what, .int pct]) (n := 3) (Nat.le_of_ble_eq_true rfl)
  rw [lg_entry_eq]
  generalize (lg_sl ([.ref h0, .int what, .int pct]) ++ List.replicate (3 - (lg_sl ([.ref h0, .int what, .int pct])).length) Slot.unset).toArray = ls at hl ⊢
  have hl : lv_has ls 3 [(0, .ref h0), (1, .int what), (2, .int pct)] := hl
  refine lv_iload_n hx hb dN_set_0 rfl (lv_at hl 1 rfl) ?_
  refine lv_iconst (v := 2) hx hb dN_set_1 (by decide) ?_
  exact xt_pass hlocks hex (xt_runS (As := [.int what, .int 2]) (rest := []) ⟨hx, hb, hml, hown, hts⟩ (cN_requireIndex_x l E what 2 (hb9)) (cwS 2 hts (xb_gi (List.forall_mem_cons.mpr ⟨xk_288, List.forall_mem_cons.mpr ⟨xk_289, List.forall_mem_cons.mpr ⟨xk_40, List.forall_mem_cons.mpr ⟨xk_290, fun _ h => absurd h List.not_mem_nil⟩⟩⟩⟩)) rfl rfl rfl (by decide +kernel) ⟨Nat.le_of_ble_eq_true rfl, Nat.le_of_ble_eq_true rfl⟩) ⟨fun _ _ _ _ q => q, fun U hU hW => ⟨rfl, xb_at0 hAt hU hW, fun k q h => by simp at h⟩⟩ rfl rfl hl.1 rfl (lv_room (Nat.le_of_ble_eq_true rfl)) dN_set_2 ⟨Nat.le_of_ble_eq_true rfl, Nat.le_of_ble_eq_true rfl⟩)

set_option maxHeartbeats 4000000 in
set_option maxRecDepth 100000 in
theorem cN_set_x2 (l : Launch) {s0 : State} {dC : Nat → ClassId} {dI : Nat → Nat → Nat} {cI cC cL cO : ClassId} (E : xb_Env l s0 dC dI (xtys cI cC cL cO)) (h0 : Nat) (fs : List Value) (what : Int32) (pct : Int32) (ka : ¬ what < 0) (kb : what < 2) (w0 : what = 0) (hb9 : pct.toInt64 < 1 ∨ ¬ pct.toInt64 ≤ 100) : xt_Met l yN_set [.code yN_set bN_set 3 none] ({ frames := 7, cells := 1, slots := 6, locals := 107 }) (va_Pc [.ref h0, .int what, .int pct] (fun U => xb_At s0 U ∧ va_P (dC, dI) classes [(h0, .inr (0, fs))] U.heap)) "java/lang/IllegalArgumentException" := by
  refine xt_Met.ofW (cc := bN_set) (maxL := 3) (ret := none) (by decide) rfl ?_
  intro p e s m args below meth c s₁ B hml hex hv
  obtain ⟨rfl, hAt, hP⟩ := hv
  have hx := B.exec
  have hb := B.bytes
  have hr := B.returns
  have hts := xb_hts E hAt ([.ref h0, .int what, .int pct] : List Value).toArray
  have hown : s.vm.findClass "NailRules" = some m.cls := findClass_of_methodNamed B.named
  have hlocks := B.notSynchronized
  have hK := xb_K E hAt
  have hl := lv_entry ([.ref h0, .int what, .int pct]) (n := 3) (Nat.le_of_ble_eq_true rfl)
  rw [lg_entry_eq]
  generalize (lg_sl ([.ref h0, .int what, .int pct]) ++ List.replicate (3 - (lg_sl ([.ref h0, .int what, .int pct])).length) Slot.unset).toArray = ls at hl ⊢
  have hl : lv_has ls 3 [(0, .ref h0), (1, .int what), (2, .int pct)] := hl
  refine lv_iload_n hx hb dN_set_0 rfl (lv_at hl 1 rfl) ?_
  refine lv_iconst (v := 2) hx hb dN_set_1 (by decide) ?_
  refine xb_rd (W.runS (As := [.int what, .int 2]) (rest := []) ⟨hx, hb, hml, hown, hts⟩ (cN_requireIndex l E what 2 (ka) (kb)) (cwS 2 hts (xb_gi (List.forall_mem_cons.mpr ⟨xk_288, List.forall_mem_cons.mpr ⟨xk_289, List.forall_mem_cons.mpr ⟨xk_40, List.forall_mem_cons.mpr ⟨xk_290, fun _ h => absurd h List.not_mem_nil⟩⟩⟩⟩)) rfl rfl rfl (by decide +kernel) ⟨Nat.le_of_ble_eq_true rfl, Nat.le_of_ble_eq_true rfl⟩) ⟨fun _ _ _ _ q => q, fun U hU hW => ⟨rfl, xb_at0 hAt hU hW, fun k q h => by simp at h⟩⟩ rfl rfl hl.1 rfl (lv_room (Nat.le_of_ble_eq_true rfl)) dN_set_2 ⟨Nat.zero_le _, Nat.zero_le _⟩) ?_
  refine lv_iload_n hx hb dN_set_5 rfl (lv_at hl 1 rfl) ?_
  refine lv_if_ne (tgt := 26) hx hb dN_set_6 (by decide) (fun c_1 => ?_) (fun c_1 => ?_)
  · contradiction
  · refine lv_iload_n hx hb dN_set_9 rfl (lv_at hl 2 rfl) ?_
    refine lv_i2l hx hb dN_set_10 rfl ?_
    refine lv_lconst (v := 1) hx hb dN_set_11 (by decide) ?_
    refine lv_ldc2 (v := 100) hx hb hown (hts _ xk_370) dN_set_12 ?_
    exact xt_pass hlocks hex (xt_runS (As := [.long pct.toInt64, .long 1, .long 100]) (rest := []) ⟨hx, hb, hml, hown, hts⟩ (cN_requireWithin_x l E pct.toInt64 1 100 (hb9)) (cwS 3 hts (xb_gi (List.forall_mem_cons.mpr ⟨xk_371, List.forall_mem_cons.mpr ⟨xk_372, List.forall_mem_cons.mpr ⟨xk_40, List.forall_mem_cons.mpr ⟨xk_373, fun _ h => absurd h List.not_mem_nil⟩⟩⟩⟩)) rfl rfl rfl (by decide +kernel) ⟨Nat.le_of_ble_eq_true rfl, Nat.le_of_ble_eq_true rfl⟩) ⟨fun _ _ _ _ q => q, fun U hU hW => ⟨rfl, xb_at0 hAt hU hW, fun k q h => by simp at h⟩⟩ rfl rfl hl.1 rfl (lv_room (Nat.le_of_ble_eq_true rfl)) dN_set_15 ⟨Nat.le_of_ble_eq_true rfl, Nat.le_of_ble_eq_true rfl⟩)

set_option maxHeartbeats 4000000 in
set_option maxRecDepth 100000 in
theorem cN_set_x3 (l : Launch) {s0 : State} {dC : Nat → ClassId} {dI : Nat → Nat → Nat} {cI cC cL cO : ClassId} (E : xb_Env l s0 dC dI (xtys cI cC cL cO)) (h0 : Nat) (fs : List Value) (what : Int32) (pct : Int32) (ka : ¬ what < 0) (kb : what < 2) (w0 : ¬ what = 0) (hb9 : pct.toInt64 < 0 ∨ ¬ pct.toInt64 ≤ 100) : xt_Met l yN_set [.code yN_set bN_set 3 none] ({ frames := 7, cells := 1, slots := 6, locals := 107 }) (va_Pc [.ref h0, .int what, .int pct] (fun U => xb_At s0 U ∧ va_P (dC, dI) classes [(h0, .inr (0, fs))] U.heap)) "java/lang/IllegalArgumentException" := by
  refine xt_Met.ofW (cc := bN_set) (maxL := 3) (ret := none) (by decide) rfl ?_
  intro p e s m args below meth c s₁ B hml hex hv
  obtain ⟨rfl, hAt, hP⟩ := hv
  have hx := B.exec
  have hb := B.bytes
  have hr := B.returns
  have hts := xb_hts E hAt ([.ref h0, .int what, .int pct] : List Value).toArray
  have hown : s.vm.findClass "NailRules" = some m.cls := findClass_of_methodNamed B.named
  have hlocks := B.notSynchronized
  have hK := xb_K E hAt
  have hl := lv_entry ([.ref h0, .int what, .int pct]) (n := 3) (Nat.le_of_ble_eq_true rfl)
  rw [lg_entry_eq]
  generalize (lg_sl ([.ref h0, .int what, .int pct]) ++ List.replicate (3 - (lg_sl ([.ref h0, .int what, .int pct])).length) Slot.unset).toArray = ls at hl ⊢
  have hl : lv_has ls 3 [(0, .ref h0), (1, .int what), (2, .int pct)] := hl
  refine lv_iload_n hx hb dN_set_0 rfl (lv_at hl 1 rfl) ?_
  refine lv_iconst (v := 2) hx hb dN_set_1 (by decide) ?_
  refine xb_rd (W.runS (As := [.int what, .int 2]) (rest := []) ⟨hx, hb, hml, hown, hts⟩ (cN_requireIndex l E what 2 (ka) (kb)) (cwS 2 hts (xb_gi (List.forall_mem_cons.mpr ⟨xk_288, List.forall_mem_cons.mpr ⟨xk_289, List.forall_mem_cons.mpr ⟨xk_40, List.forall_mem_cons.mpr ⟨xk_290, fun _ h => absurd h List.not_mem_nil⟩⟩⟩⟩)) rfl rfl rfl (by decide +kernel) ⟨Nat.le_of_ble_eq_true rfl, Nat.le_of_ble_eq_true rfl⟩) ⟨fun _ _ _ _ q => q, fun U hU hW => ⟨rfl, xb_at0 hAt hU hW, fun k q h => by simp at h⟩⟩ rfl rfl hl.1 rfl (lv_room (Nat.le_of_ble_eq_true rfl)) dN_set_2 ⟨Nat.zero_le _, Nat.zero_le _⟩) ?_
  refine lv_iload_n hx hb dN_set_5 rfl (lv_at hl 1 rfl) ?_
  refine lv_if_ne (tgt := 26) hx hb dN_set_6 (by decide) (fun c_1 => ?_) (fun c_1 => ?_)
  · refine lv_iload_n hx hb dN_set_26 rfl (lv_at hl 2 rfl) ?_
    refine lv_i2l hx hb dN_set_27 rfl ?_
    refine lv_lconst (v := 0) hx hb dN_set_28 (by decide) ?_
    refine lv_ldc2 (v := 100) hx hb hown (hts _ xk_370) dN_set_29 ?_
    exact xt_pass hlocks hex (xt_runS (As := [.long pct.toInt64, .long 0, .long 100]) (rest := []) ⟨hx, hb, hml, hown, hts⟩ (cN_requireWithin_x l E pct.toInt64 0 100 (hb9)) (cwS 3 hts (xb_gi (List.forall_mem_cons.mpr ⟨xk_371, List.forall_mem_cons.mpr ⟨xk_372, List.forall_mem_cons.mpr ⟨xk_40, List.forall_mem_cons.mpr ⟨xk_373, fun _ h => absurd h List.not_mem_nil⟩⟩⟩⟩)) rfl rfl rfl (by decide +kernel) ⟨Nat.le_of_ble_eq_true rfl, Nat.le_of_ble_eq_true rfl⟩) ⟨fun _ _ _ _ q => q, fun U hU hW => ⟨rfl, xb_at0 hAt hU hW, fun k q h => by simp at h⟩⟩ rfl rfl hl.1 rfl (lv_room (Nat.le_of_ble_eq_true rfl)) dN_set_32 ⟨Nat.le_of_ble_eq_true rfl, Nat.le_of_ble_eq_true rfl⟩)
  · contradiction

set_option maxHeartbeats 4000000 in
set_option maxRecDepth 100000 in
theorem cN_member_x1 (l : Launch) {s0 : State} {dC : Nat → ClassId} {dI : Nat → Nat → Nat} {cI cC cL cO : ClassId} (E : xb_Env l s0 dC dI (xtys cI cC cL cO)) (h0 : Nat) (fs : List Value) (x0 : Int32) (y0 : Int32) (x1 : Int32) (y1 : Int32) (wd : Int32) (hb9 : x0.toInt64 < (-10000) ∨ ¬ x0.toInt64 ≤ 10000) : xt_Met l yN_member [.code yN_member bN_member 6 (some (.int))] ({ frames := 7, cells := 1, slots := 6, locals := 107 }) (va_Pc [.ref h0, .int x0, .int y0, .int x1, .int y1, .int wd] (fun U => xb_At s0 U ∧ va_P (dC, dI) classes [(h0, .inr (0, fs))] U.heap)) "java/lang/IllegalArgumentException" := by
  refine xt_Met.ofW (cc := bN_member) (maxL := 6) (ret := (some (.int))) (by decide) rfl ?_
  intro p e s m args below meth c s₁ B hml hex hv
  obtain ⟨rfl, hAt, hP⟩ := hv
  have hx := B.exec
  have hb := B.bytes
  have hr := B.returns
  have hts := xb_hts E hAt ([.ref h0, .int x0, .int y0, .int x1, .int y1, .int wd] : List Value).toArray
  have hown : s.vm.findClass "NailRules" = some m.cls := findClass_of_methodNamed B.named
  have hlocks := B.notSynchronized
  have hK := xb_K E hAt
  have hl := lv_entry ([.ref h0, .int x0, .int y0, .int x1, .int y1, .int wd]) (n := 6) (Nat.le_of_ble_eq_true rfl)
  rw [lg_entry_eq]
  generalize (lg_sl ([.ref h0, .int x0, .int y0, .int x1, .int y1, .int wd]) ++ List.replicate (6 - (lg_sl ([.ref h0, .int x0, .int y0, .int x1, .int y1, .int wd])).length) Slot.unset).toArray = ls at hl ⊢
  have hl : lv_has ls 6 [(0, .ref h0), (1, .int x0), (2, .int y0), (3, .int x1), (4, .int y1), (5, .int wd)] := hl
  refine lv_iload_n hx hb dN_member_0 rfl (lv_at hl 1 rfl) ?_
  refine lv_i2l hx hb dN_member_1 rfl ?_
  refine lv_ldc2 (v := (-10000)) hx hb hown (hts _ xk_510) dN_member_2 ?_
  refine lv_ldc2 (v := 10000) hx hb hown (hts _ xk_511) dN_member_5 ?_
  exact xt_pass hlocks hex (xt_runS (As := [.long x0.toInt64, .long (-10000), .long 10000]) (rest := []) ⟨hx, hb, hml, hown, hts⟩ (cN_requireWithin_x l E x0.toInt64 (-10000) 10000 (hb9)) (cwS 3 hts (xb_gi (List.forall_mem_cons.mpr ⟨xk_371, List.forall_mem_cons.mpr ⟨xk_372, List.forall_mem_cons.mpr ⟨xk_40, List.forall_mem_cons.mpr ⟨xk_373, fun _ h => absurd h List.not_mem_nil⟩⟩⟩⟩)) rfl rfl rfl (by decide +kernel) ⟨Nat.le_of_ble_eq_true rfl, Nat.le_of_ble_eq_true rfl⟩) ⟨fun _ _ _ _ q => q, fun U hU hW => ⟨rfl, xb_at0 hAt hU hW, fun k q h => by simp at h⟩⟩ rfl rfl hl.1 rfl (lv_room (Nat.le_of_ble_eq_true rfl)) dN_member_8 ⟨Nat.le_of_ble_eq_true rfl, Nat.le_of_ble_eq_true rfl⟩)

set_option maxHeartbeats 4000000 in
set_option maxRecDepth 100000 in
theorem cN_member_x2 (l : Launch) {s0 : State} {dC : Nat → ClassId} {dI : Nat → Nat → Nat} {cI cC cL cO : ClassId} (E : xb_Env l s0 dC dI (xtys cI cC cL cO)) (h0 : Nat) (fs : List Value) (x0 : Int32) (y0 : Int32) (x1 : Int32) (y1 : Int32) (wd : Int32) (ua : ¬ x0.toInt64 < (-10000)) (ub : x0.toInt64 ≤ 10000) (hb9 : y0.toInt64 < (-10000) ∨ ¬ y0.toInt64 ≤ 10000) : xt_Met l yN_member [.code yN_member bN_member 6 (some (.int))] ({ frames := 7, cells := 1, slots := 6, locals := 107 }) (va_Pc [.ref h0, .int x0, .int y0, .int x1, .int y1, .int wd] (fun U => xb_At s0 U ∧ va_P (dC, dI) classes [(h0, .inr (0, fs))] U.heap)) "java/lang/IllegalArgumentException" := by
  refine xt_Met.ofW (cc := bN_member) (maxL := 6) (ret := (some (.int))) (by decide) rfl ?_
  intro p e s m args below meth c s₁ B hml hex hv
  obtain ⟨rfl, hAt, hP⟩ := hv
  have hx := B.exec
  have hb := B.bytes
  have hr := B.returns
  have hts := xb_hts E hAt ([.ref h0, .int x0, .int y0, .int x1, .int y1, .int wd] : List Value).toArray
  have hown : s.vm.findClass "NailRules" = some m.cls := findClass_of_methodNamed B.named
  have hlocks := B.notSynchronized
  have hK := xb_K E hAt
  have hl := lv_entry ([.ref h0, .int x0, .int y0, .int x1, .int y1, .int wd]) (n := 6) (Nat.le_of_ble_eq_true rfl)
  rw [lg_entry_eq]
  generalize (lg_sl ([.ref h0, .int x0, .int y0, .int x1, .int y1, .int wd]) ++ List.replicate (6 - (lg_sl ([.ref h0, .int x0, .int y0, .int x1, .int y1, .int wd])).length) Slot.unset).toArray = ls at hl ⊢
  have hl : lv_has ls 6 [(0, .ref h0), (1, .int x0), (2, .int y0), (3, .int x1), (4, .int y1), (5, .int wd)] := hl
  refine lv_iload_n hx hb dN_member_0 rfl (lv_at hl 1 rfl) ?_
  refine lv_i2l hx hb dN_member_1 rfl ?_
  refine lv_ldc2 (v := (-10000)) hx hb hown (hts _ xk_510) dN_member_2 ?_
  refine lv_ldc2 (v := 10000) hx hb hown (hts _ xk_511) dN_member_5 ?_
  refine xb_rd (W.runS (As := [.long x0.toInt64, .long (-10000), .long 10000]) (rest := []) ⟨hx, hb, hml, hown, hts⟩ (cN_requireWithin l E x0.toInt64 (-10000) 10000 (ua) (ub)) (cwS 3 hts (xb_gi (List.forall_mem_cons.mpr ⟨xk_371, List.forall_mem_cons.mpr ⟨xk_372, List.forall_mem_cons.mpr ⟨xk_40, List.forall_mem_cons.mpr ⟨xk_373, fun _ h => absurd h List.not_mem_nil⟩⟩⟩⟩)) rfl rfl rfl (by decide +kernel) ⟨Nat.le_of_ble_eq_true rfl, Nat.le_of_ble_eq_true rfl⟩) ⟨fun _ _ _ _ q => q, fun U hU hW => ⟨rfl, xb_at0 hAt hU hW, fun k q h => by simp at h⟩⟩ rfl rfl hl.1 rfl (lv_room (Nat.le_of_ble_eq_true rfl)) dN_member_8 ⟨Nat.zero_le _, Nat.zero_le _⟩) ?_
  refine lv_iload_n hx hb dN_member_11 rfl (lv_at hl 2 rfl) ?_
  refine lv_i2l hx hb dN_member_12 rfl ?_
  refine lv_ldc2 (v := (-10000)) hx hb hown (hts _ xk_510) dN_member_13 ?_
  refine lv_ldc2 (v := 10000) hx hb hown (hts _ xk_511) dN_member_16 ?_
  exact xt_pass hlocks hex (xt_runS (As := [.long y0.toInt64, .long (-10000), .long 10000]) (rest := []) ⟨hx, hb, hml, hown, hts⟩ (cN_requireWithin_x l E y0.toInt64 (-10000) 10000 (hb9)) (cwS 3 hts (xb_gi (List.forall_mem_cons.mpr ⟨xk_371, List.forall_mem_cons.mpr ⟨xk_372, List.forall_mem_cons.mpr ⟨xk_40, List.forall_mem_cons.mpr ⟨xk_373, fun _ h => absurd h List.not_mem_nil⟩⟩⟩⟩)) rfl rfl rfl (by decide +kernel) ⟨Nat.le_of_ble_eq_true rfl, Nat.le_of_ble_eq_true rfl⟩) ⟨fun _ _ _ _ q => q, fun U hU hW => ⟨rfl, xb_at0 hAt hU hW, fun k q h => by simp at h⟩⟩ rfl rfl hl.1 rfl (lv_room (Nat.le_of_ble_eq_true rfl)) dN_member_19 ⟨Nat.le_of_ble_eq_true rfl, Nat.le_of_ble_eq_true rfl⟩)

set_option maxHeartbeats 4000000 in
set_option maxRecDepth 100000 in
theorem cN_member_x3 (l : Launch) {s0 : State} {dC : Nat → ClassId} {dI : Nat → Nat → Nat} {cI cC cL cO : ClassId} (E : xb_Env l s0 dC dI (xtys cI cC cL cO)) (h0 : Nat) (fs : List Value) (x0 : Int32) (y0 : Int32) (x1 : Int32) (y1 : Int32) (wd : Int32) (ua : ¬ x0.toInt64 < (-10000)) (ub : x0.toInt64 ≤ 10000) (wa : ¬ y0.toInt64 < (-10000)) (wb : y0.toInt64 ≤ 10000) (hb9 : x1.toInt64 < (-10000) ∨ ¬ x1.toInt64 ≤ 10000) : xt_Met l yN_member [.code yN_member bN_member 6 (some (.int))] ({ frames := 7, cells := 1, slots := 6, locals := 107 }) (va_Pc [.ref h0, .int x0, .int y0, .int x1, .int y1, .int wd] (fun U => xb_At s0 U ∧ va_P (dC, dI) classes [(h0, .inr (0, fs))] U.heap)) "java/lang/IllegalArgumentException" := by
  refine xt_Met.ofW (cc := bN_member) (maxL := 6) (ret := (some (.int))) (by decide) rfl ?_
  intro p e s m args below meth c s₁ B hml hex hv
  obtain ⟨rfl, hAt, hP⟩ := hv
  have hx := B.exec
  have hb := B.bytes
  have hr := B.returns
  have hts := xb_hts E hAt ([.ref h0, .int x0, .int y0, .int x1, .int y1, .int wd] : List Value).toArray
  have hown : s.vm.findClass "NailRules" = some m.cls := findClass_of_methodNamed B.named
  have hlocks := B.notSynchronized
  have hK := xb_K E hAt
  have hl := lv_entry ([.ref h0, .int x0, .int y0, .int x1, .int y1, .int wd]) (n := 6) (Nat.le_of_ble_eq_true rfl)
  rw [lg_entry_eq]
  generalize (lg_sl ([.ref h0, .int x0, .int y0, .int x1, .int y1, .int wd]) ++ List.replicate (6 - (lg_sl ([.ref h0, .int x0, .int y0, .int x1, .int y1, .int wd])).length) Slot.unset).toArray = ls at hl ⊢
  have hl : lv_has ls 6 [(0, .ref h0), (1, .int x0), (2, .int y0), (3, .int x1), (4, .int y1), (5, .int wd)] := hl
  refine lv_iload_n hx hb dN_member_0 rfl (lv_at hl 1 rfl) ?_
  refine lv_i2l hx hb dN_member_1 rfl ?_
  refine lv_ldc2 (v := (-10000)) hx hb hown (hts _ xk_510) dN_member_2 ?_
  refine lv_ldc2 (v := 10000) hx hb hown (hts _ xk_511) dN_member_5 ?_
  refine xb_rd (W.runS (As := [.long x0.toInt64, .long (-10000), .long 10000]) (rest := []) ⟨hx, hb, hml, hown, hts⟩ (cN_requireWithin l E x0.toInt64 (-10000) 10000 (ua) (ub)) (cwS 3 hts (xb_gi (List.forall_mem_cons.mpr ⟨xk_371, List.forall_mem_cons.mpr ⟨xk_372, List.forall_mem_cons.mpr ⟨xk_40, List.forall_mem_cons.mpr ⟨xk_373, fun _ h => absurd h List.not_mem_nil⟩⟩⟩⟩)) rfl rfl rfl (by decide +kernel) ⟨Nat.le_of_ble_eq_true rfl, Nat.le_of_ble_eq_true rfl⟩) ⟨fun _ _ _ _ q => q, fun U hU hW => ⟨rfl, xb_at0 hAt hU hW, fun k q h => by simp at h⟩⟩ rfl rfl hl.1 rfl (lv_room (Nat.le_of_ble_eq_true rfl)) dN_member_8 ⟨Nat.zero_le _, Nat.zero_le _⟩) ?_
  refine lv_iload_n hx hb dN_member_11 rfl (lv_at hl 2 rfl) ?_
  refine lv_i2l hx hb dN_member_12 rfl ?_
  refine lv_ldc2 (v := (-10000)) hx hb hown (hts _ xk_510) dN_member_13 ?_
  refine lv_ldc2 (v := 10000) hx hb hown (hts _ xk_511) dN_member_16 ?_
  refine xb_rd (W.runS (As := [.long y0.toInt64, .long (-10000), .long 10000]) (rest := []) ⟨hx, hb, hml, hown, hts⟩ (cN_requireWithin l E y0.toInt64 (-10000) 10000 (wa) (wb)) (cwS 3 hts (xb_gi (List.forall_mem_cons.mpr ⟨xk_371, List.forall_mem_cons.mpr ⟨xk_372, List.forall_mem_cons.mpr ⟨xk_40, List.forall_mem_cons.mpr ⟨xk_373, fun _ h => absurd h List.not_mem_nil⟩⟩⟩⟩)) rfl rfl rfl (by decide +kernel) ⟨Nat.le_of_ble_eq_true rfl, Nat.le_of_ble_eq_true rfl⟩) ⟨fun _ _ _ _ q => q, fun U hU hW => ⟨rfl, xb_at0 hAt hU hW, fun k q h => by simp at h⟩⟩ rfl rfl hl.1 rfl (lv_room (Nat.le_of_ble_eq_true rfl)) dN_member_19 ⟨Nat.zero_le _, Nat.zero_le _⟩) ?_
  refine lv_iload_n hx hb dN_member_22 rfl (lv_at hl 3 rfl) ?_
  refine lv_i2l hx hb dN_member_23 rfl ?_
  refine lv_ldc2 (v := (-10000)) hx hb hown (hts _ xk_510) dN_member_24 ?_
  refine lv_ldc2 (v := 10000) hx hb hown (hts _ xk_511) dN_member_27 ?_
  exact xt_pass hlocks hex (xt_runS (As := [.long x1.toInt64, .long (-10000), .long 10000]) (rest := []) ⟨hx, hb, hml, hown, hts⟩ (cN_requireWithin_x l E x1.toInt64 (-10000) 10000 (hb9)) (cwS 3 hts (xb_gi (List.forall_mem_cons.mpr ⟨xk_371, List.forall_mem_cons.mpr ⟨xk_372, List.forall_mem_cons.mpr ⟨xk_40, List.forall_mem_cons.mpr ⟨xk_373, fun _ h => absurd h List.not_mem_nil⟩⟩⟩⟩)) rfl rfl rfl (by decide +kernel) ⟨Nat.le_of_ble_eq_true rfl, Nat.le_of_ble_eq_true rfl⟩) ⟨fun _ _ _ _ q => q, fun U hU hW => ⟨rfl, xb_at0 hAt hU hW, fun k q h => by simp at h⟩⟩ rfl rfl hl.1 rfl (lv_room (Nat.le_of_ble_eq_true rfl)) dN_member_30 ⟨Nat.le_of_ble_eq_true rfl, Nat.le_of_ble_eq_true rfl⟩)

set_option maxHeartbeats 4000000 in
set_option maxRecDepth 100000 in
theorem cN_member_x4 (l : Launch) {s0 : State} {dC : Nat → ClassId} {dI : Nat → Nat → Nat} {cI cC cL cO : ClassId} (E : xb_Env l s0 dC dI (xtys cI cC cL cO)) (h0 : Nat) (fs : List Value) (x0 : Int32) (y0 : Int32) (x1 : Int32) (y1 : Int32) (wd : Int32) (ua : ¬ x0.toInt64 < (-10000)) (ub : x0.toInt64 ≤ 10000) (wa : ¬ y0.toInt64 < (-10000)) (wb : y0.toInt64 ≤ 10000) (ga : ¬ x1.toInt64 < (-10000)) (gb : x1.toInt64 ≤ 10000) (hb9 : y1.toInt64 < (-10000) ∨ ¬ y1.toInt64 ≤ 10000) : xt_Met l yN_member [.code yN_member bN_member 6 (some (.int))] ({ frames := 7, cells := 1, slots := 6, locals := 107 }) (va_Pc [.ref h0, .int x0, .int y0, .int x1, .int y1, .int wd] (fun U => xb_At s0 U ∧ va_P (dC, dI) classes [(h0, .inr (0, fs))] U.heap)) "java/lang/IllegalArgumentException" := by
  refine xt_Met.ofW (cc := bN_member) (maxL := 6) (ret := (some (.int))) (by decide) rfl ?_
  intro p e s m args below meth c s₁ B hml hex hv
  obtain ⟨rfl, hAt, hP⟩ := hv
  have hx := B.exec
  have hb := B.bytes
  have hr := B.returns
  have hts := xb_hts E hAt ([.ref h0, .int x0, .int y0, .int x1, .int y1, .int wd] : List Value).toArray
  have hown : s.vm.findClass "NailRules" = some m.cls := findClass_of_methodNamed B.named
  have hlocks := B.notSynchronized
  have hK := xb_K E hAt
  have hl := lv_entry ([.ref h0, .int x0, .int y0, .int x1, .int y1, .int wd]) (n := 6) (Nat.le_of_ble_eq_true rfl)
  rw [lg_entry_eq]
  generalize (lg_sl ([.ref h0, .int x0, .int y0, .int x1, .int y1, .int wd]) ++ List.replicate (6 - (lg_sl ([.ref h0, .int x0, .int y0, .int x1, .int y1, .int wd])).length) Slot.unset).toArray = ls at hl ⊢
  have hl : lv_has ls 6 [(0, .ref h0), (1, .int x0), (2, .int y0), (3, .int x1), (4, .int y1), (5, .int wd)] := hl
  refine lv_iload_n hx hb dN_member_0 rfl (lv_at hl 1 rfl) ?_
  refine lv_i2l hx hb dN_member_1 rfl ?_
  refine lv_ldc2 (v := (-10000)) hx hb hown (hts _ xk_510) dN_member_2 ?_
  refine lv_ldc2 (v := 10000) hx hb hown (hts _ xk_511) dN_member_5 ?_
  refine xb_rd (W.runS (As := [.long x0.toInt64, .long (-10000), .long 10000]) (rest := []) ⟨hx, hb, hml, hown, hts⟩ (cN_requireWithin l E x0.toInt64 (-10000) 10000 (ua) (ub)) (cwS 3 hts (xb_gi (List.forall_mem_cons.mpr ⟨xk_371, List.forall_mem_cons.mpr ⟨xk_372, List.forall_mem_cons.mpr ⟨xk_40, List.forall_mem_cons.mpr ⟨xk_373, fun _ h => absurd h List.not_mem_nil⟩⟩⟩⟩)) rfl rfl rfl (by decide +kernel) ⟨Nat.le_of_ble_eq_true rfl, Nat.le_of_ble_eq_true rfl⟩) ⟨fun _ _ _ _ q => q, fun U hU hW => ⟨rfl, xb_at0 hAt hU hW, fun k q h => by simp at h⟩⟩ rfl rfl hl.1 rfl (lv_room (Nat.le_of_ble_eq_true rfl)) dN_member_8 ⟨Nat.zero_le _, Nat.zero_le _⟩) ?_
  refine lv_iload_n hx hb dN_member_11 rfl (lv_at hl 2 rfl) ?_
  refine lv_i2l hx hb dN_member_12 rfl ?_
  refine lv_ldc2 (v := (-10000)) hx hb hown (hts _ xk_510) dN_member_13 ?_
  refine lv_ldc2 (v := 10000) hx hb hown (hts _ xk_511) dN_member_16 ?_
  refine xb_rd (W.runS (As := [.long y0.toInt64, .long (-10000), .long 10000]) (rest := []) ⟨hx, hb, hml, hown, hts⟩ (cN_requireWithin l E y0.toInt64 (-10000) 10000 (wa) (wb)) (cwS 3 hts (xb_gi (List.forall_mem_cons.mpr ⟨xk_371, List.forall_mem_cons.mpr ⟨xk_372, List.forall_mem_cons.mpr ⟨xk_40, List.forall_mem_cons.mpr ⟨xk_373, fun _ h => absurd h List.not_mem_nil⟩⟩⟩⟩)) rfl rfl rfl (by decide +kernel) ⟨Nat.le_of_ble_eq_true rfl, Nat.le_of_ble_eq_true rfl⟩) ⟨fun _ _ _ _ q => q, fun U hU hW => ⟨rfl, xb_at0 hAt hU hW, fun k q h => by simp at h⟩⟩ rfl rfl hl.1 rfl (lv_room (Nat.le_of_ble_eq_true rfl)) dN_member_19 ⟨Nat.zero_le _, Nat.zero_le _⟩) ?_
  refine lv_iload_n hx hb dN_member_22 rfl (lv_at hl 3 rfl) ?_
  refine lv_i2l hx hb dN_member_23 rfl ?_
  refine lv_ldc2 (v := (-10000)) hx hb hown (hts _ xk_510) dN_member_24 ?_
  refine lv_ldc2 (v := 10000) hx hb hown (hts _ xk_511) dN_member_27 ?_
  refine xb_rd (W.runS (As := [.long x1.toInt64, .long (-10000), .long 10000]) (rest := []) ⟨hx, hb, hml, hown, hts⟩ (cN_requireWithin l E x1.toInt64 (-10000) 10000 (ga) (gb)) (cwS 3 hts (xb_gi (List.forall_mem_cons.mpr ⟨xk_371, List.forall_mem_cons.mpr ⟨xk_372, List.forall_mem_cons.mpr ⟨xk_40, List.forall_mem_cons.mpr ⟨xk_373, fun _ h => absurd h List.not_mem_nil⟩⟩⟩⟩)) rfl rfl rfl (by decide +kernel) ⟨Nat.le_of_ble_eq_true rfl, Nat.le_of_ble_eq_true rfl⟩) ⟨fun _ _ _ _ q => q, fun U hU hW => ⟨rfl, xb_at0 hAt hU hW, fun k q h => by simp at h⟩⟩ rfl rfl hl.1 rfl (lv_room (Nat.le_of_ble_eq_true rfl)) dN_member_30 ⟨Nat.zero_le _, Nat.zero_le _⟩) ?_
  refine lv_iload hx hb dN_member_33 (lv_at hl 4 rfl) ?_
  refine lv_i2l hx hb dN_member_35 rfl ?_
  refine lv_ldc2 (v := (-10000)) hx hb hown (hts _ xk_510) dN_member_36 ?_
  refine lv_ldc2 (v := 10000) hx hb hown (hts _ xk_511) dN_member_39 ?_
  exact xt_pass hlocks hex (xt_runS (As := [.long y1.toInt64, .long (-10000), .long 10000]) (rest := []) ⟨hx, hb, hml, hown, hts⟩ (cN_requireWithin_x l E y1.toInt64 (-10000) 10000 (hb9)) (cwS 3 hts (xb_gi (List.forall_mem_cons.mpr ⟨xk_371, List.forall_mem_cons.mpr ⟨xk_372, List.forall_mem_cons.mpr ⟨xk_40, List.forall_mem_cons.mpr ⟨xk_373, fun _ h => absurd h List.not_mem_nil⟩⟩⟩⟩)) rfl rfl rfl (by decide +kernel) ⟨Nat.le_of_ble_eq_true rfl, Nat.le_of_ble_eq_true rfl⟩) ⟨fun _ _ _ _ q => q, fun U hU hW => ⟨rfl, xb_at0 hAt hU hW, fun k q h => by simp at h⟩⟩ rfl rfl hl.1 rfl (lv_room (Nat.le_of_ble_eq_true rfl)) dN_member_42 ⟨Nat.le_of_ble_eq_true rfl, Nat.le_of_ble_eq_true rfl⟩)
