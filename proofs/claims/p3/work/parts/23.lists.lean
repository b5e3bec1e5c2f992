def fA_size (sn : Int32) : Int32 := sn
set_option maxHeartbeats 4000000 in
set_option maxRecDepth 100000 in
theorem cA_size (l : Launch) {s0 : State} {dC : Nat → ClassId} {dI : Nat → Nat → Nat} {cI cC cL cO : ClassId} (E : xb_Env l s0 dC dI (xtys cI cC cL cO)) (h0 : Nat) (fs : List Value) (sn : Int32) (hf1 : fs[1]? = some (.int sn)) : Met l yA_size [.code yA_size bA_size 1 (some (.int))] ({ frames := 0, cells := 0, slots := 0, locals := 0 }) (va_Pc [.ref h0] (fun U => xb_At s0 U ∧ va_P (dC, dI) classes [(h0, .inr (4, fs))] U.heap)) (xb_R (some (.int (fA_size sn)))) 0 0 (fun _ => False) := by
  refine Met.ofW (cc := bA_size) (maxL := 1) (ret := (some (.int))) (by decide) rfl ?_
  intro p e s m args below meth c s₁ B hml hv
  obtain ⟨rfl, hAt, hP⟩ := hv
  have hx := B.exec
  have hb := B.bytes
  have hr := B.returns
  have hts := xb_hts E hAt ([.ref h0] : List Value).toArray
  have hown : s.vm.findClass "java/util/ArrayList" = some m.cls := findClass_of_methodNamed B.named
  have hlocks := B.notSynchronized
  have hK := xb_K E hAt
  have hl := lv_entry ([.ref h0]) (n := 1) (Nat.le_of_ble_eq_true rfl)
  rw [lg_entry_eq]
  generalize (lg_sl ([.ref h0]) ++ List.replicate (1 - (lg_sl ([.ref h0])).length) Slot.unset).toArray = ls at hl ⊢
  have hl : lv_has ls 1 [(0, .ref h0)] := hl
  refine lv_aload_n hx hb dA_size_0 rfl (lv_at hl 0 rfl) ?_
  refine va_get (D := (dC, dI)) (ci := 4) (v := .int sn) (C := xR_A) (T := xF_A) (N := 3) hx hb hts xi_A hown hK hP 0 rfl rfl 1 (by decide) (hts _ xk_102) (fun _ h9 => h9) hf1 dA_size_1 ?_
  have e_f : fA_size sn = sn := rfl
  exact W.iret (v := sn) hx hb hr (fun t ht hW => ⟨by rw [e_f], ht⟩) (fun _ h => by cases h) dA_size_4

set_option maxHeartbeats 4000000 in
set_option maxRecDepth 100000 in
theorem cA_elementData (l : Launch) {s0 : State} {dC : Nat → ClassId} {dI : Nat → Nat → Nat} {cI cC cL cO : ClassId} (E : xb_Env l s0 dC dI (xtys cI cC cL cO)) {qm : Nat} (h0 : Nat) (fs : List Value) (ea : Nat) (ef : Nat → Option Nat) (i : Int32) (hf0 : fs[0]? = some (.ref ea)) (hi : vp_in i 10) (hq : ef i.toNatClampNeg = some qm) : Met l yA_elementData [.code yA_elementData bA_elementData 2 (some (.object "java/lang/Object"))] ({ frames := 0, cells := 0, slots := 0, locals := 0 }) (va_Pc [.ref h0, .int i] (fun U => xb_At s0 U ∧ va_P (dC, dI) classes [(h0, .inr (4, fs)), (ea, .inl (cO, 10, .inr (.inr (.inr (.inr ef)))))] U.heap)) (xb_R (some (.ref qm))) 0 0 (fun _ => False) := by
  refine Met.ofW (cc := bA_elementData) (maxL := 2) (ret := (some (.object "java/lang/Object"))) (by decide) rfl ?_
  intro p e s m args below meth c s₁ B hml hv
  obtain ⟨rfl, hAt, hP⟩ := hv
  have hx := B.exec
  have hb := B.bytes
  have hr := B.returns
  have hts := xb_hts E hAt ([.ref h0, .int i] : List Value).toArray
  have hown : s.vm.findClass "java/util/ArrayList" = some m.cls := findClass_of_methodNamed B.named
  have hlocks := B.notSynchronized
  have hK := xb_K E hAt
  have hl := lv_entry ([.ref h0, .int i]) (n := 2) (Nat.le_of_ble_eq_true rfl)
  rw [lg_entry_eq]
  generalize (lg_sl ([.ref h0, .int i]) ++ List.replicate (2 - (lg_sl ([.ref h0, .int i])).length) Slot.unset).toArray = ls at hl ⊢
  have hl : lv_has ls 2 [(0, .ref h0), (1, .int i)] := hl
  refine lv_aload_n hx hb dA_elementData_0 rfl (lv_at hl 0 rfl) ?_
  refine va_get (D := (dC, dI)) (ci := 4) (v := .ref ea) (C := xR_A) (T := xF_A) (N := 3) hx hb hts xi_A hown hK hP 0 rfl rfl 0 (by decide) (hts _ xk_101) (fun _ h9 => h9) hf0 dA_elementData_1 ?_
  refine lv_iload_n hx hb dA_elementData_4 rfl (lv_at hl 1 rfl) ?_
  have o_1 : vp_in i 10 := by exact hi
  refine xa_ald (v := qm) hx hb hK hP 1 3 rfl rfl o_1 hq dA_elementData_5 ?_
  exact W.aret (v := .ref qm) hx hb hr (Or.inl ⟨_, rfl⟩) (Or.inr ⟨_, rfl⟩) (fun t ht hW => ⟨rfl, ht⟩) (fun _ h => by cases h) dA_elementData_6

set_option maxHeartbeats 4000000 in
set_option maxRecDepth 100000 in
theorem cA_get (l : Launch) {s0 : State} {dC : Nat → ClassId} {dI : Nat → Nat → Nat} {cI cC cL cO : ClassId} (E : xb_Env l s0 dC dI (xtys cI cC cL cO)) {qm : Nat} (h0 : Nat) (fs : List Value) (ea : Nat) (ef : Nat → Option Nat) (sn : Int32) (i : Int32) (hf0 : fs[0]? = some (.ref ea)) (hf1 : fs[1]? = some (.int sn)) (h1 : ¬ i < 0) (h2 : i < sn) (hi : vp_in i 10) (hq : ef i.toNatClampNeg = some qm) : Met l yA_get [.code yA_get bA_get 2 (some (.object "java/lang/Object"))] ({ frames := 2, cells := 0, slots := 0, locals := 43 }) (va_Pc [.ref h0, .int i] (fun U => xb_At s0 U ∧ va_P (dC, dI) classes [(h0, .inr (4, fs)), (ea, .inl (cO, 10, .inr (.inr (.inr (.inr ef)))))] U.heap)) (xb_R (some (.ref qm))) 0 0 (fun _ => False) := by
  refine Met.ofW (cc := bA_get) (maxL := 2) (ret := (some (.object "java/lang/Object"))) (by decide) rfl ?_
  intro p e s m args below meth c s₁ B hml hv
  obtain ⟨rfl, hAt, hP⟩ := hv
  have hx := B.exec
  have hb := B.bytes
  have hr := B.returns
  have hts := xb_hts E hAt ([.ref h0, .int i] : List Value).toArray
  have hown : s.vm.findClass "java/util/ArrayList" = some m.cls := findClass_of_methodNamed B.named
  have hlocks := B.notSynchronized
  have hK := xb_K E hAt
  have hl := lv_entry ([.ref h0, .int i]) (n := 2) (Nat.le_of_ble_eq_true rfl)
  rw [lg_entry_eq]
  generalize (lg_sl ([.ref h0, .int i]) ++ List.replicate (2 - (lg_sl ([.ref h0, .int i])).length) Slot.unset).toArray = ls at hl ⊢
  have hl : lv_has ls 2 [(0, .ref h0), (1, .int i)] := hl
  refine lv_iload_n hx hb dA_get_0 rfl (lv_at hl 1 rfl) ?_
  refine lv_aload_n hx hb dA_get_1 rfl (lv_at hl 0 rfl) ?_
  refine va_get (D := (dC, dI)) (ci := 4) (v := .int sn) (C := xR_A) (T := xF_A) (N := 3) hx hb hts xi_A hown hK hP 0 rfl rfl 1 (by decide) (hts _ xk_102) (fun _ h9 => h9) hf1 dA_get_2 ?_
  refine xb_rdN (va_runS (As := [.int i, .int sn]) (rest := []) ⟨hx, hb, hml, hown, hts⟩ (cO_checkIndex l E i sn (h1) (h2)) (va_cwS 2 hts (xb_gi (List.forall_mem_cons.mpr ⟨xk_602, List.forall_mem_cons.mpr ⟨xk_603, List.forall_mem_cons.mpr ⟨xk_61, List.forall_mem_cons.mpr ⟨xk_604, fun _ h => absurd h List.not_mem_nil⟩⟩⟩⟩)) rfl rfl rfl (by decide +kernel) ⟨Nat.le_of_ble_eq_true rfl, Nat.le_of_ble_eq_true rfl⟩) ⟨fun _ _ _ _ q => q, fun U hU hW => ⟨rfl, xb_at0 hAt hU hW, fun k q h => by simp at h⟩⟩ rfl rfl hl.1 rfl (lv_room (Nat.le_of_ble_eq_true rfl)) dA_get_5 ⟨Nat.zero_le _, Nat.zero_le _⟩) ?_
  refine lv_pop hx hb dA_get_8 rfl ?_
  refine lv_aload_n hx hb dA_get_9 rfl (lv_at hl 0 rfl) ?_
  refine lv_iload_n hx hb dA_get_10 rfl (lv_at hl 1 rfl) ?_
  refine xb_rd (W.runV (C := "java/util/ArrayList") (As := [.int i]) (rest := []) ⟨hx, hb, hml, hown, hts⟩ (cA_elementData l E h0 fs ea ef i hf0 (hi) (hq)) (cwV 1 hts (xb_gi (List.forall_mem_cons.mpr ⟨xk_606, List.forall_mem_cons.mpr ⟨xk_607, List.forall_mem_cons.mpr ⟨xk_608, List.forall_mem_cons.mpr ⟨xk_44, List.forall_mem_cons.mpr ⟨xk_609, fun _ h => absurd h List.not_mem_nil⟩⟩⟩⟩⟩)) rfl rfl rfl (by decide +kernel) ⟨Nat.le_of_ble_eq_true rfl, Nat.le_of_ble_eq_true rfl⟩) ⟨fun _ _ _ _ q => q, va_recv hK hP (ci := 4) (q0 := 0) rfl rfl, fun U hU hW => ⟨rfl, xb_at0 hAt hU hW, by rw [hU]; exact hP.sub (ws' := [(h0, .inr (4, fs)), (ea, .inl (cO, 10, .inr (.inr (.inr (.inr ef)))))]) [0, 1] rfl⟩⟩ rfl rfl hl.1 rfl (lv_room (Nat.le_of_ble_eq_true rfl)) dA_get_11 ⟨Nat.zero_le _, Nat.zero_le _⟩) ?_
  exact W.aret (v := .ref qm) hx hb hr (Or.inl ⟨_, rfl⟩) (Or.inr ⟨_, rfl⟩) (fun t ht hW => ⟨rfl, ht⟩) (fun _ h => by cases h) dA_get_14

set_option maxHeartbeats 4000000 in
set_option maxRecDepth 100000 in
theorem cAC_init (l : Launch) {s0 : State} {dC : Nat → ClassId} {dI : Nat → Nat → Nat} {cI cC cL cO : ClassId} (E : xb_Env l s0 dC dI (xtys cI cC cL cO)) (h0 : Nat) : Met l yAC_init [.code yAC_init bAC_init 1 none] ({ frames := 1, cells := 0, slots := 0, locals := 12 }) (va_Pc [.ref h0] (fun U => xb_At s0 U ∧ va_P (dC, dI) classes [] U.heap)) (xb_R (none)) 0 0 (fun _ => False) := by
  refine Met.ofW (cc := bAC_init) (maxL := 1) (ret := none) (by decide) rfl ?_
  intro p e s m args below meth c s₁ B hml hv
  obtain ⟨rfl, hAt, hP⟩ := hv
  have hx := B.exec
  have hb := B.bytes
  have hr := B.returns
  have hts := xb_hts E hAt ([.ref h0] : List Value).toArray
  have hown : s.vm.findClass "java/util/AbstractCollection" = some m.cls := findClass_of_methodNamed B.named
  have hlocks := B.notSynchronized
  have hK := xb_K E hAt
  have hl := lv_entry ([.ref h0]) (n := 1) (Nat.le_of_ble_eq_true rfl)
  rw [lg_entry_eq]
  generalize (lg_sl ([.ref h0]) ++ List.replicate (1 - (lg_sl ([.ref h0])).length) Slot.unset).toArray = ls at hl ⊢
  have hl : lv_has ls 1 [(0, .ref h0)] := hl
  refine lv_aload_n hx hb dAC_init_0 rfl (lv_at hl 0 rfl) ?_
  refine W.objInit hx hb hown (hts _ xk_98) (hts _ xk_68) (hts _ xk_69) rfl (by rw [hml]; exact hl.1) rfl dAC_init_1 (Nat.le_of_ble_eq_true rfl) (Nat.le_of_ble_eq_true rfl) ?_
  exact W.vret hx hb hr (fun t ht hW => ⟨rfl, ht⟩) (fun _ h => by cases h) dAC_init_4

set_option maxHeartbeats 4000000 in
set_option maxRecDepth 100000 in
theorem cAL_init (l : Launch) {s0 : State} {dC : Nat → ClassId} {dI : Nat → Nat → Nat} {cI cC cL cO : ClassId} (E : xb_Env l s0 dC dI (xtys cI cC cL cO)) (sz : Nat) (h0 : Nat) : Met l yAL_init [.code yAL_init bAL_init 1 none] ({ frames := 2, cells := 0, slots := 0, locals := 32 }) (va_Pc [.ref h0] (fun U => xb_At s0 U ∧ U.heap.size = sz ∧ va_P (dC, dI) classes [(h0, .inr (4, [.null, .int 0, .int 0]))] U.heap ∧ va_D (fun q => s0.heap.size ≤ q) [(h0, .inr (4, [.null, .int 0, .int 0]))])) (xb_W (dC, dI) (fun v9 w9 => v9 = none ∧ w9 = [(h0, .inr (4, [.null, .int 0, .int 0]))]) (va_A [(h0, .inr (4, [.null, .int 0, .int 0]))] sz)) 0 0 (va_A [(h0, .inr (4, [.null, .int 0, .int 0]))] sz) := by
  refine Met.ofW (cc := bAL_init) (maxL := 1) (ret := none) (by decide) rfl ?_
  intro p e s m args below meth c s₁ B hml hv
  obtain ⟨rfl, hAt, hsz, hP, hD0⟩ := hv
  have hx := B.exec
  have hb := B.bytes
  have hr := B.returns
  have hts := xb_hts E hAt ([.ref h0] : List Value).toArray
  have hown : s.vm.findClass "java/util/AbstractList" = some m.cls := findClass_of_methodNamed B.named
  have hlocks := B.notSynchronized
  have hK := xb_K E hAt
  have hin : meth.name = "<init>" := (name_of_methodNamed B.named B.method).1
  subst hsz
  have hA0 := xb_A0 hAt hD0
  have hD := hD0.self (sz := s.heap.size)
  generalize hAe : va_A [(h0, .inr (4, [.null, .int 0, .int 0]))] s.heap.size = A at hD hA0 ⊢
  have hA : ∀ q : Nat, s.heap.size ≤ q → A q := fun q h => by rw [← hAe]; exact Or.inr h
  have hS : va_S A s.heap s.heap [] := va_S.rf
  have hl := lv_entry ([.ref h0]) (n := 1) (Nat.le_of_ble_eq_true rfl)
  rw [lg_entry_eq]
  generalize (lg_sl ([.ref h0]) ++ List.replicate (1 - (lg_sl ([.ref h0])).length) Slot.unset).toArray = ls at hl ⊢
  have hl : lv_has ls 1 [(0, .ref h0)] := hl
  refine lv_aload_n hx hb dAL_init_0 rfl (lv_at hl 0 rfl) ?_
  refine xb_rdN (va_runI (As := []) (rest := []) ⟨hx, hb, hml, hown, hts⟩ (cAC_init l E h0) (cwI 0 hts (xb_gi (List.forall_mem_cons.mpr ⟨xk_97, fun _ h => absurd h List.not_mem_nil⟩)) rfl rfl rfl (hts _ xk_42) (hts _ xk_95) (hts _ xk_96) rfl (by decide +kernel) ⟨Nat.le_of_ble_eq_true rfl, Nat.le_of_ble_eq_true rfl⟩) ⟨fun _ _ _ _ q => q, fun U hU hW => ⟨rfl, xb_atS hAt hS hA0 hU hW, fun k q h => by simp at h⟩⟩ rfl rfl hl.1 rfl (lv_room (Nat.le_of_ble_eq_true rfl)) dAL_init_1 ⟨Nat.zero_le _, Nat.zero_le _⟩) ?_
  refine lv_aload_n hx hb dAL_init_4 rfl (lv_at hl 0 rfl) ?_
  refine lv_iconst (v := 0) hx hb dAL_init_5 (by decide) ?_
  refine va_put (D := (dC, dI)) (ci := 4) (v := .int 0) (ty := .int) (C := xR_A) (T := xF_A) (N := 3) hx hb hts xi_A xt_A xt_A_ok xn_A hown hK hP hD hS 0 rfl rfl 2 (by decide) (hts _ xk_103) (fun _ h9 => h9) rfl (by decide +kernel) rfl rfl (Nat.le_of_ble_eq_true rfl) dAL_init_6 (fun H locs hP hD hS => ?_)
  have hP : va_P (dC, dI) classes [(h0, .inr (4, [.null, .int 0, .int 0]))] H := hP
  have hD : va_D A [(h0, .inr (4, [.null, .int 0, .int 0]))] := hD
  have hP9 := hP.sub (ws' := [(h0, .inr (4, [.null, .int 0, .int 0]))]) [0] rfl
  have hD9 := hD.sub (ws' := [(h0, .inr (4, [.null, .int 0, .int 0]))]) [0] (by decide) rfl
  exact W.vret hx hb hr (fun t ht hW => ⟨_, _, rfl, ⟨rfl, rfl⟩, by rw [ht]; exact hP9, hD9, hS.F ht⟩) hS.2.2 dAL_init_9

set_option maxHeartbeats 4000000 in
set_option maxRecDepth 100000 in
theorem cA_init (l : Launch) {s0 : State} {dC : Nat → ClassId} {dI : Nat → Nat → Nat} {cI cC cL cO : ClassId} (E : xb_Env l s0 dC dI (xtys cI cC cL cO)) {d0 : Nat} (sz : Nat) (h0 : Nat) (hZ : xa_D s0 d0) : Met l yA_init [.code yA_init bA_init 1 none] ({ frames := 3, cells := 0, slots := 0, locals := 52 }) (va_Pc [.ref h0] (fun U => xb_At s0 U ∧ U.heap.size = sz ∧ va_P (dC, dI) classes [(h0, .inr (4, [.null, .int 0, .int 0]))] U.heap ∧ va_D (fun q => s0.heap.size ≤ q) [(h0, .inr (4, [.null, .int 0, .int 0]))])) (xb_W (dC, dI) (fun v9 w9 => v9 = none ∧ w9 = [(h0, .inr (4, [.ref d0, .int 0, .int 0]))]) (va_A [(h0, .inr (4, [.null, .int 0, .int 0]))] sz)) 0 0 (va_A [(h0, .inr (4, [.null, .int 0, .int 0]))] sz) := by
  refine Met.ofW (cc := bA_init) (maxL := 1) (ret := none) (by decide) rfl ?_
  intro p e s m args below meth c s₁ B hml hv
  obtain ⟨rfl, hAt, hsz, hP, hD0⟩ := hv
  have hx := B.exec
  have hb := B.bytes
  have hr := B.returns
  have hts := xb_hts E hAt ([.ref h0] : List Value).toArray
  have hown : s.vm.findClass "java/util/ArrayList" = some m.cls := findClass_of_methodNamed B.named
  have hlocks := B.notSynchronized
  have hK := xb_K E hAt
  have hin : meth.name = "<init>" := (name_of_methodNamed B.named B.method).1
  subst hsz
  have hA0 := xb_A0 hAt hD0
  have hD := hD0.self (sz := s.heap.size)
  generalize hAe : va_A [(h0, .inr (4, [.null, .int 0, .int 0]))] s.heap.size = A at hD hA0 ⊢
  have hA : ∀ q : Nat, s.heap.size ≤ q → A q := fun q h => by rw [← hAe]; exact Or.inr h
  have hS : va_S A s.heap s.heap [] := va_S.rf
  have hl := lv_entry ([.ref h0]) (n := 1) (Nat.le_of_ble_eq_true rfl)
  rw [lg_entry_eq]
  generalize (lg_sl ([.ref h0]) ++ List.replicate (1 - (lg_sl ([.ref h0])).length) Slot.unset).toArray = ls at hl ⊢
  have hl : lv_has ls 1 [(0, .ref h0)] := hl
  refine lv_aload_n hx hb dA_init_0 rfl (lv_at hl 0 rfl) ?_
  refine xb_wr (wr := []) (va_runI (As := []) (rest := []) ⟨hx, hb, hml, hown, hts⟩ (cAL_init l E _ h0) (cwI 0 hts (xb_gi (List.forall_mem_cons.mpr ⟨xk_94, fun _ h => absurd h List.not_mem_nil⟩)) rfl rfl rfl (hts _ xk_43) (hts _ xk_92) (hts _ xk_93) rfl (by decide +kernel) ⟨Nat.le_of_ble_eq_true rfl, Nat.le_of_ble_eq_true rfl⟩) ⟨fun _ _ _ _ q => q, fun U hU hW => ⟨rfl, xb_atS hAt hS hA0 hU hW, by rw [hU], by rw [hU]; exact hP.sub (ws' := [(h0, .inr (4, [.null, .int 0, .int 0]))]) [0] rfl, (hD.sub (ws' := [(h0, .inr (4, [.null, .int 0, .int 0]))]) [0] (by decide) rfl).weaken (fun _ q _ h => hA0 q.1 h)⟩⟩ rfl rfl hl.1 rfl (lv_room (Nat.le_of_ble_eq_true rfl)) dA_init_1 ⟨Nat.le_of_ble_eq_true rfl, Nat.le_of_ble_eq_true rfl⟩) hP hD hS hA [0] [] rfl rfl (by decide) (by decide) ?_
  rintro _ _ H locs ⟨rfl, rfl⟩ hP hD hS
  have hP : va_P (dC, dI) classes [(h0, .inr (4, [.null, .int 0, .int 0]))] H := hP
  have hD : va_D A [(h0, .inr (4, [.null, .int 0, .int 0]))] := hD
  refine lv_aload_n hx hb dA_init_4 rfl (lv_at hl 0 rfl) ?_
  refine va_gets (A := A) hx hb (xa_Z hZ hAt hA0) hS hown (hts _ xk_99) (fun _ h9 => h9) dA_init_5 ?_
  refine va_put (D := (dC, dI)) (ci := 4) (v := .ref d0) (ty := .array (.object "java/lang/Object")) (C := xR_A) (T := xF_A) (N := 3) hx hb hts xi_A xt_A xt_A_ok xn_A hown hK hP hD hS 0 rfl rfl 0 (by decide) (hts _ xk_101) (fun _ h9 => h9) rfl (by decide +kernel) rfl rfl (Nat.le_of_ble_eq_true rfl) dA_init_8 (fun H locs hP hD hS => ?_)
  have hP : va_P (dC, dI) classes [(h0, .inr (4, [.ref d0, .int 0, .int 0]))] H := hP
  have hD : va_D A [(h0, .inr (4, [.ref d0, .int 0, .int 0]))] := hD
  have hP9 := hP.sub (ws' := [(h0, .inr (4, [.ref d0, .int 0, .int 0]))]) [0] rfl
  have hD9 := hD.sub (ws' := [(h0, .inr (4, [.ref d0, .int 0, .int 0]))]) [0] (by decide) rfl
  exact W.vret hx hb hr (fun t ht hW => ⟨_, _, rfl, ⟨rfl, rfl⟩, by rw [ht]; exact hP9, hD9, hS.F ht⟩) hS.2.2 dA_init_11

set_option maxHeartbeats 4000000 in
set_option maxRecDepth 100000 in
theorem cA_grow1 (l : Launch) {s0 : State} {dC : Nat → ClassId} {dI : Nat → Nat → Nat} {cI cC cL cO : ClassId} (E : xb_Env l s0 dC dI (xtys cI cC cL cO)) {d0 : Nat} (sz : Nat) (h0 : Nat) (mo : Int32) (hZ : xa_D s0 d0) : Met l yA_grow1 [.code yA_grow1 bA_grow1 4 (some (.array (.object "java/lang/Object")))] ({ frames := 1, cells := 1, slots := 10, locals := 14 }) (va_Pc [.ref h0, .int 1] (fun U => xb_At s0 U ∧ U.heap.size = sz ∧ va_P (dC, dI) classes [(h0, .inr (4, [.ref d0, .int 0, .int mo]))] U.heap ∧ va_D (fun q => s0.heap.size ≤ q) [(h0, .inr (4, [.ref d0, .int 0, .int mo]))])) (xb_W (dC, dI) (fun v9 w9 => ∃ q_1 : Nat, v9 = some (.ref q_1) ∧ w9 = [(h0, .inr (4, [.ref q_1, .int 0, .int mo])), (q_1, .inl (cO, 10, .inr (.inr (.inr (.inr (fun _ => none))))))]) (va_A [(h0, .inr (4, [.ref d0, .int 0, .int mo]))] sz)) 1 10 (va_A [(h0, .inr (4, [.ref d0, .int 0, .int mo]))] sz) := by
  refine Met.ofW (cc := bA_grow1) (maxL := 4) (ret := (some (.array (.object "java/lang/Object")))) (by decide) rfl ?_
  intro p e s m args below meth c s₁ B hml hv
  obtain ⟨rfl, hAt, hsz, hP, hD0⟩ := hv
  have hx := B.exec
  have hb := B.bytes
  have hr := B.returns
  have hts := xb_hts E hAt ([.ref h0, .int 1] : List Value).toArray
  have hown : s.vm.findClass "java/util/ArrayList" = some m.cls := findClass_of_methodNamed B.named
  have hlocks := B.notSynchronized
  have hK := xb_K E hAt
  subst hsz
  have hA0 := xb_A0 hAt hD0
  have hD := hD0.self (sz := s.heap.size)
  generalize hAe : va_A [(h0, .inr (4, [.ref d0, .int 0, .int mo]))] s.heap.size = A at hD hA0 ⊢
  have hA : ∀ q : Nat, s.heap.size ≤ q → A q := fun q h => by rw [← hAe]; exact Or.inr h
  have hS : va_S A s.heap s.heap [] := va_S.rf
  have hl := lv_entry ([.ref h0, .int 1]) (n := 4) (Nat.le_of_ble_eq_true rfl)
  rw [lg_entry_eq]
  generalize (lg_sl ([.ref h0, .int 1]) ++ List.replicate (4 - (lg_sl ([.ref h0, .int 1])).length) Slot.unset).toArray = ls at hl ⊢
  have hl : lv_has ls 4 [(0, .ref h0), (1, .int 1)] := hl
  refine lv_aload_n hx hb dA_grow1_0 rfl (lv_at hl 0 rfl) ?_
  refine va_get (D := (dC, dI)) (ci := 4) (v := .ref d0) (C := xR_A) (T := xF_A) (N := 3) hx hb hts xi_A hown hK hP 0 rfl rfl 0 (by decide) (hts _ xk_101) (fun _ h9 => h9) rfl dA_grow1_1 ?_
  refine va_tlen (A := A) (v := 0) hx hb (xa_T hZ hAt hA0) hS rfl dA_grow1_4 ?_
  refine lv_istore_n (lv' := [(2, .int 0), (0, .ref h0), (1, .int 1)]) hx hb dA_grow1_5 rfl hl (by decide) rfl (fun ls hl => ?_)
  refine lv_iload_n hx hb dA_grow1_6 rfl (lv_at hl 0 rfl) ?_
  refine lv_if_gt (tgt := 20) hx hb dA_grow1_7 (by decide) (fun c_1 => ?_) (fun c_1 => ?_)
  · exact absurd c_1 (by decide)
  · refine lv_aload_n hx hb dA_grow1_10 rfl (lv_at hl 1 rfl) ?_
    refine va_get (D := (dC, dI)) (ci := 4) (v := .ref d0) (C := xR_A) (T := xF_A) (N := 3) hx hb hts xi_A hown hK hP 0 rfl rfl 0 (by decide) (hts _ xk_101) (fun _ h9 => h9) rfl dA_grow1_11 ?_
    refine va_gets (A := A) hx hb (xa_Z hZ hAt hA0) hS hown (hts _ xk_99) (fun _ h9 => h9) dA_grow1_14 ?_
    refine lv_acmp_eq (rx := some d0) (ry := some d0) (tgt := 45) hx hb dA_grow1_17 (by decide) (fun _ => ?_) (fun c9 => absurd rfl c9)
    refine lv_aload_n hx hb dA_grow1_45 rfl (lv_at hl 1 rfl) ?_
    refine lv_bipush (v := 10) hx hb dA_grow1_46 (by decide) ?_
    refine lv_iload_n hx hb dA_grow1_48 rfl (lv_at hl 2 rfl) ?_
    refine va_mmax hx hb (hml.trans hl.1.symm) hown (hts _ xk_589) (hts _ xk_254) (hts _ xk_50) (hts _ xk_255) (Nat.le_of_ble_eq_true rfl) (Nat.le_of_ble_eq_true rfl) (Nat.le_of_ble_eq_true rfl) (Nat.le_of_ble_eq_true rfl) dA_grow1_49 ?_
    refine xa_newq (t0 := 3) (N' := 10) hx hb hown (hts _ xk_590) (xa_ao E hAt xk_583) hK rfl hP hD hS hA (by decide) (by decide) (by decide) (Nat.le_of_ble_eq_true rfl) (Nat.le_of_ble_eq_true rfl) dA_grow1_52 (fun q_1 H hP hD hS => ?_)
    have hP : va_P (dC, dI) classes [(h0, .inr (4, [.ref d0, .int 0, .int mo])), (q_1, .inl (cO, 10, .inr (.inr (.inr (.inr (fun _ => none))))))] H := hP
    have hD : va_D A [(h0, .inr (4, [.ref d0, .int 0, .int mo])), (q_1, .inl (cO, 10, .inr (.inr (.inr (.inr (fun _ => none))))))] := hD
    refine W.widen (k := 1) (n := 10) (by omega) (by omega) ?_
    refine lv_dup_x1 hx hb dA_grow1_55 rfl rfl ?_
    refine va_put (D := (dC, dI)) (ci := 4) (v := .ref q_1) (ty := .array (.object "java/lang/Object")) (C := xR_A) (T := xF_A) (N := 3) hx hb hts xi_A xt_A xt_A_ok xn_A hown hK hP hD hS 0 rfl rfl 0 (by decide) (hts _ xk_101) (fun _ h9 => h9) rfl (by decide +kernel) rfl rfl (Nat.le_of_ble_eq_true rfl) dA_grow1_56 (fun H locs hP hD hS => ?_)
    have hP : va_P (dC, dI) classes [(h0, .inr (4, [.ref q_1, .int 0, .int mo])), (q_1, .inl (cO, 10, .inr (.inr (.inr (.inr (fun _ => none))))))] H := hP
    have hD : va_D A [(h0, .inr (4, [.ref q_1, .int 0, .int mo])), (q_1, .inl (cO, 10, .inr (.inr (.inr (.inr (fun _ => none))))))] := hD
    have hP9 := hP.sub (ws' := [(h0, .inr (4, [.ref q_1, .int 0, .int mo])), (q_1, .inl (cO, 10, .inr (.inr (.inr (.inr (fun _ => none))))))]) [0, 1] rfl
    have hD9 := hD.sub (ws' := [(h0, .inr (4, [.ref q_1, .int 0, .int mo])), (q_1, .inl (cO, 10, .inr (.inr (.inr (.inr (fun _ => none))))))]) [0, 1] (by decide) rfl
    refine W.widen (k := 1) (n := 10) (by omega) (by omega) ?_
    exact W.aret (v := .ref q_1) hx hb hr (Or.inr ⟨_, rfl⟩) (Or.inr ⟨_, rfl⟩) (fun t ht hW => ⟨_, _, rfl, ⟨q_1, rfl, rfl⟩, by rw [ht]; exact hP9, hD9, hS.F ht⟩) hS.2.2 dA_grow1_59

set_option maxHeartbeats 4000000 in
set_option maxRecDepth 100000 in
theorem cA_grow0 (l : Launch) {s0 : State} {dC : Nat → ClassId} {dI : Nat → Nat → Nat} {cI cC cL cO : ClassId} (E : xb_Env l s0 dC dI (xtys cI cC cL cO)) {d0 : Nat} (sz : Nat) (h0 : Nat) (mo : Int32) (hZ : xa_D s0 d0) : Met l yA_grow0 [.code yA_grow0 bA_grow0 1 (some (.array (.object "java/lang/Object")))] ({ frames := 2, cells := 1, slots := 10, locals := 37 }) (va_Pc [.ref h0] (fun U => xb_At s0 U ∧ U.heap.size = sz ∧ va_P (dC, dI) classes [(h0, .inr (4, [.ref d0, .int 0, .int mo]))] U.heap ∧ va_D (fun q => s0.heap.size ≤ q) [(h0, .inr (4, [.ref d0, .int 0, .int mo]))])) (xb_W (dC, dI) (fun v9 w9 => ∃ q_1 : Nat, v9 = some (.ref q_1) ∧ w9 = [(h0, .inr (4, [.ref q_1, .int 0, .int mo])), (q_1, .inl (cO, 10, .inr (.inr (.inr (.inr (fun _ => none))))))]) (va_A [(h0, .inr (4, [.ref d0, .int 0, .int mo]))] sz)) 1 10 (va_A [(h0, .inr (4, [.ref d0, .int 0, .int mo]))] sz) := by
  refine Met.ofW (cc := bA_grow0) (maxL := 1) (ret := (some (.array (.object "java/lang/Object")))) (by decide) rfl ?_
  intro p e s m args below meth c s₁ B hml hv
  obtain ⟨rfl, hAt, hsz, hP, hD0⟩ := hv
  have hx := B.exec
  have hb := B.bytes
  have hr := B.returns
  have hts := xb_hts E hAt ([.ref h0] : List Value).toArray
  have hown : s.vm.findClass "java/util/ArrayList" = some m.cls := findClass_of_methodNamed B.named
  have hlocks := B.notSynchronized
  have hK := xb_K E hAt
  subst hsz
  have hA0 := xb_A0 hAt hD0
  have hD := hD0.self (sz := s.heap.size)
  generalize hAe : va_A [(h0, .inr (4, [.ref d0, .int 0, .int mo]))] s.heap.size = A at hD hA0 ⊢
  have hA : ∀ q : Nat, s.heap.size ≤ q → A q := fun q h => by rw [← hAe]; exact Or.inr h
  have hS : va_S A s.heap s.heap [] := va_S.rf
  have hl := lv_entry ([.ref h0]) (n := 1) (Nat.le_of_ble_eq_true rfl)
  rw [lg_entry_eq]
  generalize (lg_sl ([.ref h0]) ++ List.replicate (1 - (lg_sl ([.ref h0])).length) Slot.unset).toArray = ls at hl ⊢
  have hl : lv_has ls 1 [(0, .ref h0)] := hl
  refine lv_aload_n hx hb dA_grow0_0 rfl (lv_at hl 0 rfl) ?_
  refine lv_aload_n hx hb dA_grow0_1 rfl (lv_at hl 0 rfl) ?_
  refine va_get (D := (dC, dI)) (ci := 4) (v := .int 0) (C := xR_A) (T := xF_A) (N := 3) hx hb hts xi_A hown hK hP 0 rfl rfl 1 (by decide) (hts _ xk_102) (fun _ h9 => h9) rfl dA_grow0_2 ?_
  refine lv_iconst (v := 1) hx hb dA_grow0_5 (by decide) ?_
  refine lv_iadd hx hb dA_grow0_6 ?_
  rw [show (0 : Int32) + 1 = 1 from by decide]
  refine xb_wr (wr := []) (va_runV (C := "java/util/ArrayList") (As := [.int 1]) (rest := []) ⟨hx, hb, hml, hown, hts⟩ (cA_grow1 l E _ h0 mo (hZ)) (cwV 1 hts (xb_gi (List.forall_mem_cons.mpr ⟨xk_552, List.forall_mem_cons.mpr ⟨xk_554, List.forall_mem_cons.mpr ⟨xk_25, List.forall_mem_cons.mpr ⟨xk_44, List.forall_mem_cons.mpr ⟨xk_555, fun _ h => absurd h List.not_mem_nil⟩⟩⟩⟩⟩)) rfl rfl rfl (by decide +kernel) ⟨Nat.le_of_ble_eq_true rfl, Nat.le_of_ble_eq_true rfl⟩) ⟨fun _ _ _ _ q => q, va_recv hK hP (ci := 4) (q0 := 0) rfl rfl, fun U hU hW => ⟨rfl, xb_atS hAt hS hA0 hU hW, by rw [hU], by rw [hU]; exact hP.sub (ws' := [(h0, .inr (4, [.ref d0, .int 0, .int mo]))]) [0] rfl, (hD.sub (ws' := [(h0, .inr (4, [.ref d0, .int 0, .int mo]))]) [0] (by decide) rfl).weaken (fun _ q _ h => hA0 q.1 h)⟩⟩ rfl rfl hl.1 rfl (lv_room (Nat.le_of_ble_eq_true rfl)) dA_grow0_7 ⟨Nat.le_of_ble_eq_true rfl, Nat.le_of_ble_eq_true rfl⟩) hP hD hS hA [0] [] rfl rfl (by decide) (by decide) ?_
  rintro _ _ H locs ⟨q_1, rfl, rfl⟩ hP hD hS
  have hP : va_P (dC, dI) classes [(h0, .inr (4, [.ref q_1, .int 0, .int mo])), (q_1, .inl (cO, 10, .inr (.inr (.inr (.inr (fun _ => none))))))] H := hP
  have hD : va_D A [(h0, .inr (4, [.ref q_1, .int 0, .int mo])), (q_1, .inl (cO, 10, .inr (.inr (.inr (.inr (fun _ => none))))))] := hD
  refine W.widen (k := 1) (n := 10) (by omega) (by omega) ?_
  have hP9 := hP.sub (ws' := [(h0, .inr (4, [.ref q_1, .int 0, .int mo])), (q_1, .inl (cO, 10, .inr (.inr (.inr (.inr (fun _ => none))))))]) [0, 1] rfl
  have hD9 := hD.sub (ws' := [(h0, .inr (4, [.ref q_1, .int 0, .int mo])), (q_1, .inl (cO, 10, .inr (.inr (.inr (.inr (fun _ => none))))))]) [0, 1] (by decide) rfl
  refine W.widen (k := 1) (n := 10) (by omega) (by omega) ?_
  exact W.aret (v := .ref q_1) hx hb hr (Or.inr ⟨_, rfl⟩) (Or.inr ⟨_, rfl⟩) (fun t ht hW => ⟨_, _, rfl, ⟨q_1, rfl, rfl⟩, by rw [ht]; exact hP9, hD9, hS.F ht⟩) hS.2.2 dA_grow0_10

set_option maxHeartbeats 4000000 in
set_option maxRecDepth 100000 in
theorem cA_addH_f (l : Launch) {s0 : State} {dC : Nat → ClassId} {dI : Nat → Nat → Nat} {cI cC cL cO : ClassId} (E : xb_Env l s0 dC dI (xtys cI cC cL cO)) {d0 : Nat} (sz : Nat) (h0 : Nat) (ev : Nat) (mo : Int32) (m0 : Int64) (m1 : Int64) (m2 : Int64) (m3 : Int64) (m4 : Int64) (hZ : xa_D s0 d0) : Met l yA_addH [.code yA_addH bA_addH 4 none] ({ frames := 3, cells := 1, slots := 10, locals := 57 }) (va_Pc [.ref h0, .ref ev, .ref d0, .int 0] (fun U => xb_At s0 U ∧ U.heap.size = sz ∧ va_P (dC, dI) classes [(h0, .inr (4, [.ref d0, .int 0, .int mo])), (ev, .inr (2, [.long m0, .long m1, .long m2, .long m3, .long m4]))] U.heap ∧ va_D (fun q => s0.heap.size ≤ q) [(h0, .inr (4, [.ref d0, .int 0, .int mo])), (ev, .inr (2, [.long m0, .long m1, .long m2, .long m3, .long m4]))])) (xb_W (dC, dI) (fun v9 w9 => ∃ q_1 : Nat, v9 = none ∧ w9 = [(h0, .inr (4, [.ref q_1, .int 1, .int mo])), (q_1, .inl (cO, 10, .inr (.inr (.inr (.inr (va_up (fun _ => none) (0 : Int32).toNatClampNeg (some ev))))))), (ev, .inr (2, [.long m0, .long m1, .long m2, .long m3, .long m4]))]) (va_A [(h0, .inr (4, [.ref d0, .int 0, .int mo])), (ev, .inr (2, [.long m0, .long m1, .long m2, .long m3, .long m4]))] sz)) 1 10 (va_A [(h0, .inr (4, [.ref d0, .int 0, .int mo])), (ev, .inr (2, [.long m0, .long m1, .long m2, .long m3, .long m4]))] sz) := by
  refine Met.ofW (cc := bA_addH) (maxL := 4) (ret := none) (by decide) rfl ?_
  intro p e s m args below meth c s₁ B hml hv
  obtain ⟨rfl, hAt, hsz, hP, hD0⟩ := hv
  have hx := B.exec
  have hb := B.bytes
  have hr := B.returns
  have hts := xb_hts E hAt ([.ref h0, .ref ev, .ref d0, .int 0] : List Value).toArray
  have hown : s.vm.findClass "java/util/ArrayList" = some m.cls := findClass_of_methodNamed B.named
  have hlocks := B.notSynchronized
  have hK := xb_K E hAt
  subst hsz
  have hA0 := xb_A0 hAt hD0
  have hD := hD0.self (sz := s.heap.size)
  generalize hAe : va_A [(h0, .inr (4, [.ref d0, .int 0, .int mo])), (ev, .inr (2, [.long m0, .long m1, .long m2, .long m3, .long m4]))] s.heap.size = A at hD hA0 ⊢
  have hA : ∀ q : Nat, s.heap.size ≤ q → A q := fun q h => by rw [← hAe]; exact Or.inr h
  have hS : va_S A s.heap s.heap [] := va_S.rf
  have hl := lv_entry ([.ref h0, .ref ev, .ref d0, .int 0]) (n := 4) (Nat.le_of_ble_eq_true rfl)
  rw [lg_entry_eq]
  generalize (lg_sl ([.ref h0, .ref ev, .ref d0, .int 0]) ++ List.replicate (4 - (lg_sl ([.ref h0, .ref ev, .ref d0, .int 0])).length) Slot.unset).toArray = ls at hl ⊢
  have hl : lv_has ls 4 [(0, .ref h0), (1, .ref ev), (2, .ref d0), (3, .int 0)] := hl
  refine lv_iload_n hx hb dA_addH_0 rfl (lv_at hl 3 rfl) ?_
  refine lv_aload_n hx hb dA_addH_1 rfl (lv_at hl 2 rfl) ?_
  refine va_tlen (A := A) (v := 0) hx hb (xa_T hZ hAt hA0) hS rfl dA_addH_2 ?_
  refine lv_icmp_ne (tgt := 11) hx hb dA_addH_3 (by decide) (fun c_1 => ?_) (fun c_1 => ?_)
  · exact absurd c_1 (by decide)
  · refine lv_aload_n hx hb dA_addH_6 rfl (lv_at hl 0 rfl) ?_
    refine xb_wr (wr := [(ev, .inr (2, [.long m0, .long m1, .long m2, .long m3, .long m4]))]) (va_runV (C := "java/util/ArrayList") (As := []) (rest := []) ⟨hx, hb, hml, hown, hts⟩ (cA_grow0 l E _ h0 mo (hZ)) (cwV 0 hts (xb_gi (List.forall_mem_cons.mpr ⟨xk_548, List.forall_mem_cons.mpr ⟨xk_550, List.forall_mem_cons.mpr ⟨xk_24, List.forall_mem_cons.mpr ⟨xk_44, List.forall_mem_cons.mpr ⟨xk_551, fun _ h => absurd h List.not_mem_nil⟩⟩⟩⟩⟩)) rfl rfl rfl (by decide +kernel) ⟨Nat.le_of_ble_eq_true rfl, Nat.le_of_ble_eq_true rfl⟩) ⟨fun _ _ _ _ q => q, va_recv hK hP (ci := 4) (q0 := 0) rfl rfl, fun U hU hW => ⟨rfl, xb_atS hAt hS hA0 hU hW, by rw [hU], by rw [hU]; exact hP.sub (ws' := [(h0, .inr (4, [.ref d0, .int 0, .int mo]))]) [0] rfl, (hD.sub (ws' := [(h0, .inr (4, [.ref d0, .int 0, .int mo]))]) [0] (by decide) rfl).weaken (fun _ q _ h => hA0 q.1 h)⟩⟩ rfl rfl hl.1 rfl (lv_room (Nat.le_of_ble_eq_true rfl)) dA_addH_7 ⟨Nat.le_of_ble_eq_true rfl, Nat.le_of_ble_eq_true rfl⟩) hP hD hS hA [0] [1] rfl rfl (by decide) (by decide) ?_
    rintro _ _ H locs ⟨q_1, rfl, rfl⟩ hP hD hS
    have hP : va_P (dC, dI) classes [(ev, .inr (2, [.long m0, .long m1, .long m2, .long m3, .long m4])), (h0, .inr (4, [.ref q_1, .int 0, .int mo])), (q_1, .inl (cO, 10, .inr (.inr (.inr (.inr (fun _ => none))))))] H := hP
    have hD : va_D A [(ev, .inr (2, [.long m0, .long m1, .long m2, .long m3, .long m4])), (h0, .inr (4, [.ref q_1, .int 0, .int mo])), (q_1, .inl (cO, 10, .inr (.inr (.inr (.inr (fun _ => none))))))] := hD
    refine W.widen (k := 1) (n := 10) (by omega) (by omega) ?_
    refine lv_astore_n (lv' := [(2, .ref q_1), (0, .ref h0), (1, .ref ev), (3, .int 0)]) hx hb dA_addH_10 rfl hl (by decide) rfl (fun ls hl => ?_)
    refine lv_aload_n hx hb dA_addH_11 rfl (lv_at hl 0 rfl) ?_
    refine lv_iload_n hx hb dA_addH_12 rfl (lv_at hl 3 rfl) ?_
    refine lv_aload_n hx hb dA_addH_13 rfl (lv_at hl 2 rfl) ?_
    have o_9 : vp_in (0 : Int32) 10 := by unfold vp_in; decide
    refine va_astqO hx hb hK hP hD hS 2 3 0 2 (E := "java/lang/Object") rfl rfl (xa_cst E hAt xk_859) rfl rfl o_9 dA_addH_14 (fun H locs hP hD hS => ?_)
    have hP : va_P (dC, dI) classes [(ev, .inr (2, [.long m0, .long m1, .long m2, .long m3, .long m4])), (h0, .inr (4, [.ref q_1, .int 0, .int mo])), (q_1, .inl (cO, 10, .inr (.inr (.inr (.inr (va_up (fun _ => none) (0 : Int32).toNatClampNeg (some ev)))))))] H := hP
    have hD : va_D A [(ev, .inr (2, [.long m0, .long m1, .long m2, .long m3, .long m4])), (h0, .inr (4, [.ref q_1, .int 0, .int mo])), (q_1, .inl (cO, 10, .inr (.inr (.inr (.inr (va_up (fun _ => none) (0 : Int32).toNatClampNeg (some ev)))))))] := hD
    refine lv_aload_n hx hb dA_addH_15 rfl (lv_at hl 1 rfl) ?_
    refine lv_iload_n hx hb dA_addH_16 rfl (lv_at hl 3 rfl) ?_
    refine lv_iconst (v := 1) hx hb dA_addH_17 (by decide) ?_
    refine lv_iadd hx hb dA_addH_18 ?_
    rw [show (0 : Int32) + 1 = 1 from by decide]
    refine va_put (D := (dC, dI)) (ci := 4) (v := .int 1) (ty := .int) (C := xR_A) (T := xF_A) (N := 3) hx hb hts xi_A xt_A xt_A_ok xn_A hown hK hP hD hS 1 rfl rfl 1 (by decide) (hts _ xk_102) (fun _ h9 => h9) rfl (by decide +kernel) rfl rfl (Nat.le_of_ble_eq_true rfl) dA_addH_19 (fun H locs hP hD hS => ?_)
    have hP : va_P (dC, dI) classes [(ev, .inr (2, [.long m0, .long m1, .long m2, .long m3, .long m4])), (h0, .inr (4, [.ref q_1, .int 1, .int mo])), (q_1, .inl (cO, 10, .inr (.inr (.inr (.inr (va_up (fun _ => none) (0 : Int32).toNatClampNeg (some ev)))))))] H := hP
    have hD : va_D A [(ev, .inr (2, [.long m0, .long m1, .long m2, .long m3, .long m4])), (h0, .inr (4, [.ref q_1, .int 1, .int mo])), (q_1, .inl (cO, 10, .inr (.inr (.inr (.inr (va_up (fun _ => none) (0 : Int32).toNatClampNeg (some ev)))))))] := hD
    have hP9 := hP.sub (ws' := [(h0, .inr (4, [.ref q_1, .int 1, .int mo])), (q_1, .inl (cO, 10, .inr (.inr (.inr (.inr (va_up (fun _ => none) (0 : Int32).toNatClampNeg (some ev))))))), (ev, .inr (2, [.long m0, .long m1, .long m2, .long m3, .long m4]))]) [1, 2, 0] rfl
    have hD9 := hD.sub (ws' := [(h0, .inr (4, [.ref q_1, .int 1, .int mo])), (q_1, .inl (cO, 10, .inr (.inr (.inr (.inr (va_up (fun _ => none) (0 : Int32).toNatClampNeg (some ev))))))), (ev, .inr (2, [.long m0, .long m1, .long m2, .long m3, .long m4]))]) [1, 2, 0] (by decide) rfl
    refine W.widen (k := 1) (n := 10) (by omega) (by omega) ?_
    exact W.vret hx hb hr (fun t ht hW => ⟨_, _, rfl, ⟨q_1, rfl, rfl⟩, by rw [ht]; exact hP9, hD9, hS.F ht⟩) hS.2.2 dA_addH_22

set_option maxHeartbeats 4000000 in
set_option maxRecDepth 100000 in
theorem cA_addH_m (l : Launch) {s0 : State} {dC : Nat → ClassId} {dI : Nat → Nat → Nat} {cI cC cL cO : ClassId} (E : xb_Env l s0 dC dI (xtys cI cC cL cO)) (sz : Nat) (h0 : Nat) (ed : Nat) (ev : Nat) (s9 : Int32) (mo : Int32) (ef : Nat → Option Nat) (m0 : Int64) (m1 : Int64) (m2 : Int64) (m3 : Int64) (m4 : Int64) (sn : Int32) (hs : vp_in sn 10) : Met l yA_addH [.code yA_addH bA_addH 4 none] ({ frames := 0, cells := 0, slots := 0, locals := 0 }) (va_Pc [.ref h0, .ref ev, .ref ed, .int sn] (fun U => xb_At s0 U ∧ U.heap.size = sz ∧ va_P (dC, dI) classes [(h0, .inr (4, [.ref ed, .int s9, .int mo])), (ed, .inl (cO, 10, .inr (.inr (.inr (.inr ef))))), (ev, .inr (2, [.long m0, .long m1, .long m2, .long m3, .long m4]))] U.heap ∧ va_D (fun q => s0.heap.size ≤ q) [(h0, .inr (4, [.ref ed, .int s9, .int mo])), (ed, .inl (cO, 10, .inr (.inr (.inr (.inr ef))))), (ev, .inr (2, [.long m0, .long m1, .long m2, .long m3, .long m4]))])) (xb_W (dC, dI) (fun v9 w9 => v9 = none ∧ w9 = [(h0, .inr (4, [.ref ed, .int (sn + 1), .int mo])), (ed, .inl (cO, 10, .inr (.inr (.inr (.inr (va_up ef sn.toNatClampNeg (some ev))))))), (ev, .inr (2, [.long m0, .long m1, .long m2, .long m3, .long m4]))]) (va_A [(h0, .inr (4, [.ref ed, .int s9, .int mo])), (ed, .inl (cO, 10, .inr (.inr (.inr (.inr ef))))), (ev, .inr (2, [.long m0, .long m1, .long m2, .long m3, .long m4]))] sz)) 0 0 (va_A [(h0, .inr (4, [.ref ed, .int s9, .int mo])), (ed, .inl (cO, 10, .inr (.inr (.inr (.inr ef))))), (ev, .inr (2, [.long m0, .long m1, .long m2, .long m3, .long m4]))] sz) := by
  refine Met.ofW (cc := bA_addH) (maxL := 4) (ret := none) (by decide) rfl ?_
  intro p e s m args below meth c s₁ B hml hv
  obtain ⟨rfl, hAt, hsz, hP, hD0⟩ := hv
  have hx := B.exec
  have hb := B.bytes
  have hr := B.returns
  have hts := xb_hts E hAt ([.ref h0, .ref ev, .ref ed, .int sn] : List Value).toArray
  have hown : s.vm.findClass "java/util/ArrayList" = some m.cls := findClass_of_methodNamed B.named
  have hlocks := B.notSynchronized
  have hK := xb_K E hAt
  subst hsz
  have hA0 := xb_A0 hAt hD0
  have hD := hD0.self (sz := s.heap.size)
  generalize hAe : va_A [(h0, .inr (4, [.ref ed, .int s9, .int mo])), (ed, .inl (cO, 10, .inr (.inr (.inr (.inr ef))))), (ev, .inr (2, [.long m0, .long m1, .long m2, .long m3, .long m4]))] s.heap.size = A at hD hA0 ⊢
  have hA : ∀ q : Nat, s.heap.size ≤ q → A q := fun q h => by rw [← hAe]; exact Or.inr h
  have hS : va_S A s.heap s.heap [] := va_S.rf
  have hl := lv_entry ([.ref h0, .ref ev, .ref ed, .int sn]) (n := 4) (Nat.le_of_ble_eq_true rfl)
  rw [lg_entry_eq]
  generalize (lg_sl ([.ref h0, .ref ev, .ref ed, .int sn]) ++ List.replicate (4 - (lg_sl ([.ref h0, .ref ev, .ref ed, .int sn])).length) Slot.unset).toArray = ls at hl ⊢
  have hl : lv_has ls 4 [(0, .ref h0), (1, .ref ev), (2, .ref ed), (3, .int sn)] := hl
  refine lv_iload_n hx hb dA_addH_0 rfl (lv_at hl 3 rfl) ?_
  refine lv_aload_n hx hb dA_addH_1 rfl (lv_at hl 2 rfl) ?_
  refine va_alen (v := 10) hx hb hK hP 1 3 rfl rfl rfl dA_addH_2 ?_
  refine lv_icmp_ne (tgt := 11) hx hb dA_addH_3 (by decide) (fun c_1 => ?_) (fun c_1 => ?_)
  · refine lv_aload_n hx hb dA_addH_11 rfl (lv_at hl 2 rfl) ?_
    refine lv_iload_n hx hb dA_addH_12 rfl (lv_at hl 3 rfl) ?_
    refine lv_aload_n hx hb dA_addH_13 rfl (lv_at hl 1 rfl) ?_
    have o_9 : vp_in sn 10 := by exact hs
    refine va_astqO hx hb hK hP hD hS 1 3 2 2 (E := "java/lang/Object") rfl rfl (xa_cst E hAt xk_859) rfl rfl o_9 dA_addH_14 (fun H locs hP hD hS => ?_)
    have hP : va_P (dC, dI) classes [(h0, .inr (4, [.ref ed, .int s9, .int mo])), (ed, .inl (cO, 10, .inr (.inr (.inr (.inr (va_up ef sn.toNatClampNeg (some ev))))))), (ev, .inr (2, [.long m0, .long m1, .long m2, .long m3, .long m4]))] H := hP
    have hD : va_D A [(h0, .inr (4, [.ref ed, .int s9, .int mo])), (ed, .inl (cO, 10, .inr (.inr (.inr (.inr (va_up ef sn.toNatClampNeg (some ev))))))), (ev, .inr (2, [.long m0, .long m1, .long m2, .long m3, .long m4]))] := hD
    refine lv_aload_n hx hb dA_addH_15 rfl (lv_at hl 0 rfl) ?_
    refine lv_iload_n hx hb dA_addH_16 rfl (lv_at hl 3 rfl) ?_
    refine lv_iconst (v := 1) hx hb dA_addH_17 (by decide) ?_
    refine lv_iadd hx hb dA_addH_18 ?_
    refine va_put (D := (dC, dI)) (ci := 4) (v := .int (sn + 1)) (ty := .int) (C := xR_A) (T := xF_A) (N := 3) hx hb hts xi_A xt_A xt_A_ok xn_A hown hK hP hD hS 0 rfl rfl 1 (by decide) (hts _ xk_102) (fun _ h9 => h9) rfl (by decide +kernel) rfl rfl (Nat.le_of_ble_eq_true rfl) dA_addH_19 (fun H locs hP hD hS => ?_)
    have hP : va_P (dC, dI) classes [(h0, .inr (4, [.ref ed, .int (sn + 1), .int mo])), (ed, .inl (cO, 10, .inr (.inr (.inr (.inr (va_up ef sn.toNatClampNeg (some ev))))))), (ev, .inr (2, [.long m0, .long m1, .long m2, .long m3, .long m4]))] H := hP
    have hD : va_D A [(h0, .inr (4, [.ref ed, .int (sn + 1), .int mo])), (ed, .inl (cO, 10, .inr (.inr (.inr (.inr (va_up ef sn.toNatClampNeg (some ev))))))), (ev, .inr (2, [.long m0, .long m1, .long m2, .long m3, .long m4]))] := hD
    have hP9 := hP.sub (ws' := [(h0, .inr (4, [.ref ed, .int (sn + 1), .int mo])), (ed, .inl (cO, 10, .inr (.inr (.inr (.inr (va_up ef sn.toNatClampNeg (some ev))))))), (ev, .inr (2, [.long m0, .long m1, .long m2, .long m3, .long m4]))]) [0, 1, 2] rfl
    have hD9 := hD.sub (ws' := [(h0, .inr (4, [.ref ed, .int (sn + 1), .int mo])), (ed, .inl (cO, 10, .inr (.inr (.inr (.inr (va_up ef sn.toNatClampNeg (some ev))))))), (ev, .inr (2, [.long m0, .long m1, .long m2, .long m3, .long m4]))]) [0, 1, 2] (by decide) rfl
    exact W.vret hx hb hr (fun t ht hW => ⟨_, _, rfl, ⟨rfl, rfl⟩, by rw [ht]; exact hP9, hD9, hS.F ht⟩) hS.2.2 dA_addH_22
  · exact xa_no10 hs (by assumption)

def gA_add_f  : Bool := true
set_option maxHeartbeats 4000000 in
set_option maxRecDepth 100000 in
theorem cA_add_f (l : Launch) {s0 : State} {dC : Nat → ClassId} {dI : Nat → Nat → Nat} {cI cC cL cO : ClassId} (E : xb_Env l s0 dC dI (xtys cI cC cL cO)) {d0 : Nat} (sz : Nat) (h0 : Nat) (ev : Nat) (mo : Int32) (m0 : Int64) (m1 : Int64) (m2 : Int64) (m3 : Int64) (m4 : Int64) (hZ : xa_D s0 d0) : Met l yA_add [.code yA_add bA_add 2 (some (.boolean))] ({ frames := 4, cells := 1, slots := 10, locals := 80 }) (va_Pc [.ref h0, .ref ev] (fun U => xb_At s0 U ∧ U.heap.size = sz ∧ va_P (dC, dI) classes [(h0, .inr (4, [.ref d0, .int 0, .int mo])), (ev, .inr (2, [.long m0, .long m1, .long m2, .long m3, .long m4]))] U.heap ∧ va_D (fun q => s0.heap.size ≤ q) [(h0, .inr (4, [.ref d0, .int 0, .int mo])), (ev, .inr (2, [.long m0, .long m1, .long m2, .long m3, .long m4]))])) (xb_W (dC, dI) (fun v9 w9 => ∃ q_1 : Nat, v9 = some (.int (xb_bi (gA_add_f ))) ∧ w9 = [(h0, .inr (4, [.ref q_1, .int 1, .int (mo + 1)])), (q_1, .inl (cO, 10, .inr (.inr (.inr (.inr (va_up (fun _ => none) (0 : Int32).toNatClampNeg (some ev))))))), (ev, .inr (2, [.long m0, .long m1, .long m2, .long m3, .long m4]))]) (va_A [(h0, .inr (4, [.ref d0, .int 0, .int mo])), (ev, .inr (2, [.long m0, .long m1, .long m2, .long m3, .long m4]))] sz)) 1 10 (va_A [(h0, .inr (4, [.ref d0, .int 0, .int mo])), (ev, .inr (2, [.long m0, .long m1, .long m2, .long m3, .long m4]))] sz) := by
  refine Met.ofW (cc := bA_add) (maxL := 2) (ret := (some (.boolean))) (by decide) rfl ?_
  intro p e s m args below meth c s₁ B hml hv
  obtain ⟨rfl, hAt, hsz, hP, hD0⟩ := hv
  have hx := B.exec
  have hb := B.bytes
  have hr := B.returns
  have hts := xb_hts E hAt ([.ref h0, .ref ev] : List Value).toArray
  have hown : s.vm.findClass "java/util/ArrayList" = some m.cls := findClass_of_methodNamed B.named
  have hlocks := B.notSynchronized
  have hK := xb_K E hAt
  subst hsz
  have hA0 := xb_A0 hAt hD0
  have hD := hD0.self (sz := s.heap.size)
  generalize hAe : va_A [(h0, .inr (4, [.ref d0, .int 0, .int mo])), (ev, .inr (2, [.long m0, .long m1, .long m2, .long m3, .long m4]))] s.heap.size = A at hD hA0 ⊢
  have hA : ∀ q : Nat, s.heap.size ≤ q → A q := fun q h => by rw [← hAe]; exact Or.inr h
  have hS : va_S A s.heap s.heap [] := va_S.rf
  have hl := lv_entry ([.ref h0, .ref ev]) (n := 2) (Nat.le_of_ble_eq_true rfl)
  rw [lg_entry_eq]
  generalize (lg_sl ([.ref h0, .ref ev]) ++ List.replicate (2 - (lg_sl ([.ref h0, .ref ev])).length) Slot.unset).toArray = ls at hl ⊢
  have hl : lv_has ls 2 [(0, .ref h0), (1, .ref ev)] := hl
  refine lv_aload_n hx hb dA_add_0 rfl (lv_at hl 0 rfl) ?_
  refine lv_dup hx hb dA_add_1 rfl ?_
  refine va_get (D := (dC, dI)) (ci := 4) (v := .int mo) (C := xR_A) (T := xF_A) (N := 3) hx hb hts xi_A hown hK hP 0 rfl rfl 2 (by decide) (hts _ xk_104) (u_same (hts _ xk_105)) rfl dA_add_2 ?_
  refine lv_iconst (v := 1) hx hb dA_add_5 (by decide) ?_
  refine lv_iadd hx hb dA_add_6 ?_
  refine va_put (D := (dC, dI)) (ci := 4) (v := .int (mo + 1)) (ty := .int) (C := xR_A) (T := xF_A) (N := 3) hx hb hts xi_A xt_A xt_A_ok xn_A hown hK hP hD hS 0 rfl rfl 2 (by decide) (hts _ xk_104) (u_same (hts _ xk_105)) rfl (by decide +kernel) rfl rfl (Nat.le_of_ble_eq_true rfl) dA_add_7 (fun H locs hP hD hS => ?_)
  have hP : va_P (dC, dI) classes [(h0, .inr (4, [.ref d0, .int 0, .int (mo + 1)])), (ev, .inr (2, [.long m0, .long m1, .long m2, .long m3, .long m4]))] H := hP
  have hD : va_D A [(h0, .inr (4, [.ref d0, .int 0, .int (mo + 1)])), (ev, .inr (2, [.long m0, .long m1, .long m2, .long m3, .long m4]))] := hD
  refine lv_aload_n hx hb dA_add_10 rfl (lv_at hl 0 rfl) ?_
  refine lv_aload_n hx hb dA_add_11 rfl (lv_at hl 1 rfl) ?_
  refine lv_aload_n hx hb dA_add_12 rfl (lv_at hl 0 rfl) ?_
  refine va_get (D := (dC, dI)) (ci := 4) (v := .ref d0) (C := xR_A) (T := xF_A) (N := 3) hx hb hts xi_A hown hK hP 0 rfl rfl 0 (by decide) (hts _ xk_101) (fun _ h9 => h9) rfl dA_add_13 ?_
  refine lv_aload_n hx hb dA_add_16 rfl (lv_at hl 0 rfl) ?_
  refine va_get (D := (dC, dI)) (ci := 4) (v := .int 0) (C := xR_A) (T := xF_A) (N := 3) hx hb hts xi_A hown hK hP 0 rfl rfl 1 (by decide) (hts _ xk_102) (fun _ h9 => h9) rfl dA_add_17 ?_
  refine xb_wr (wr := []) (va_runV (C := "java/util/ArrayList") (As := [.ref ev, .ref d0, .int 0]) (rest := []) ⟨hx, hb, hml, hown, hts⟩ (cA_addH_f l E _ h0 ev (mo + 1) m0 m1 m2 m3 m4 (hZ)) (cwV 3 hts (xb_gi (List.forall_mem_cons.mpr ⟨xk_544, List.forall_mem_cons.mpr ⟨xk_546, List.forall_mem_cons.mpr ⟨xk_23, List.forall_mem_cons.mpr ⟨xk_44, List.forall_mem_cons.mpr ⟨xk_547, fun _ h => absurd h List.not_mem_nil⟩⟩⟩⟩⟩)) rfl rfl rfl (by decide +kernel) ⟨Nat.le_of_ble_eq_true rfl, Nat.le_of_ble_eq_true rfl⟩) ⟨fun _ _ _ _ q => q, va_recv hK hP (ci := 4) (q0 := 0) rfl rfl, fun U hU hW => ⟨rfl, xb_atS hAt hS hA0 hU hW, by rw [hU], by rw [hU]; exact hP.sub (ws' := [(h0, .inr (4, [.ref d0, .int 0, .int (mo + 1)])), (ev, .inr (2, [.long m0, .long m1, .long m2, .long m3, .long m4]))]) [0, 1] rfl, (hD.sub (ws' := [(h0, .inr (4, [.ref d0, .int 0, .int (mo + 1)])), (ev, .inr (2, [.long m0, .long m1, .long m2, .long m3, .long m4]))]) [0, 1] (by decide) rfl).weaken (fun _ q _ h => hA0 q.1 h)⟩⟩ rfl rfl hl.1 rfl (lv_room (Nat.le_of_ble_eq_true rfl)) dA_add_20 ⟨Nat.le_of_ble_eq_true rfl, Nat.le_of_ble_eq_true rfl⟩) hP hD hS hA [0, 1] [] rfl rfl (by decide) (by decide) ?_
  rintro _ _ H locs ⟨q_1, rfl, rfl⟩ hP hD hS
  have hP : va_P (dC, dI) classes [(h0, .inr (4, [.ref q_1, .int 1, .int (mo + 1)])), (q_1, .inl (cO, 10, .inr (.inr (.inr (.inr (va_up (fun _ => none) (0 : Int32).toNatClampNeg (some ev))))))), (ev, .inr (2, [.long m0, .long m1, .long m2, .long m3, .long m4]))] H := hP
  have hD : va_D A [(h0, .inr (4, [.ref q_1, .int 1, .int (mo + 1)])), (q_1, .inl (cO, 10, .inr (.inr (.inr (.inr (va_up (fun _ => none) (0 : Int32).toNatClampNeg (some ev))))))), (ev, .inr (2, [.long m0, .long m1, .long m2, .long m3, .long m4]))] := hD
  refine W.widen (k := 1) (n := 10) (by omega) (by omega) ?_
  refine lv_iconst (v := 1) hx hb dA_add_23 (by decide) ?_
  have e_0 : gA_add_f  = true := rfl
  have hP9 := hP.sub (ws' := [(h0, .inr (4, [.ref q_1, .int 1, .int (mo + 1)])), (q_1, .inl (cO, 10, .inr (.inr (.inr (.inr (va_up (fun _ => none) (0 : Int32).toNatClampNeg (some ev))))))), (ev, .inr (2, [.long m0, .long m1, .long m2, .long m3, .long m4]))]) [0, 1, 2] rfl
  have hD9 := hD.sub (ws' := [(h0, .inr (4, [.ref q_1, .int 1, .int (mo + 1)])), (q_1, .inl (cO, 10, .inr (.inr (.inr (.inr (va_up (fun _ => none) (0 : Int32).toNatClampNeg (some ev))))))), (ev, .inr (2, [.long m0, .long m1, .long m2, .long m3, .long m4]))]) [0, 1, 2] (by decide) rfl
  refine W.widen (k := 1) (n := 10) (by omega) (by omega) ?_
  exact W.zret (v := 1) hx hb hr (by decide) (fun t ht hW => ⟨_, _, rfl, ⟨q_1, by first | rfl | (simp only [e_0]; try rfl), by first | rfl | (simp only [e_0]; try rfl)⟩, by rw [ht]; exact hP9, hD9, hS.F ht⟩) hS.2.2 dA_add_24

def gA_add_m  : Bool := true
set_option maxHeartbeats 4000000 in
set_option maxRecDepth 100000 in
theorem cA_add_m (l : Launch) {s0 : State} {dC : Nat → ClassId} {dI : Nat → Nat → Nat} {cI cC cL cO : ClassId} (E : xb_Env l s0 dC dI (xtys cI cC cL cO)) (sz : Nat) (h0 : Nat) (ed : Nat) (ev : Nat) (sn : Int32) (mo : Int32) (ef : Nat → Option Nat) (m0 : Int64) (m1 : Int64) (m2 : Int64) (m3 : Int64) (m4 : Int64) (hs : vp_in sn 10) : Met l yA_add [.code yA_add bA_add 2 (some (.boolean))] ({ frames := 1, cells := 0, slots := 0, locals := 23 }) (va_Pc [.ref h0, .ref ev] (fun U => xb_At s0 U ∧ U.heap.size = sz ∧ va_P (dC, dI) classes [(h0, .inr (4, [.ref ed, .int sn, .int mo])), (ed, .inl (cO, 10, .inr (.inr (.inr (.inr ef))))), (ev, .inr (2, [.long m0, .long m1, .long m2, .long m3, .long m4]))] U.heap ∧ va_D (fun q => s0.heap.size ≤ q) [(h0, .inr (4, [.ref ed, .int sn, .int mo])), (ed, .inl (cO, 10, .inr (.inr (.inr (.inr ef))))), (ev, .inr (2, [.long m0, .long m1, .long m2, .long m3, .long m4]))])) (xb_W (dC, dI) (fun v9 w9 => v9 = some (.int (xb_bi (gA_add_m ))) ∧ w9 = [(h0, .inr (4, [.ref ed, .int (sn + 1), .int (mo + 1)])), (ed, .inl (cO, 10, .inr (.inr (.inr (.inr (va_up ef sn.toNatClampNeg (some ev))))))), (ev, .inr (2, [.long m0, .long m1, .long m2, .long m3, .long m4]))]) (va_A [(h0, .inr (4, [.ref ed, .int sn, .int mo])), (ed, .inl (cO, 10, .inr (.inr (.inr (.inr ef))))), (ev, .inr (2, [.long m0, .long m1, .long m2, .long m3, .long m4]))] sz)) 0 0 (va_A [(h0, .inr (4, [.ref ed, .int sn, .int mo])), (ed, .inl (cO, 10, .inr (.inr (.inr (.inr ef))))), (ev, .inr (2, [.long m0, .long m1, .long m2, .long m3, .long m4]))] sz) := by
  refine Met.ofW (cc := bA_add) (maxL := 2) (ret := (some (.boolean))) (by decide) rfl ?_
  intro p e s m args below meth c s₁ B hml hv
  obtain ⟨rfl, hAt, hsz, hP, hD0⟩ := hv
  have hx := B.exec
  have hb := B.bytes
  have hr := B.returns
  have hts := xb_hts E hAt ([.ref h0, .ref ev] : List Value).toArray
  have hown : s.vm.findClass "java/util/ArrayList" = some m.cls := findClass_of_methodNamed B.named
  have hlocks := B.notSynchronized
  have hK := xb_K E hAt
  subst hsz
  have hA0 := xb_A0 hAt hD0
  have hD := hD0.self (sz := s.heap.size)
  generalize hAe : va_A [(h0, .inr (4, [.ref ed, .int sn, .int mo])), (ed, .inl (cO, 10, .inr (.inr (.inr (.inr ef))))), (ev, .inr (2, [.long m0, .long m1, .long m2, .long m3, .long m4]))] s.heap.size = A at hD hA0 ⊢
  have hA : ∀ q : Nat, s.heap.size ≤ q → A q := fun q h => by rw [← hAe]; exact Or.inr h
  have hS : va_S A s.heap s.heap [] := va_S.rf
  have hl := lv_entry ([.ref h0, .ref ev]) (n := 2) (Nat.le_of_ble_eq_true rfl)
  rw [lg_entry_eq]
  generalize (lg_sl ([.ref h0, .ref ev]) ++ List.replicate (2 - (lg_sl ([.ref h0, .ref ev])).length) Slot.unset).toArray = ls at hl ⊢
  have hl : lv_has ls 2 [(0, .ref h0), (1, .ref ev)] := hl
  refine lv_aload_n hx hb dA_add_0 rfl (lv_at hl 0 rfl) ?_
  refine lv_dup hx hb dA_add_1 rfl ?_
  refine va_get (D := (dC, dI)) (ci := 4) (v := .int mo) (C := xR_A) (T := xF_A) (N := 3) hx hb hts xi_A hown hK hP 0 rfl rfl 2 (by decide) (hts _ xk_104) (u_same (hts _ xk_105)) rfl dA_add_2 ?_
  refine lv_iconst (v := 1) hx hb dA_add_5 (by decide) ?_
  refine lv_iadd hx hb dA_add_6 ?_
  refine va_put (D := (dC, dI)) (ci := 4) (v := .int (mo + 1)) (ty := .int) (C := xR_A) (T := xF_A) (N := 3) hx hb hts xi_A xt_A xt_A_ok xn_A hown hK hP hD hS 0 rfl rfl 2 (by decide) (hts _ xk_104) (u_same (hts _ xk_105)) rfl (by decide +kernel) rfl rfl (Nat.le_of_ble_eq_true rfl) dA_add_7 (fun H locs hP hD hS => ?_)
  have hP : va_P (dC, dI) classes [(h0, .inr (4, [.ref ed, .int sn, .int (mo + 1)])), (ed, .inl (cO, 10, .inr (.inr (.inr (.inr ef))))), (ev, .inr (2, [.long m0, .long m1, .long m2, .long m3, .long m4]))] H := hP
  have hD : va_D A [(h0, .inr (4, [.ref ed, .int sn, .int (mo + 1)])), (ed, .inl (cO, 10, .inr (.inr (.inr (.inr ef))))), (ev, .inr (2, [.long m0, .long m1, .long m2, .long m3, .long m4]))] := hD
  refine lv_aload_n hx hb dA_add_10 rfl (lv_at hl 0 rfl) ?_
  refine lv_aload_n hx hb dA_add_11 rfl (lv_at hl 1 rfl) ?_
  refine lv_aload_n hx hb dA_add_12 rfl (lv_at hl 0 rfl) ?_
  refine va_get (D := (dC, dI)) (ci := 4) (v := .ref ed) (C := xR_A) (T := xF_A) (N := 3) hx hb hts xi_A hown hK hP 0 rfl rfl 0 (by decide) (hts _ xk_101) (fun _ h9 => h9) rfl dA_add_13 ?_
  refine lv_aload_n hx hb dA_add_16 rfl (lv_at hl 0 rfl) ?_
  refine va_get (D := (dC, dI)) (ci := 4) (v := .int sn) (C := xR_A) (T := xF_A) (N := 3) hx hb hts xi_A hown hK hP 0 rfl rfl 1 (by decide) (hts _ xk_102) (fun _ h9 => h9) rfl dA_add_17 ?_
  refine xb_wr (wr := []) (va_runV (C := "java/util/ArrayList") (As := [.ref ev, .ref ed, .int sn]) (rest := []) ⟨hx, hb, hml, hown, hts⟩ (cA_addH_m l E _ h0 ed ev sn (mo + 1) ef m0 m1 m2 m3 m4 sn (hs)) (cwV 3 hts (xb_gi (List.forall_mem_cons.mpr ⟨xk_544, List.forall_mem_cons.mpr ⟨xk_546, List.forall_mem_cons.mpr ⟨xk_23, List.forall_mem_cons.mpr ⟨xk_44, List.forall_mem_cons.mpr ⟨xk_547, fun _ h => absurd h List.not_mem_nil⟩⟩⟩⟩⟩)) rfl rfl rfl (by decide +kernel) ⟨Nat.le_of_ble_eq_true rfl, Nat.le_of_ble_eq_true rfl⟩) ⟨fun _ _ _ _ q => q, va_recv hK hP (ci := 4) (q0 := 0) rfl rfl, fun U hU hW => ⟨rfl, xb_atS hAt hS hA0 hU hW, by rw [hU], by rw [hU]; exact hP.sub (ws' := [(h0, .inr (4, [.ref ed, .int sn, .int (mo + 1)])), (ed, .inl (cO, 10, .inr (.inr (.inr (.inr ef))))), (ev, .inr (2, [.long m0, .long m1, .long m2, .long m3, .long m4]))]) [0, 1, 2] rfl, (hD.sub (ws' := [(h0, .inr (4, [.ref ed, .int sn, .int (mo + 1)])), (ed, .inl (cO, 10, .inr (.inr (.inr (.inr ef))))), (ev, .inr (2, [.long m0, .long m1, .long m2, .long m3, .long m4]))]) [0, 1, 2] (by decide) rfl).weaken (fun _ q _ h => hA0 q.1 h)⟩⟩ rfl rfl hl.1 rfl (lv_room (Nat.le_of_ble_eq_true rfl)) dA_add_20 ⟨Nat.le_of_ble_eq_true rfl, Nat.le_of_ble_eq_true rfl⟩) hP hD hS hA [0, 1, 2] [] rfl rfl (by decide) (by decide) ?_
  rintro _ _ H locs ⟨rfl, rfl⟩ hP hD hS
  have hP : va_P (dC, dI) classes [(h0, .inr (4, [.ref ed, .int (sn + 1), .int (mo + 1)])), (ed, .inl (cO, 10, .inr (.inr (.inr (.inr (va_up ef sn.toNatClampNeg (some ev))))))), (ev, .inr (2, [.long m0, .long m1, .long m2, .long m3, .long m4]))] H := hP
  have hD : va_D A [(h0, .inr (4, [.ref ed, .int (sn + 1), .int (mo + 1)])), (ed, .inl (cO, 10, .inr (.inr (.inr (.inr (va_up ef sn.toNatClampNeg (some ev))))))), (ev, .inr (2, [.long m0, .long m1, .long m2, .long m3, .long m4]))] := hD
  refine lv_iconst (v := 1) hx hb dA_add_23 (by decide) ?_
  have e_0 : gA_add_m  = true := rfl
  have hP9 := hP.sub (ws' := [(h0, .inr (4, [.ref ed, .int (sn + 1), .int (mo + 1)])), (ed, .inl (cO, 10, .inr (.inr (.inr (.inr (va_up ef sn.toNatClampNeg (some ev))))))), (ev, .inr (2, [.long m0, .long m1, .long m2, .long m3, .long m4]))]) [0, 1, 2] rfl
  have hD9 := hD.sub (ws' := [(h0, .inr (4, [.ref ed, .int (sn + 1), .int (mo + 1)])), (ed, .inl (cO, 10, .inr (.inr (.inr (.inr (va_up ef sn.toNatClampNeg (some ev))))))), (ev, .inr (2, [.long m0, .long m1, .long m2, .long m3, .long m4]))]) [0, 1, 2] (by decide) rfl
  exact W.zret (v := 1) hx hb hr (by decide) (fun t ht hW => ⟨_, _, rfl, ⟨by first | rfl | (simp only [e_0]; try rfl), by first | rfl | (simp only [e_0]; try rfl)⟩, by rw [ht]; exact hP9, hD9, hS.F ht⟩) hS.2.2 dA_add_24
