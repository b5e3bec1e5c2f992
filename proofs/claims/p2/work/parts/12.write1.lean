theorem xp_app {len : Int32} (h0 : 0 ≤ len) (h1 : ¬ 200 ≤ len) : vp_in len 200 := by
  rw [vp_in_iff]
  simp only [Int32.le_iff_toInt_le] at h0 h1
  have e0 : (0 : Int32).toInt = 0 := by decide
  have e2 : (200 : Int32).toInt = 200 := by decide
  omega
def gT_empty_1  : Int32 := (0)
set_option maxHeartbeats 4000000 in
set_option maxRecDepth 100000 in
theorem cT_empty (l : Launch) {s0 : State} {dC : Nat → ClassId} {dI : Nat → Nat → Nat} {cI cC cL : ClassId} (E : xb_Env l s0 dC dI (xtys cI cC cL)) (sz : Nat) (h0 : Nat) (ua : Nat) (len : Int32) (nx : Int32) : Met l yT_empty [.code yT_empty bT_empty 1 none] ({ frames := 0, cells := 0, slots := 0, locals := 0 }) (va_Pc [.ref h0] (fun U => xb_At s0 U ∧ U.heap.size = sz ∧ va_P (dC, dI) classes [(h0, .inr (1, [.ref ua, .int len, .int nx]))] U.heap ∧ va_D (fun q => s0.heap.size ≤ q) [(h0, .inr (1, [.ref ua, .int len, .int nx]))])) (xb_W (dC, dI) (fun v w => v = none ∧ w = [(h0, .inr (1, [.ref ua, .int (gT_empty_1 ), .int nx]))]) (va_A [(h0, .inr (1, [.ref ua, .int len, .int nx]))] sz)) 0 0 (va_A [(h0, .inr (1, [.ref ua, .int len, .int nx]))] sz) := by
  refine Met.ofW (cc := bT_empty) (maxL := 1) (ret := none) (by decide) rfl ?_
  intro p e s m args below meth c s₁ B hml hv
  obtain ⟨rfl, hAt, hsz, hP, hD0⟩ := hv
  have hx := B.exec
  have hb := B.bytes
  have hr := B.returns
  have hts := xb_hts E hAt ([.ref h0] : List Value).toArray
  have hown : s.vm.findClass "NailRules$Text" = some m.cls := findClass_of_methodNamed B.named
  have hlocks := B.notSynchronized
  have hK := xb_K E hAt
  subst hsz
  have hA0 := xb_A0 hAt hD0
  have hD := hD0.self (sz := s.heap.size)
  generalize hAe : va_A [(h0, .inr (1, [.ref ua, .int len, .int nx]))] s.heap.size = A at hD hA0 ⊢
  have hA : ∀ q : Nat, s.heap.size ≤ q → A q := fun q h => by rw [← hAe]; exact Or.inr h
  have hS : va_S A s.heap s.heap [] := va_S.rf
  have hl := lv_entry ([.ref h0]) (n := 1) (Nat.le_of_ble_eq_true rfl)
  rw [lg_entry_eq]
  generalize (lg_sl ([.ref h0]) ++ List.replicate (1 - (lg_sl ([.ref h0])).length) Slot.unset).toArray = ls at hl ⊢
  have hl : lv_has ls 1 [(0, .ref h0)] := hl
  refine lv_aload_n hx hb dT_empty_0 rfl (lv_at hl 0 rfl) ?_
  refine lv_iconst (v := 0) hx hb dT_empty_1 (by decide) ?_
  refine va_put (D := (dC, dI)) (ci := 1) (v := .int 0) (ty := .int) (C := xR_T) (T := xF_T) (N := 3) hx hb hts xi_T xt_T xt_T_ok xn_T hown hK hP hD hS 0 rfl rfl 1 (by decide) (hts _ xk_77) (fun _ h9 => h9) rfl (by decide +kernel) rfl rfl (Nat.le_of_ble_eq_true rfl) dT_empty_2 (fun H locs hP hD hS => ?_)
  have hP : va_P (dC, dI) classes [(h0, .inr (1, [.ref ua, .int 0, .int nx]))] H := hP
  have hD : va_D A [(h0, .inr (1, [.ref ua, .int 0, .int nx]))] := hD
  have e_0 : gT_empty_1  = (0 : Int32) := rfl
  have hP9 := hP.sub (ws' := [(h0, .inr (1, [.ref ua, .int 0, .int nx]))]) [0] rfl
  have hD9 := hD.sub (ws' := [(h0, .inr (1, [.ref ua, .int 0, .int nx]))]) [0] (by decide) rfl
  exact W.vret hx hb hr (fun t ht hW => ⟨_, _, rfl, ⟨by first | rfl | (simp only [e_0]; try rfl), by first | rfl | (simp only [e_0]; try rfl)⟩, by rw [ht]; exact hP9, hD9, hS.F ht⟩) hS.2.2 dT_empty_5

def gT_rewind_2  : Int32 := (0)
set_option maxHeartbeats 4000000 in
set_option maxRecDepth 100000 in
theorem cT_rewind (l : Launch) {s0 : State} {dC : Nat → ClassId} {dI : Nat → Nat → Nat} {cI cC cL : ClassId} (E : xb_Env l s0 dC dI (xtys cI cC cL)) (sz : Nat) (h0 : Nat) (ua : Nat) (len : Int32) (nx : Int32) : Met l yT_rewind [.code yT_rewind bT_rewind 1 none] ({ frames := 0, cells := 0, slots := 0, locals := 0 }) (va_Pc [.ref h0] (fun U => xb_At s0 U ∧ U.heap.size = sz ∧ va_P (dC, dI) classes [(h0, .inr (1, [.ref ua, .int len, .int nx]))] U.heap ∧ va_D (fun q => s0.heap.size ≤ q) [(h0, .inr (1, [.ref ua, .int len, .int nx]))])) (xb_W (dC, dI) (fun v w => v = none ∧ w = [(h0, .inr (1, [.ref ua, .int len, .int (gT_rewind_2 )]))]) (va_A [(h0, .inr (1, [.ref ua, .int len, .int nx]))] sz)) 0 0 (va_A [(h0, .inr (1, [.ref ua, .int len, .int nx]))] sz) := by
  refine Met.ofW (cc := bT_rewind) (maxL := 1) (ret := none) (by decide) rfl ?_
  intro p e s m args below meth c s₁ B hml hv
  obtain ⟨rfl, hAt, hsz, hP, hD0⟩ := hv
  have hx := B.exec
  have hb := B.bytes
  have hr := B.returns
  have hts := xb_hts E hAt ([.ref h0] : List Value).toArray
  have hown : s.vm.findClass "NailRules$Text" = some m.cls := findClass_of_methodNamed B.named
  have hlocks := B.notSynchronized
  have hK := xb_K E hAt
  subst hsz
  have hA0 := xb_A0 hAt hD0
  have hD := hD0.self (sz := s.heap.size)
  generalize hAe : va_A [(h0, .inr (1, [.ref ua, .int len, .int nx]))] s.heap.size = A at hD hA0 ⊢
  have hA : ∀ q : Nat, s.heap.size ≤ q → A q := fun q h => by rw [← hAe]; exact Or.inr h
  have hS : va_S A s.heap s.heap [] := va_S.rf
  have hl := lv_entry ([.ref h0]) (n := 1) (Nat.le_of_ble_eq_true rfl)
  rw [lg_entry_eq]
  generalize (lg_sl ([.ref h0]) ++ List.replicate (1 - (lg_sl ([.ref h0])).length) Slot.unset).toArray = ls at hl ⊢
  have hl : lv_has ls 1 [(0, .ref h0)] := hl
  refine lv_aload_n hx hb dT_rewind_0 rfl (lv_at hl 0 rfl) ?_
  refine lv_iconst (v := 0) hx hb dT_rewind_1 (by decide) ?_
  refine va_put (D := (dC, dI)) (ci := 1) (v := .int 0) (ty := .int) (C := xR_T) (T := xF_T) (N := 3) hx hb hts xi_T xt_T xt_T_ok xn_T hown hK hP hD hS 0 rfl rfl 2 (by decide) (hts _ xk_78) (fun _ h9 => h9) rfl (by decide +kernel) rfl rfl (Nat.le_of_ble_eq_true rfl) dT_rewind_2 (fun H locs hP hD hS => ?_)
  have hP : va_P (dC, dI) classes [(h0, .inr (1, [.ref ua, .int len, .int 0]))] H := hP
  have hD : va_D A [(h0, .inr (1, [.ref ua, .int len, .int 0]))] := hD
  have e_0 : gT_rewind_2  = (0 : Int32) := rfl
  have hP9 := hP.sub (ws' := [(h0, .inr (1, [.ref ua, .int len, .int 0]))]) [0] rfl
  have hD9 := hD.sub (ws' := [(h0, .inr (1, [.ref ua, .int len, .int 0]))]) [0] (by decide) rfl
  exact W.vret hx hb hr (fun t ht hW => ⟨_, _, rfl, ⟨by first | rfl | (simp only [e_0]; try rfl), by first | rfl | (simp only [e_0]; try rfl)⟩, by rw [ht]; exact hP9, hD9, hS.F ht⟩) hS.2.2 dT_rewind_5

def gT_append (uf : Nat → Int32) (len : Int32) (nx : Int32) (u : Int32) : Bool := if 200 ≤ len then (false) else (if u < 32 then (false) else (if u ≤ 126 then (true) else (false)))
def gT_append_1 (uf : Nat → Int32) (len : Int32) (nx : Int32) (u : Int32) : Int32 := if 200 ≤ len then (len) else (if u < 32 then (len) else (if u ≤ 126 then (len + 1) else (len)))
def gT_append_f (uf : Nat → Int32) (len : Int32) (nx : Int32) (u : Int32) : Nat → Int32 := if 200 ≤ len then (uf) else (if u < 32 then (uf) else (if u ≤ 126 then (upd uf len.toNatClampNeg (vp_nar .char ((u.toUInt32 % 65536).toInt32))) else (uf)))
set_option maxHeartbeats 4000000 in
set_option maxRecDepth 100000 in
theorem cT_append (l : Launch) {s0 : State} {dC : Nat → ClassId} {dI : Nat → Nat → Nat} {cI cC cL : ClassId} (E : xb_Env l s0 dC dI (xtys cI cC cL)) (sz : Nat) (h0 : Nat) (ua : Nat) (len : Int32) (nx : Int32) (uf : Nat → Int32) (u : Int32) (hlen : 0 ≤ len) : Met l yT_append [.code yT_append bT_append 2 (some (.boolean))] ({ frames := 0, cells := 0, slots := 0, locals := 0 }) (va_Pc [.ref h0, .int u] (fun U => xb_At s0 U ∧ U.heap.size = sz ∧ va_P (dC, dI) classes [(h0, .inr (1, [.ref ua, .int len, .int nx])), (ua, .inl (cC, 200, .inl uf))] U.heap ∧ va_D (fun q => s0.heap.size ≤ q) [(h0, .inr (1, [.ref ua, .int len, .int nx])), (ua, .inl (cC, 200, .inl uf))])) (xb_W (dC, dI) (fun v w => v = some (.int (xb_bi (gT_append uf len nx u))) ∧ w = [(h0, .inr (1, [.ref ua, .int (gT_append_1 uf len nx u), .int nx])), (ua, .inl (cC, 200, .inl (gT_append_f uf len nx u)))]) (va_A [(h0, .inr (1, [.ref ua, .int len, .int nx])), (ua, .inl (cC, 200, .inl uf))] sz)) 0 0 (va_A [(h0, .inr (1, [.ref ua, .int len, .int nx])), (ua, .inl (cC, 200, .inl uf))] sz) := by
  refine Met.ofW (cc := bT_append) (maxL := 2) (ret := (some (.boolean))) (by decide) rfl ?_
  intro p e s m args below meth c s₁ B hml hv
  obtain ⟨rfl, hAt, hsz, hP, hD0⟩ := hv
  have hx := B.exec
  have hb := B.bytes
  have hr := B.returns
  have hts := xb_hts E hAt ([.ref h0, .int u] : List Value).toArray
  have hown : s.vm.findClass "NailRules$Text" = some m.cls := findClass_of_methodNamed B.named
  have hlocks := B.notSynchronized
  have hK := xb_K E hAt
  subst hsz
  have hA0 := xb_A0 hAt hD0
  have hD := hD0.self (sz := s.heap.size)
  generalize hAe : va_A [(h0, .inr (1, [.ref ua, .int len, .int nx])), (ua, .inl (cC, 200, .inl uf))] s.heap.size = A at hD hA0 ⊢
  have hA : ∀ q : Nat, s.heap.size ≤ q → A q := fun q h => by rw [← hAe]; exact Or.inr h
  have hS : va_S A s.heap s.heap [] := va_S.rf
  have hl := lv_entry ([.ref h0, .int u]) (n := 2) (Nat.le_of_ble_eq_true rfl)
  rw [lg_entry_eq]
  generalize (lg_sl ([.ref h0, .int u]) ++ List.replicate (2 - (lg_sl ([.ref h0, .int u])).length) Slot.unset).toArray = ls at hl ⊢
  have hl : lv_has ls 2 [(0, .ref h0), (1, .int u)] := hl
  refine lv_aload_n hx hb dT_append_0 rfl (lv_at hl 0 rfl) ?_
  refine va_get (D := (dC, dI)) (ci := 1) (v := .int len) (C := xR_T) (T := xF_T) (N := 3) hx hb hts xi_T hown hK hP 0 rfl rfl 1 (by decide) (hts _ xk_77) (fun _ h9 => h9) rfl dT_append_1 ?_
  refine lv_sipush (v := 200) hx hb dT_append_4 (by decide) ?_
  refine lv_icmp_ge (tgt := 22) hx hb dT_append_7 (by decide) (fun c_1 => ?_) (fun c_1 => ?_)
  · refine lv_iconst (v := 0) hx hb dT_append_22 (by decide) ?_
    have e_0 : gT_append uf len nx u = false := (if_pos c_1).trans (rfl)
    have e_1 : gT_append_1 uf len nx u = len := (if_pos c_1).trans (rfl)
    have e_2 : gT_append_f uf len nx u = uf := (if_pos c_1).trans (rfl)
    have hP9 := hP.sub (ws' := [(h0, .inr (1, [.ref ua, .int len, .int nx])), (ua, .inl (cC, 200, .inl uf))]) [0, 1] rfl
    have hD9 := hD.sub (ws' := [(h0, .inr (1, [.ref ua, .int len, .int nx])), (ua, .inl (cC, 200, .inl uf))]) [0, 1] (by decide) rfl
    exact W.zret (v := 0) hx hb hr (by decide) (fun t ht hW => ⟨_, _, rfl, ⟨by first | rfl | (simp only [e_0, e_1, e_2]; try rfl), by first | rfl | (simp only [e_0, e_1, e_2]; try rfl)⟩, by rw [ht]; exact hP9, hD9, hS.F ht⟩) hS.2.2 dT_append_23
  · refine lv_iload_n hx hb dT_append_10 rfl (lv_at hl 1 rfl) ?_
    refine lv_bipush (v := 32) hx hb dT_append_11 (by decide) ?_
    refine lv_icmp_lt (tgt := 22) hx hb dT_append_13 (by decide) (fun c_2 => ?_) (fun c_2 => ?_)
    · refine lv_iconst (v := 0) hx hb dT_append_22 (by decide) ?_
      have e_0 : gT_append uf len nx u = false := (if_neg c_1).trans ((if_pos c_2).trans (rfl))
      have e_1 : gT_append_1 uf len nx u = len := (if_neg c_1).trans ((if_pos c_2).trans (rfl))
      have e_2 : gT_append_f uf len nx u = uf := (if_neg c_1).trans ((if_pos c_2).trans (rfl))
      have hP9 := hP.sub (ws' := [(h0, .inr (1, [.ref ua, .int len, .int nx])), (ua, .inl (cC, 200, .inl uf))]) [0, 1] rfl
      have hD9 := hD.sub (ws' := [(h0, .inr (1, [.ref ua, .int len, .int nx])), (ua, .inl (cC, 200, .inl uf))]) [0, 1] (by decide) rfl
      exact W.zret (v := 0) hx hb hr (by decide) (fun t ht hW => ⟨_, _, rfl, ⟨by first | rfl | (simp only [e_0, e_1, e_2]; try rfl), by first | rfl | (simp only [e_0, e_1, e_2]; try rfl)⟩, by rw [ht]; exact hP9, hD9, hS.F ht⟩) hS.2.2 dT_append_23
    · refine lv_iload_n hx hb dT_append_16 rfl (lv_at hl 1 rfl) ?_
      refine lv_bipush (v := 126) hx hb dT_append_17 (by decide) ?_
      refine lv_icmp_le (tgt := 24) hx hb dT_append_19 (by decide) (fun c_3 => ?_) (fun c_3 => ?_)
      · refine lv_aload_n hx hb dT_append_24 rfl (lv_at hl 0 rfl) ?_
        refine va_get (D := (dC, dI)) (ci := 1) (v := .ref ua) (C := xR_T) (T := xF_T) (N := 3) hx hb hts xi_T hown hK hP 0 rfl rfl 0 (by decide) (hts _ xk_76) (fun _ h9 => h9) rfl dT_append_25 ?_
        refine lv_aload_n hx hb dT_append_28 rfl (lv_at hl 0 rfl) ?_
        refine va_get (D := (dC, dI)) (ci := 1) (v := .int len) (C := xR_T) (T := xF_T) (N := 3) hx hb hts xi_T hown hK hP 0 rfl rfl 1 (by decide) (hts _ xk_77) (fun _ h9 => h9) rfl dT_append_29 ?_
        refine lv_iload_n hx hb dT_append_32 rfl (lv_at hl 1 rfl) ?_
        refine lv_i2c hx hb dT_append_33 rfl ?_
        have o_4 : vp_in len 200 := by exact xp_app hlen (by assumption)
        refine va_cast hx hb hK hP hD hS 1 1 rfl rfl o_4 dT_append_34 (fun H locs hP hD hS => ?_)
        have hP : va_P (dC, dI) classes [(h0, .inr (1, [.ref ua, .int len, .int nx])), (ua, .inl (cC, 200, .inl (upd uf len.toNatClampNeg (vp_nar .char ((u.toUInt32 % 65536).toInt32)))))] H := hP
        have hD : va_D A [(h0, .inr (1, [.ref ua, .int len, .int nx])), (ua, .inl (cC, 200, .inl (upd uf len.toNatClampNeg (vp_nar .char ((u.toUInt32 % 65536).toInt32)))))] := hD
        refine lv_aload_n hx hb dT_append_35 rfl (lv_at hl 0 rfl) ?_
        refine lv_dup hx hb dT_append_36 rfl ?_
        refine va_get (D := (dC, dI)) (ci := 1) (v := .int len) (C := xR_T) (T := xF_T) (N := 3) hx hb hts xi_T hown hK hP 0 rfl rfl 1 (by decide) (hts _ xk_77) (fun _ h9 => h9) rfl dT_append_37 ?_
        refine lv_iconst (v := 1) hx hb dT_append_40 (by decide) ?_
        refine lv_iadd hx hb dT_append_41 ?_
        refine va_put (D := (dC, dI)) (ci := 1) (v := .int (len + 1)) (ty := .int) (C := xR_T) (T := xF_T) (N := 3) hx hb hts xi_T xt_T xt_T_ok xn_T hown hK hP hD hS 0 rfl rfl 1 (by decide) (hts _ xk_77) (fun _ h9 => h9) rfl (by decide +kernel) rfl rfl (Nat.le_of_ble_eq_true rfl) dT_append_42 (fun H locs hP hD hS => ?_)
        have hP : va_P (dC, dI) classes [(h0, .inr (1, [.ref ua, .int (len + 1), .int nx])), (ua, .inl (cC, 200, .inl (upd uf len.toNatClampNeg (vp_nar .char ((u.toUInt32 % 65536).toInt32)))))] H := hP
        have hD : va_D A [(h0, .inr (1, [.ref ua, .int (len + 1), .int nx])), (ua, .inl (cC, 200, .inl (upd uf len.toNatClampNeg (vp_nar .char ((u.toUInt32 % 65536).toInt32)))))] := hD
        refine lv_iconst (v := 1) hx hb dT_append_45 (by decide) ?_
        have e_0 : gT_append uf len nx u = true := (if_neg c_1).trans ((if_neg c_2).trans ((if_pos c_3).trans (rfl)))
        have e_1 : gT_append_1 uf len nx u = (len + 1) := (if_neg c_1).trans ((if_neg c_2).trans ((if_pos c_3).trans (rfl)))
        have e_2 : gT_append_f uf len nx u = (upd uf len.toNatClampNeg (vp_nar .char ((u.toUInt32 % 65536).toInt32))) := (if_neg c_1).trans ((if_neg c_2).trans ((if_pos c_3).trans (rfl)))
        have hP9 := hP.sub (ws' := [(h0, .inr (1, [.ref ua, .int (len + 1), .int nx])), (ua, .inl (cC, 200, .inl (upd uf len.toNatClampNeg (vp_nar .char ((u.toUInt32 % 65536).toInt32)))))]) [0, 1] rfl
        have hD9 := hD.sub (ws' := [(h0, .inr (1, [.ref ua, .int (len + 1), .int nx])), (ua, .inl (cC, 200, .inl (upd uf len.toNatClampNeg (vp_nar .char ((u.toUInt32 % 65536).toInt32)))))]) [0, 1] (by decide) rfl
        exact W.zret (v := 1) hx hb hr (by decide) (fun t ht hW => ⟨_, _, rfl, ⟨by first | rfl | (simp only [e_0, e_1, e_2]; try rfl), by first | rfl | (simp only [e_0, e_1, e_2]; try rfl)⟩, by rw [ht]; exact hP9, hD9, hS.F ht⟩) hS.2.2 dT_append_46
      · refine lv_iconst (v := 0) hx hb dT_append_22 (by decide) ?_
        have e_0 : gT_append uf len nx u = false := (if_neg c_1).trans ((if_neg c_2).trans ((if_neg c_3).trans (rfl)))
        have e_1 : gT_append_1 uf len nx u = len := (if_neg c_1).trans ((if_neg c_2).trans ((if_neg c_3).trans (rfl)))
        have e_2 : gT_append_f uf len nx u = uf := (if_neg c_1).trans ((if_neg c_2).trans ((if_neg c_3).trans (rfl)))
        have hP9 := hP.sub (ws' := [(h0, .inr (1, [.ref ua, .int len, .int nx])), (ua, .inl (cC, 200, .inl uf))]) [0, 1] rfl
        have hD9 := hD.sub (ws' := [(h0, .inr (1, [.ref ua, .int len, .int nx])), (ua, .inl (cC, 200, .inl uf))]) [0, 1] (by decide) rfl
        exact W.zret (v := 0) hx hb hr (by decide) (fun t ht hW => ⟨_, _, rfl, ⟨by first | rfl | (simp only [e_0, e_1, e_2]; try rfl), by first | rfl | (simp only [e_0, e_1, e_2]; try rfl)⟩, by rw [ht]; exact hP9, hD9, hS.F ht⟩) hS.2.2 dT_append_23
