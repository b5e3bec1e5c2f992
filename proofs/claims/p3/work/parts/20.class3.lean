def kT_takeNumber_4a_0 (uf : Nat → Int32) (len : Int32) (nx : Int32) : Nat → Int32 → Int32 → Int32
  | 0, _, _ => default
  | n_4 + 1, dg, nu => if 4 ≤ dg then (if nu = 0 then (((-1))) else (nu)) else (if (fT_isDigit (fT_look uf len (nx + dg))) = true then (kT_takeNumber_4a_0 uf len nx n_4 (dg + 1) ((nu * 10) + ((fT_look uf len (nx + dg)) - 48))) else (if nu = 0 then (((-1))) else (nu)))
def kT_takeNumber_4a_1 (uf : Nat → Int32) (len : Int32) (nx : Int32) : Nat → Int32 → Int32 → Int32
  | 0, _, _ => default
  | n_4 + 1, dg, nu => if 4 ≤ dg then (if nu = 0 then (nx) else (nx + dg)) else (if (fT_isDigit (fT_look uf len (nx + dg))) = true then (kT_takeNumber_4a_1 uf len nx n_4 (dg + 1) ((nu * 10) + ((fT_look uf len (nx + dg)) - 48))) else (if nu = 0 then (nx) else (nx + dg)))
def gT_takeNumber (uf : Nat → Int32) (len : Int32) (nx : Int32) : Int32 := kT_takeNumber_4a_0 uf len nx 5 (0) (0)
def gT_takeNumber_2 (uf : Nat → Int32) (len : Int32) (nx : Int32) : Int32 := kT_takeNumber_4a_1 uf len nx 5 (0) (0)
set_option maxHeartbeats 4000000 in
set_option maxRecDepth 100000 in
theorem cT_takeNumber (l : Launch) {s0 : State} {dC : Nat → ClassId} {dI : Nat → Nat → Nat} {cI cC cL cO : ClassId} (E : xb_Env l s0 dC dI (xtys cI cC cL cO)) (sz : Nat) (h0 : Nat) (ua : Nat) (len : Int32) (nx : Int32) (uf : Nat → Int32) (hlen : len ≤ 200) : Met l yT_takeNumber [.code yT_takeNumber bT_takeNumber 3 (some (.int))] ({ frames := 1, cells := 0, slots := 0, locals := 21 }) (va_Pc [.ref h0] (fun U => xb_At s0 U ∧ U.heap.size = sz ∧ va_P (dC, dI) classes [(h0, .inr (1, [.ref ua, .int len, .int nx])), (ua, .inl (cC, 200, .inl uf))] U.heap ∧ va_D (fun q => s0.heap.size ≤ q) [(h0, .inr (1, [.ref ua, .int len, .int nx])), (ua, .inl (cC, 200, .inl uf))])) (xb_W (dC, dI) (fun v9 w9 => v9 = some (.int (gT_takeNumber uf len nx)) ∧ w9 = [(h0, .inr (1, [.ref ua, .int len, .int (gT_takeNumber_2 uf len nx)])), (ua, .inl (cC, 200, .inl uf))]) (va_A [(h0, .inr (1, [.ref ua, .int len, .int nx])), (ua, .inl (cC, 200, .inl uf))] sz)) 0 0 (va_A [(h0, .inr (1, [.ref ua, .int len, .int nx])), (ua, .inl (cC, 200, .inl uf))] sz) := by
  refine Met.ofW (cc := bT_takeNumber) (maxL := 3) (ret := (some (.int))) (by decide) rfl ?_
  intro p e s m args below meth c s₁ B hml hv
  obtain ⟨rfl, hAt, hsz, hP, hD0⟩ := hv
  have hx := B.exec
  have hb := B.bytes
  have hr := B.returns
  have hts := xb_hts E hAt ([.ref h0] : List Value).toArray
  have hown : s.vm.findClass "NailRules$Text" = some m.cls := findClass_of_methodNamed B.named
  have hlocks := B.notSynchronized
  have hK := xb_K E hAt
  subst hsz
  have hA0 := xb_A0 hAt hD0
  have hD := hD0.self (sz := s.heap.size)
  generalize hAe : va_A [(h0, .inr (1, [.ref ua, .int len, .int nx])), (ua, .inl (cC, 200, .inl uf))] s.heap.size = A at hD hA0 ⊢
  have hA : ∀ q : Nat, s.heap.size ≤ q → A q := fun q h => by rw [← hAe]; exact Or.inr h
  have hS : va_S A s.heap s.heap [] := va_S.rf
  have hl := lv_entry ([.ref h0]) (n := 3) (Nat.le_of_ble_eq_true rfl)
  rw [lg_entry_eq]
  generalize (lg_sl ([.ref h0]) ++ List.replicate (3 - (lg_sl ([.ref h0])).length) Slot.unset).toArray = ls at hl ⊢
  have hl : lv_has ls 3 [(0, .ref h0)] := hl
  refine lv_iconst (v := 0) hx hb dT_takeNumber_0 (by decide) ?_
  refine lv_istore_n (lv' := [(1, .int 0), (0, .ref h0)]) hx hb dT_takeNumber_1 rfl hl (by decide) rfl (fun ls hl => ?_)
  refine lv_iconst (v := 0) hx hb dT_takeNumber_2 (by decide) ?_
  refine lv_istore_n (lv' := [(2, .int 0), (1, .int 0), (0, .ref h0)]) hx hb dT_takeNumber_3 rfl hl (by decide) rfl (fun ls hl => ?_)
  have lp_4 : ∀ (n_4 : Nat) (dg : Int32) (nu : Int32), (xl_c 0 4 n_4 dg) → gT_takeNumber uf len nx = kT_takeNumber_4a_0 uf len nx n_4 dg nu → gT_takeNumber_2 uf len nx = kT_takeNumber_4a_1 uf len nx n_4 dg nu → ∀ (H : Heap) (locs : List Loc), va_P (dC, dI) classes [(h0, .inr (1, [.ref ua, .int len, .int nx])), (ua, .inl (cC, 200, .inl uf))] H → va_D A [(h0, .inr (1, [.ref ua, .int len, .int nx])), (ua, .inl (cC, 200, .inl uf))] → va_S A s.heap H locs → ∀ ls : Array Slot, lv_has ls 3 [(1, .int dg), (2, .int nu), (0, .ref h0)] → W p l e (headSpec [.code yT_takeNumber bT_takeNumber 3 (some (.int))] ({ frames := 1, cells := 0, slots := 0, locals := 21 })).room s m ([.ref h0] : List Value).toArray below meth c H locs 0 0 (MQ below (xb_W (dC, dI) (fun v9 w9 => v9 = some (.int (gT_takeNumber uf len nx)) ∧ w9 = [(h0, .inr (1, [.ref ua, .int len, .int (gT_takeNumber_2 uf len nx)])), (ua, .inl (cC, 200, .inl uf))]) A) ([.ref h0] : List Value).toArray s 0 0 A) (F0 m 4 ls []) := by
    intro n_4
    induction n_4 with
    | zero =>
      intro dg nu hinv_4
      exact xl_0 hinv_4
    | succ n_4 ih_4 =>
      intro dg nu hinv_4 hres_4_0 hres_4_1 H locs hP hD hS ls hl
      refine lv_iload_n hx hb dT_takeNumber_4 rfl (lv_at hl 0 rfl) ?_
      refine lv_iconst (v := 4) hx hb dT_takeNumber_5 (by decide) ?_
      refine lv_icmp_ge (tgt := 50) hx hb dT_takeNumber_6 (by decide) (fun c_1 => ?_) (fun c_1 => ?_)
      · refine lv_iload_n hx hb dT_takeNumber_50 rfl (lv_at hl 1 rfl) ?_
        refine lv_if_ne (tgt := 56) hx hb dT_takeNumber_51 (by decide) (fun c_2 => ?_) (fun c_2 => ?_)
        · refine lv_aload_n hx hb dT_takeNumber_56 rfl (lv_at hl 2 rfl) ?_
          refine lv_dup hx hb dT_takeNumber_57 rfl ?_
          refine va_get (D := (dC, dI)) (ci := 1) (v := .int nx) (C := xR_T) (T := xF_T) (N := 3) hx hb hts xi_T hown hK hP 0 rfl rfl 2 (by decide) (hts _ xk_78) (fun _ h9 => h9) rfl dT_takeNumber_58 ?_
          refine lv_iload_n hx hb dT_takeNumber_61 rfl (lv_at hl 0 rfl) ?_
          refine lv_iadd hx hb dT_takeNumber_62 ?_
          refine va_put (D := (dC, dI)) (ci := 1) (v := .int (nx + dg)) (ty := .int) (C := xR_T) (T := xF_T) (N := 3) hx hb hts xi_T xt_T xt_T_ok xn_T hown hK hP hD hS 0 rfl rfl 2 (by decide) (hts _ xk_78) (fun _ h9 => h9) rfl (by decide +kernel) rfl rfl (Nat.le_of_ble_eq_true rfl) dT_takeNumber_63 (fun H locs hP hD hS => ?_)
          have hP : va_P (dC, dI) classes [(h0, .inr (1, [.ref ua, .int len, .int (nx + dg)])), (ua, .inl (cC, 200, .inl uf))] H := hP
          have hD : va_D A [(h0, .inr (1, [.ref ua, .int len, .int (nx + dg)])), (ua, .inl (cC, 200, .inl uf))] := hD
          refine lv_iload_n hx hb dT_takeNumber_66 rfl (lv_at hl 1 rfl) ?_
          have e_0 : gT_takeNumber uf len nx = nu := hres_4_0.trans ((if_pos c_1).trans ((if_neg c_2).trans (rfl)))
          have e_1 : gT_takeNumber_2 uf len nx = (nx + dg) := hres_4_1.trans ((if_pos c_1).trans ((if_neg c_2).trans (rfl)))
          have hP9 := hP.sub (ws' := [(h0, .inr (1, [.ref ua, .int len, .int (nx + dg)])), (ua, .inl (cC, 200, .inl uf))]) [0, 1] rfl
          have hD9 := hD.sub (ws' := [(h0, .inr (1, [.ref ua, .int len, .int (nx + dg)])), (ua, .inl (cC, 200, .inl uf))]) [0, 1] (by decide) rfl
          exact W.iret (v := nu) hx hb hr (fun t ht hW => ⟨_, _, rfl, ⟨by first | rfl | (simp only [e_0, e_1]; try rfl), by first | rfl | (simp only [e_0, e_1]; try rfl)⟩, by rw [ht]; exact hP9, hD9, hS.F ht⟩) hS.2.2 dT_takeNumber_67
        · refine lv_iconst (v := (-1)) hx hb dT_takeNumber_54 (by decide) ?_
          have e_0 : gT_takeNumber uf len nx = ((-1) : Int32) := hres_4_0.trans ((if_pos c_1).trans ((if_pos c_2).trans (rfl)))
          have e_1 : gT_takeNumber_2 uf len nx = nx := hres_4_1.trans ((if_pos c_1).trans ((if_pos c_2).trans (rfl)))
          have hP9 := hP.sub (ws' := [(h0, .inr (1, [.ref ua, .int len, .int nx])), (ua, .inl (cC, 200, .inl uf))]) [0, 1] rfl
          have hD9 := hD.sub (ws' := [(h0, .inr (1, [.ref ua, .int len, .int nx])), (ua, .inl (cC, 200, .inl uf))]) [0, 1] (by decide) rfl
          exact W.iret (v := (-1)) hx hb hr (fun t ht hW => ⟨_, _, rfl, ⟨by first | rfl | (simp only [e_0, e_1]; try rfl), by first | rfl | (simp only [e_0, e_1]; try rfl)⟩, by rw [ht]; exact hP9, hD9, hS.F ht⟩) hS.2.2 dT_takeNumber_55
      · refine lv_aload_n hx hb dT_takeNumber_9 rfl (lv_at hl 2 rfl) ?_
        refine lv_aload_n hx hb dT_takeNumber_10 rfl (lv_at hl 2 rfl) ?_
        refine va_get (D := (dC, dI)) (ci := 1) (v := .int nx) (C := xR_T) (T := xF_T) (N := 3) hx hb hts xi_T hown hK hP 0 rfl rfl 2 (by decide) (hts _ xk_78) (fun _ h9 => h9) rfl dT_takeNumber_11 ?_
        refine lv_iload_n hx hb dT_takeNumber_14 rfl (lv_at hl 0 rfl) ?_
        refine lv_iadd hx hb dT_takeNumber_15 ?_
        refine xb_rd (W.runV (C := "NailRules$Text") (As := [.int (nx + dg)]) (rest := []) ⟨hx, hb, hml, hown, hts⟩ (cT_look l E h0 ([.ref ua, .int len, .int nx]) ua uf len (nx + dg) rfl rfl (hlen)) (cwV 1 hts (xb_gi (List.forall_mem_cons.mpr ⟨xk_176, List.forall_mem_cons.mpr ⟨xk_178, List.forall_mem_cons.mpr ⟨xk_5, List.forall_mem_cons.mpr ⟨xk_41, List.forall_mem_cons.mpr ⟨xk_179, fun _ h => absurd h List.not_mem_nil⟩⟩⟩⟩⟩)) rfl rfl rfl (by decide +kernel) ⟨Nat.le_of_ble_eq_true rfl, Nat.le_of_ble_eq_true rfl⟩) ⟨fun _ _ _ _ q => q, va_recv hK hP (ci := 1) (q0 := 0) rfl rfl, fun U hU hW => ⟨rfl, xb_atS hAt hS hA0 hU hW, by rw [hU]; exact hP.sub (ws' := [(h0, .inr (1, [.ref ua, .int len, .int nx])), (ua, .inl (cC, 200, .inl uf))]) [0, 1] rfl⟩⟩ rfl rfl hl.1 rfl (lv_room (Nat.le_of_ble_eq_true rfl)) dT_takeNumber_16 ⟨Nat.zero_le _, Nat.zero_le _⟩) ?_
        refine xb_rd (W.runS (As := [.int (fT_look uf len (nx + dg))]) (rest := []) ⟨hx, hb, hml, hown, hts⟩ (cT_isDigit l E (fT_look uf len (nx + dg))) (cwS 1 hts (xb_gi (List.forall_mem_cons.mpr ⟨xk_260, List.forall_mem_cons.mpr ⟨xk_261, List.forall_mem_cons.mpr ⟨xk_41, List.forall_mem_cons.mpr ⟨xk_262, fun _ h => absurd h List.not_mem_nil⟩⟩⟩⟩)) rfl rfl rfl (by decide +kernel) ⟨Nat.le_of_ble_eq_true rfl, Nat.le_of_ble_eq_true rfl⟩) ⟨fun _ _ _ _ q => q, fun U hU hW => ⟨rfl, xb_atS hAt hS hA0 hU hW, fun k q h => by simp at h⟩⟩ rfl rfl hl.1 rfl (lv_room (Nat.le_of_ble_eq_true rfl)) dT_takeNumber_19 ⟨Nat.zero_le _, Nat.zero_le _⟩) ?_
        refine lv_if_eq (tgt := 50) hx hb dT_takeNumber_22 (by decide) (fun c_3 => ?_) (fun c_3 => ?_)
        · have c_3 := xb_bi_f.mp c_3
          refine lv_iload_n hx hb dT_takeNumber_50 rfl (lv_at hl 1 rfl) ?_
          refine lv_if_ne (tgt := 56) hx hb dT_takeNumber_51 (by decide) (fun c_4 => ?_) (fun c_4 => ?_)
          · refine lv_aload_n hx hb dT_takeNumber_56 rfl (lv_at hl 2 rfl) ?_
            refine lv_dup hx hb dT_takeNumber_57 rfl ?_
            refine va_get (D := (dC, dI)) (ci := 1) (v := .int nx) (C := xR_T) (T := xF_T) (N := 3) hx hb hts xi_T hown hK hP 0 rfl rfl 2 (by decide) (hts _ xk_78) (fun _ h9 => h9) rfl dT_takeNumber_58 ?_
            refine lv_iload_n hx hb dT_takeNumber_61 rfl (lv_at hl 0 rfl) ?_
            refine lv_iadd hx hb dT_takeNumber_62 ?_
            refine va_put (D := (dC, dI)) (ci := 1) (v := .int (nx + dg)) (ty := .int) (C := xR_T) (T := xF_T) (N := 3) hx hb hts xi_T xt_T xt_T_ok xn_T hown hK hP hD hS 0 rfl rfl 2 (by decide) (hts _ xk_78) (fun _ h9 => h9) rfl (by decide +kernel) rfl rfl (Nat.le_of_ble_eq_true rfl) dT_takeNumber_63 (fun H locs hP hD hS => ?_)
            have hP : va_P (dC, dI) classes [(h0, .inr (1, [.ref ua, .int len, .int (nx + dg)])), (ua, .inl (cC, 200, .inl uf))] H := hP
            have hD : va_D A [(h0, .inr (1, [.ref ua, .int len, .int (nx + dg)])), (ua, .inl (cC, 200, .inl uf))] := hD
            refine lv_iload_n hx hb dT_takeNumber_66 rfl (lv_at hl 1 rfl) ?_
            have e_0 : gT_takeNumber uf len nx = nu := hres_4_0.trans ((if_neg c_1).trans ((if_neg c_3).trans ((if_neg c_4).trans (rfl))))
            have e_1 : gT_takeNumber_2 uf len nx = (nx + dg) := hres_4_1.trans ((if_neg c_1).trans ((if_neg c_3).trans ((if_neg c_4).trans (rfl))))
            have hP9 := hP.sub (ws' := [(h0, .inr (1, [.ref ua, .int len, .int (nx + dg)])), (ua, .inl (cC, 200, .inl uf))]) [0, 1] rfl
            have hD9 := hD.sub (ws' := [(h0, .inr (1, [.ref ua, .int len, .int (nx + dg)])), (ua, .inl (cC, 200, .inl uf))]) [0, 1] (by decide) rfl
            exact W.iret (v := nu) hx hb hr (fun t ht hW => ⟨_, _, rfl, ⟨by first | rfl | (simp only [e_0, e_1]; try rfl), by first | rfl | (simp only [e_0, e_1]; try rfl)⟩, by rw [ht]; exact hP9, hD9, hS.F ht⟩) hS.2.2 dT_takeNumber_67
          · refine lv_iconst (v := (-1)) hx hb dT_takeNumber_54 (by decide) ?_
            have e_0 : gT_takeNumber uf len nx = ((-1) : Int32) := hres_4_0.trans ((if_neg c_1).trans ((if_neg c_3).trans ((if_pos c_4).trans (rfl))))
            have e_1 : gT_takeNumber_2 uf len nx = nx := hres_4_1.trans ((if_neg c_1).trans ((if_neg c_3).trans ((if_pos c_4).trans (rfl))))
            have hP9 := hP.sub (ws' := [(h0, .inr (1, [.ref ua, .int len, .int nx])), (ua, .inl (cC, 200, .inl uf))]) [0, 1] rfl
            have hD9 := hD.sub (ws' := [(h0, .inr (1, [.ref ua, .int len, .int nx])), (ua, .inl (cC, 200, .inl uf))]) [0, 1] (by decide) rfl
            exact W.iret (v := (-1)) hx hb hr (fun t ht hW => ⟨_, _, rfl, ⟨by first | rfl | (simp only [e_0, e_1]; try rfl), by first | rfl | (simp only [e_0, e_1]; try rfl)⟩, by rw [ht]; exact hP9, hD9, hS.F ht⟩) hS.2.2 dT_takeNumber_55
        · have c_3 := xb_bi_t.mp c_3
          refine lv_iload_n hx hb dT_takeNumber_25 rfl (lv_at hl 1 rfl) ?_
          refine lv_bipush (v := 10) hx hb dT_takeNumber_26 (by decide) ?_
          refine lv_imul hx hb dT_takeNumber_28 ?_
          refine lv_aload_n hx hb dT_takeNumber_29 rfl (lv_at hl 2 rfl) ?_
          refine lv_aload_n hx hb dT_takeNumber_30 rfl (lv_at hl 2 rfl) ?_
          refine va_get (D := (dC, dI)) (ci := 1) (v := .int nx) (C := xR_T) (T := xF_T) (N := 3) hx hb hts xi_T hown hK hP 0 rfl rfl 2 (by decide) (hts _ xk_78) (fun _ h9 => h9) rfl dT_takeNumber_31 ?_
          refine lv_iload_n hx hb dT_takeNumber_34 rfl (lv_at hl 0 rfl) ?_
          refine lv_iadd hx hb dT_takeNumber_35 ?_
          refine xb_rd (W.runV (C := "NailRules$Text") (As := [.int (nx + dg)]) (rest := [.int (nu * 10)]) ⟨hx, hb, hml, hown, hts⟩ (cT_look l E h0 ([.ref ua, .int len, .int nx]) ua uf len (nx + dg) rfl rfl (hlen)) (cwV 1 hts (xb_gi (List.forall_mem_cons.mpr ⟨xk_176, List.forall_mem_cons.mpr ⟨xk_178, List.forall_mem_cons.mpr ⟨xk_5, List.forall_mem_cons.mpr ⟨xk_41, List.forall_mem_cons.mpr ⟨xk_179, fun _ h => absurd h List.not_mem_nil⟩⟩⟩⟩⟩)) rfl rfl rfl (by decide +kernel) ⟨Nat.le_of_ble_eq_true rfl, Nat.le_of_ble_eq_true rfl⟩) ⟨fun _ _ _ _ q => q, va_recv hK hP (ci := 1) (q0 := 0) rfl rfl, fun U hU hW => ⟨rfl, xb_atS hAt hS hA0 hU hW, by rw [hU]; exact hP.sub (ws' := [(h0, .inr (1, [.ref ua, .int len, .int nx])), (ua, .inl (cC, 200, .inl uf))]) [0, 1] rfl⟩⟩ rfl rfl hl.1 rfl (lv_room (Nat.le_of_ble_eq_true rfl)) dT_takeNumber_36 ⟨Nat.zero_le _, Nat.zero_le _⟩) ?_
          refine lv_bipush (v := 48) hx hb dT_takeNumber_39 (by decide) ?_
          refine lv_isub hx hb dT_takeNumber_41 ?_
          refine lv_iadd hx hb dT_takeNumber_42 ?_
          refine lv_istore_n (lv' := [(2, .int ((nu * 10) + ((fT_look uf len (nx + dg)) - 48))), (1, .int dg), (0, .ref h0)]) hx hb dT_takeNumber_43 rfl hl (by decide) rfl (fun ls hl => ?_)
          refine lv_iinc (v := dg + 1) (lv' := [(1, .int (dg + 1)), (2, .int ((nu * 10) + ((fT_look uf len (nx + dg)) - 48))), (0, .ref h0)]) hx hb dT_takeNumber_44 hl (k := 1) rfl rfl (by decide) rfl (fun ls hl => ?_)
          refine lv_goto (tgt := 4) hx hb dT_takeNumber_47 (by decide) ?_
          have v_inv : xl_c 0 4 n_4 (dg + 1) := xl_s1 (b := 4) hinv_4 (by decide) (by decide) c_1
          have v_0 : gT_takeNumber uf len nx = kT_takeNumber_4a_0 uf len nx n_4 (dg + 1) ((nu * 10) + ((fT_look uf len (nx + dg)) - 48)) := hres_4_0.trans ((if_neg c_1).trans ((if_pos c_3).trans (rfl)))
          have v_1 : gT_takeNumber_2 uf len nx = kT_takeNumber_4a_1 uf len nx n_4 (dg + 1) ((nu * 10) + ((fT_look uf len (nx + dg)) - 48)) := hres_4_1.trans ((if_neg c_1).trans ((if_pos c_3).trans (rfl)))
          exact ih_4 (dg + 1) ((nu * 10) + ((fT_look uf len (nx + dg)) - 48)) v_inv v_0 v_1 _ _ (hP.sub (ws' := [(h0, .inr (1, [.ref ua, .int len, .int nx])), (ua, .inl (cC, 200, .inl uf))]) [0, 1] rfl) (hD.sub (ws' := [(h0, .inr (1, [.ref ua, .int len, .int nx])), (ua, .inl (cC, 200, .inl uf))]) [0, 1] (by decide) rfl) hS ls (lv_sub hl [0, 1, 2] rfl)
  have v_inv : xl_c 0 4 5 (0 : Int32) := ⟨0, rfl, by omega, by omega, by omega⟩
  have v_0 : gT_takeNumber uf len nx = kT_takeNumber_4a_0 uf len nx 5 (0) (0) := rfl
  have v_1 : gT_takeNumber_2 uf len nx = kT_takeNumber_4a_1 uf len nx 5 (0) (0) := rfl
  exact lp_4 5 (0) (0) v_inv v_0 v_1 _ _ (hP.sub (ws' := [(h0, .inr (1, [.ref ua, .int len, .int nx])), (ua, .inl (cC, 200, .inl uf))]) [0, 1] rfl) (hD.sub (ws' := [(h0, .inr (1, [.ref ua, .int len, .int nx])), (ua, .inl (cC, 200, .inl uf))]) [0, 1] (by decide) rfl) hS ls (lv_sub hl [1, 0, 2] rfl)
