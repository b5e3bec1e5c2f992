theorem xh_1 {a b : Prop} (c : ¬ (a ∨ ¬ b)) : ¬ a := fun q => c (Or.inl q)
theorem xh_2 {a b : Prop} [Decidable b] (c : ¬ (a ∨ ¬ b)) : b := Decidable.not_not.mp (fun q => c (Or.inr q))
theorem xh_s1 {w : Int32} {p : Int64} (c2 : ¬ (w = 0 ∧ (p < 1 ∨ ¬ p ≤ 100))) (c3 : ¬ (¬ w = 0 ∧ (p < 0 ∨ ¬ p ≤ 100))) : ¬ p < (if w = 0 then (1 : Int64) else 0) := by
  by_cases h : w = 0
  · rw [if_pos h]; exact fun q => c2 ⟨h, Or.inl q⟩
  · rw [if_neg h]; exact fun q => c3 ⟨h, Or.inl q⟩
theorem xh_s2 {w : Int32} {p : Int64} (c2 : ¬ (w = 0 ∧ (p < 1 ∨ ¬ p ≤ 100))) (c3 : ¬ (¬ w = 0 ∧ (p < 0 ∨ ¬ p ≤ 100))) : p ≤ 100 := by
  by_cases h : w = 0
  · exact Decidable.not_not.mp (fun q => c2 ⟨h, Or.inr q⟩)
  · exact Decidable.not_not.mp (fun q => c3 ⟨h, Or.inr q⟩)
theorem xh_k {kind : Int32} (c : ¬ (kind < 0 ∨ ¬ kind < 4)) : ∃ j : Nat, j < 4 ∧ kind = nI j := by
  obtain ⟨j, hj, rfl⟩ := nI_of (xh_1 c)
  have h2 := xh_2 c
  rw [show (4 : Int32) = nI 4 from rfl, nI_ltI hj (by decide)] at h2
  exact ⟨j, h2, rfl⟩
theorem xh_v {kind : Int32} (c : ¬ (kind < 0 ∨ ¬ kind < 4)) (i : Nat) (hi : i < 7) : vp_in (kind * 7 + nI i) 28 := by
  obtain ⟨j, hj, rfl⟩ := xh_k c
  rw [show (7 : Int32) = nI 7 from rfl, pk_mul, nI_add]
  exact vp_in_nI (by omega) (by omega)
theorem xh_w {kind what : Int32} (c : ¬ (kind < 0 ∨ ¬ kind < 4)) (c2 : ¬ (what < 0 ∨ ¬ what < 7)) : vp_in (kind * 7 + what) 28 := by
  obtain ⟨i, hi, rfl⟩ := nI_of (xh_1 c2)
  have h2 := xh_2 c2
  rw [show (7 : Int32) = nI 7 from rfl, nI_ltI hi (by decide)] at h2
  exact xh_v c i h2
theorem xh_n {n : Int32} (c : ¬ (n.toInt64 < 1 ∨ ¬ n.toInt64 ≤ 100)) : n ≤ 100 := by
  have h := xh_2 c
  rw [Int64.le_iff_toInt_le, Int32.toInt_toInt64] at h
  rw [Int32.le_iff_toInt_le]
  exact h
theorem xh_p {k pn : Int32} (hp : pn ≤ 100) (c : ¬ (k < 0 ∨ ¬ k < pn)) : vp_in k 100 := by
  have h1 := xh_1 c
  have h2 := xh_2 c
  rw [Int32.lt_iff_toInt_lt] at h1 h2
  rw [Int32.le_iff_toInt_le] at hp
  have e0 : (0 : Int32).toInt = 0 := by decide
  have e2 : (100 : Int32).toInt = 100 := by decide
  rw [vp_in_iff]
  omega
theorem xc_nc_IA_IO {l : Launch} {s0 U : State} {dC : Nat → ClassId} {dI : Nat → Nat → Nat} {tys : List (ClassId × FieldType)} (E : xb_Env l s0 dC dI tys) (h : xb_At s0 U) : ∃ c1, U.vm.findClass "java/lang/IndexOutOfBoundsException" = some c1 ∧ ∀ cE, U.vm.findClass "java/lang/IllegalArgumentException" = some cE → U.vm.assignable cE c1 = false := by
  obtain ⟨-, ⟨a0, -, hn0⟩, -⟩ := E
  have hm : Cond.not (.castable "java/lang/IllegalArgumentException" "java/lang/IndexOutOfBoundsException") ∈ xt_nar := by decide +kernel
  obtain ⟨c, t, h1, h2, h3⟩ := va_Nc.moved h.1.alike (va_Nc.of (flat_of_before _ hn0 _ hm))
  exact ⟨t, h2, fun cE hE => by cases h1.symm.trans hE; exact h3⟩
theorem xc_nc_IO_IS {l : Launch} {s0 U : State} {dC : Nat → ClassId} {dI : Nat → Nat → Nat} {tys : List (ClassId × FieldType)} (E : xb_Env l s0 dC dI tys) (h : xb_At s0 U) : ∃ c1, U.vm.findClass "java/lang/IllegalStateException" = some c1 ∧ ∀ cE, U.vm.findClass "java/lang/IndexOutOfBoundsException" = some cE → U.vm.assignable cE c1 = false := by
  obtain ⟨-, ⟨a0, -, hn0⟩, -⟩ := E
  have hm : Cond.not (.castable "java/lang/IndexOutOfBoundsException" "java/lang/IllegalStateException") ∈ xt_nar := by decide +kernel
  obtain ⟨c, t, h1, h2, h3⟩ := va_Nc.moved h.1.alike (va_Nc.of (flat_of_before _ hn0 _ hm))
  exact ⟨t, h2, fun cE hE => by cases h1.symm.trans hE; exact h3⟩
theorem xc_nc_IS_IA {l : Launch} {s0 U : State} {dC : Nat → ClassId} {dI : Nat → Nat → Nat} {tys : List (ClassId × FieldType)} (E : xb_Env l s0 dC dI tys) (h : xb_At s0 U) : ∃ c1, U.vm.findClass "java/lang/IllegalArgumentException" = some c1 ∧ ∀ cE, U.vm.findClass "java/lang/IllegalStateException" = some cE → U.vm.assignable cE c1 = false := by
  obtain ⟨-, ⟨a0, -, hn0⟩, -⟩ := E
  have hm : Cond.not (.castable "java/lang/IllegalStateException" "java/lang/IllegalArgumentException") ∈ xt_nar := by decide +kernel
  obtain ⟨c, t, h1, h2, h3⟩ := va_Nc.moved h.1.alike (va_Nc.of (flat_of_before _ hn0 _ hm))
  exact ⟨t, h2, fun cE hE => by cases h1.symm.trans hE; exact h3⟩
def gL_rule (rf : Nat → Int32) (kind : Int32) (what : Int32) (of : Nat → Int64) : Int32 := if kind < 0 ∨ ¬ kind < 4 then ((1)) else (if what < 0 ∨ ¬ what < 7 then ((1)) else ((0)))
def gL_rule_f (rf : Nat → Int32) (kind : Int32) (what : Int32) (of : Nat → Int64) : Nat → Int64 := if kind < 0 ∨ ¬ kind < 4 then (of) else (if what < 0 ∨ ¬ what < 7 then (of) else (vp_updL of (0 : Int32).toNatClampNeg ((fN_rule rf kind what).toInt64)))
set_option maxHeartbeats 4000000 in
set_option maxRecDepth 100000 in
theorem cL_rule (l : Launch) {s0 : State} {dC : Nat → ClassId} {dI : Nat → Nat → Nat} {cI cC cL cO : ClassId} (E : xb_Env l s0 dC dI (xtys cI cC cL cO)) (sz : Nat) (h0 : Nat) (ra : Nat) (oa : Nat) (ta : Nat) (wet : Int32) (less : Int32) (px : Nat) (py : Nat) (pn : Int32) (qx : Nat) (qy : Nat) (qn : Int32) (ml : Nat) (rf : Nat → Int32) (of : Nat → Int64) (kind : Int32) (what : Int32) : Met l yL_rule [.codeWith yL_rule bL_rule 5 (some (.int)) [(0, 10, 13, 13)]] ({ frames := 8, cells := 1, slots := 6, locals := 125 }) (va_Pc [.ref h0, .int kind, .int what, .ref oa] (fun U => xb_At s0 U ∧ U.heap.size = sz ∧ va_P (dC, dI) classes [(h0, .inr (0, [.ref ta, .ref ra, .int wet, .int less, .ref px, .ref py, .int pn, .ref qx, .ref qy, .int qn, .ref ml])), (ra, .inl (cI, 28, .inl rf)), (oa, .inl (cL, 1, .inr (.inl of)))] U.heap ∧ va_D (fun q => s0.heap.size ≤ q) [(h0, .inr (0, [.ref ta, .ref ra, .int wet, .int less, .ref px, .ref py, .int pn, .ref qx, .ref qy, .int qn, .ref ml])), (ra, .inl (cI, 28, .inl rf)), (oa, .inl (cL, 1, .inr (.inl of)))])) (xb_W (dC, dI) (fun v9 w9 => v9 = some (.int (gL_rule rf kind what of)) ∧ w9 = [(h0, .inr (0, [.ref ta, .ref ra, .int wet, .int less, .ref px, .ref py, .int pn, .ref qx, .ref qy, .int qn, .ref ml])), (ra, .inl (cI, 28, .inl rf)), (oa, .inl (cL, 1, .inr (.inl (gL_rule_f rf kind what of))))]) (va_A [(h0, .inr (0, [.ref ta, .ref ra, .int wet, .int less, .ref px, .ref py, .int pn, .ref qx, .ref qy, .int qn, .ref ml])), (ra, .inl (cI, 28, .inl rf)), (oa, .inl (cL, 1, .inr (.inl of)))] sz)) 1 6 (va_A [(h0, .inr (0, [.ref ta, .ref ra, .int wet, .int less, .ref px, .ref py, .int pn, .ref qx, .ref qy, .int qn, .ref ml])), (ra, .inl (cI, 28, .inl rf)), (oa, .inl (cL, 1, .inr (.inl of)))] sz) := by
  refine xw_ofW (cc := bL_rule) (maxL := 5) (ret := (some (.int))) (hs := [(0, 10, 13, 13)]) (by decide) rfl ?_
  intro p e s m args below meth c s₁ B hml htab hv
  obtain ⟨rfl, hAt, hsz, hP, hD0⟩ := hv
  have hx := B.exec
  have hb := B.bytes
  have hr := B.returns
  have hts := xb_hts E hAt ([.ref h0, .int kind, .int what, .ref oa] : List Value).toArray
  have hown : s.vm.findClass "NailRulesLaw" = some m.cls := findClass_of_methodNamed B.named
  have hlocks := B.notSynchronized
  have hK := xb_K E hAt
  subst hsz
  have hA0 := xb_A0 hAt hD0
  have hD := hD0.self (sz := s.heap.size)
  generalize hAe : va_A [(h0, .inr (0, [.ref ta, .ref ra, .int wet, .int less, .ref px, .ref py, .int pn, .ref qx, .ref qy, .int qn, .ref ml])), (ra, .inl (cI, 28, .inl rf)), (oa, .inl (cL, 1, .inr (.inl of)))] s.heap.size = A at hD hA0 ⊢
  have hA : ∀ q : Nat, s.heap.size ≤ q → A q := fun q h => by rw [← hAe]; exact Or.inr h
  have hS : va_S A s.heap s.heap [] := va_S.rf
  have hl := lv_entry ([.ref h0, .int kind, .int what, .ref oa]) (n := 5) (Nat.le_of_ble_eq_true rfl)
  rw [lg_entry_eq]
  generalize (lg_sl ([.ref h0, .int kind, .int what, .ref oa]) ++ List.replicate (5 - (lg_sl ([.ref h0, .int kind, .int what, .ref oa])).length) Slot.unset).toArray = ls at hl ⊢
  have hl : lv_has ls 5 [(0, .ref h0), (1, .int kind), (2, .int what), (3, .ref oa)] := hl
  refine lv_aload_n hx hb dL_rule_0 rfl (lv_at hl 3 rfl) ?_
  refine lv_iconst (v := 0) hx hb dL_rule_1 (by decide) ?_
  refine lv_aload_n hx hb dL_rule_2 rfl (lv_at hl 0 rfl) ?_
  refine lv_iload_n hx hb dL_rule_3 rfl (lv_at hl 1 rfl) ?_
  refine lv_iload_n hx hb dL_rule_4 rfl (lv_at hl 2 rfl) ?_
  by_cases c_1 : kind < 0 ∨ ¬ kind < 4
  · refine xw_c1 (xt_runV (Cr := "NailRules") (As := [.int kind, .int what]) (rest := [.int 0, .ref oa]) ⟨hx, hb, hml, hown, hts⟩ (cN_rule_x1 l E h0 ([.ref ta, .ref ra, .int wet, .int less, .ref px, .ref py, .int pn, .ref qx, .ref qy, .int qn, .ref ml]) ra rf kind what rfl (c_1)) (cwV 2 hts (xb_gi (List.forall_mem_cons.mpr ⟨xk_284, List.forall_mem_cons.mpr ⟨xk_285, List.forall_mem_cons.mpr ⟨xk_286, List.forall_mem_cons.mpr ⟨xk_40, List.forall_mem_cons.mpr ⟨xk_287, fun _ h => absurd h List.not_mem_nil⟩⟩⟩⟩⟩)) rfl rfl rfl (by decide +kernel) ⟨Nat.le_of_ble_eq_true rfl, Nat.le_of_ble_eq_true rfl⟩) ⟨fun _ _ _ _ q => q, va_recv hK hP (ci := 0) (q0 := 0) rfl rfl, fun U hU hW => ⟨rfl, xb_atS hAt hS hA0 hU hW, by rw [hU]; exact hP.sub (ws' := [(h0, .inr (0, [.ref ta, .ref ra, .int wet, .int less, .ref px, .ref py, .int pn, .ref qx, .ref qy, .int qn, .ref ml])), (ra, .inl (cI, 28, .inl rf))]) [0, 1] rfl⟩⟩ rfl rfl hl.1 rfl (lv_room (Nat.le_of_ble_eq_true rfl)) dL_rule_5 ⟨Nat.le_of_ble_eq_true rfl, Nat.le_of_ble_eq_true rfl⟩) hown htab rfl (by decide) (hts _ xk_283) (va_Nw.use rfl (xa_cst E hAt xk_293)) (fun q9 H hz9 hk9 => ?_)
    have hP := xw_P hP hk9
    have hS := xw_S hS hz9 hk9
    refine W.widen (k := 1) (n := 6) (by omega) (by omega) ?_
    refine lv_astore (lv' := [(4, .ref q9), (0, .ref h0), (1, .int kind), (2, .int what), (3, .ref oa)]) hx hb dL_rule_13 hl (by decide) rfl (fun ls hl => ?_)
    refine lv_iconst (v := 1) hx hb dL_rule_15 (by decide) ?_
    have e_0 : gL_rule rf kind what of = (1 : Int32) := (if_pos c_1).trans (rfl)
    have e_1 : gL_rule_f rf kind what of = of := (if_pos c_1).trans (rfl)
    have hP9 := hP.sub (ws' := [(h0, .inr (0, [.ref ta, .ref ra, .int wet, .int less, .ref px, .ref py, .int pn, .ref qx, .ref qy, .int qn, .ref ml])), (ra, .inl (cI, 28, .inl rf)), (oa, .inl (cL, 1, .inr (.inl of)))]) [0, 1, 2] rfl
    have hD9 := hD.sub (ws' := [(h0, .inr (0, [.ref ta, .ref ra, .int wet, .int less, .ref px, .ref py, .int pn, .ref qx, .ref qy, .int qn, .ref ml])), (ra, .inl (cI, 28, .inl rf)), (oa, .inl (cL, 1, .inr (.inl of)))]) [0, 1, 2] (by decide) rfl
    refine W.widen (k := 1) (n := 6) (by omega) (by omega) ?_
    exact W.iret (v := 1) hx hb hr (fun t ht hW => ⟨_, _, rfl, ⟨by rw [e_0]; try rfl, by rw [e_1]⟩, by rw [ht]; exact hP9, hD9, hS.F ht⟩) hS.2.2 dL_rule_16
  by_cases c_2 : what < 0 ∨ ¬ what < 7
  · refine xw_c1 (xt_runV (Cr := "NailRules") (As := [.int kind, .int what]) (rest := [.int 0, .ref oa]) ⟨hx, hb, hml, hown, hts⟩ (cN_rule_x2 l E h0 ([.ref ta, .ref ra, .int wet, .int less, .ref px, .ref py, .int pn, .ref qx, .ref qy, .int qn, .ref ml]) ra rf kind what rfl (xh_1 c_1) (xh_2 c_1) (c_2)) (cwV 2 hts (xb_gi (List.forall_mem_cons.mpr ⟨xk_284, List.forall_mem_cons.mpr ⟨xk_285, List.forall_mem_cons.mpr ⟨xk_286, List.forall_mem_cons.mpr ⟨xk_40, List.forall_mem_cons.mpr ⟨xk_287, fun _ h => absurd h List.not_mem_nil⟩⟩⟩⟩⟩)) rfl rfl rfl (by decide +kernel) ⟨Nat.le_of_ble_eq_true rfl, Nat.le_of_ble_eq_true rfl⟩) ⟨fun _ _ _ _ q => q, va_recv hK hP (ci := 0) (q0 := 0) rfl rfl, fun U hU hW => ⟨rfl, xb_atS hAt hS hA0 hU hW, by rw [hU]; exact hP.sub (ws' := [(h0, .inr (0, [.ref ta, .ref ra, .int wet, .int less, .ref px, .ref py, .int pn, .ref qx, .ref qy, .int qn, .ref ml])), (ra, .inl (cI, 28, .inl rf))]) [0, 1] rfl⟩⟩ rfl rfl hl.1 rfl (lv_room (Nat.le_of_ble_eq_true rfl)) dL_rule_5 ⟨Nat.le_of_ble_eq_true rfl, Nat.le_of_ble_eq_true rfl⟩) hown htab rfl (by decide) (hts _ xk_283) (va_Nw.use rfl (xa_cst E hAt xk_293)) (fun q9 H hz9 hk9 => ?_)
    have hP := xw_P hP hk9
    have hS := xw_S hS hz9 hk9
    refine W.widen (k := 1) (n := 6) (by omega) (by omega) ?_
    refine lv_astore (lv' := [(4, .ref q9), (0, .ref h0), (1, .int kind), (2, .int what), (3, .ref oa)]) hx hb dL_rule_13 hl (by decide) rfl (fun ls hl => ?_)
    refine lv_iconst (v := 1) hx hb dL_rule_15 (by decide) ?_
    have e_0 : gL_rule rf kind what of = (1 : Int32) := (if_neg c_1).trans ((if_pos c_2).trans (rfl))
    have e_1 : gL_rule_f rf kind what of = of := (if_neg c_1).trans ((if_pos c_2).trans (rfl))
    have hP9 := hP.sub (ws' := [(h0, .inr (0, [.ref ta, .ref ra, .int wet, .int less, .ref px, .ref py, .int pn, .ref qx, .ref qy, .int qn, .ref ml])), (ra, .inl (cI, 28, .inl rf)), (oa, .inl (cL, 1, .inr (.inl of)))]) [0, 1, 2] rfl
    have hD9 := hD.sub (ws' := [(h0, .inr (0, [.ref ta, .ref ra, .int wet, .int less, .ref px, .ref py, .int pn, .ref qx, .ref qy, .int qn, .ref ml])), (ra, .inl (cI, 28, .inl rf)), (oa, .inl (cL, 1, .inr (.inl of)))]) [0, 1, 2] (by decide) rfl
    refine W.widen (k := 1) (n := 6) (by omega) (by omega) ?_
    exact W.iret (v := 1) hx hb hr (fun t ht hW => ⟨_, _, rfl, ⟨by rw [e_0]; try rfl, by rw [e_1]⟩, by rw [ht]; exact hP9, hD9, hS.F ht⟩) hS.2.2 dL_rule_16
  refine xb_rd (W.runV (C := "NailRules") (As := [.int kind, .int what]) (rest := [.int 0, .ref oa]) ⟨hx, hb, hml, hown, hts⟩ (cN_rule l E h0 ([.ref ta, .ref ra, .int wet, .int less, .ref px, .ref py, .int pn, .ref qx, .ref qy, .int qn, .ref ml]) ra rf kind what rfl (xh_1 c_1) (xh_2 c_1) (xh_1 c_2) (xh_2 c_2) (xh_w c_1 c_2)) (cwV 2 hts (xb_gi (List.forall_mem_cons.mpr ⟨xk_284, List.forall_mem_cons.mpr ⟨xk_285, List.forall_mem_cons.mpr ⟨xk_286, List.forall_mem_cons.mpr ⟨xk_40, List.forall_mem_cons.mpr ⟨xk_287, fun _ h => absurd h List.not_mem_nil⟩⟩⟩⟩⟩)) rfl rfl rfl (by decide +kernel) ⟨Nat.le_of_ble_eq_true rfl, Nat.le_of_ble_eq_true rfl⟩) ⟨fun _ _ _ _ q => q, va_recv hK hP (ci := 0) (q0 := 0) rfl rfl, fun U hU hW => ⟨rfl, xb_atS hAt hS hA0 hU hW, by rw [hU]; exact hP.sub (ws' := [(h0, .inr (0, [.ref ta, .ref ra, .int wet, .int less, .ref px, .ref py, .int pn, .ref qx, .ref qy, .int qn, .ref ml])), (ra, .inl (cI, 28, .inl rf))]) [0, 1] rfl⟩⟩ rfl rfl hl.1 rfl (lv_room (Nat.le_of_ble_eq_true rfl)) dL_rule_5 ⟨Nat.zero_le _, Nat.zero_le _⟩) ?_
  refine lv_i2l hx hb dL_rule_8 rfl ?_
  have o_3 : vp_in (0 : Int32) 1 := by unfold vp_in; decide
  refine va_last hx hb hK hP hD hS 2 2 rfl rfl o_3 dL_rule_9 (fun H locs hP hD hS => ?_)
  have hP : va_P (dC, dI) classes [(h0, .inr (0, [.ref ta, .ref ra, .int wet, .int less, .ref px, .ref py, .int pn, .ref qx, .ref qy, .int qn, .ref ml])), (ra, .inl (cI, 28, .inl rf)), (oa, .inl (cL, 1, .inr (.inl (vp_updL of (0 : Int32).toNatClampNeg ((fN_rule rf kind what).toInt64)))))] H := hP
  have hD : va_D A [(h0, .inr (0, [.ref ta, .ref ra, .int wet, .int less, .ref px, .ref py, .int pn, .ref qx, .ref qy, .int qn, .ref ml])), (ra, .inl (cI, 28, .inl rf)), (oa, .inl (cL, 1, .inr (.inl (vp_updL of (0 : Int32).toNatClampNeg ((fN_rule rf kind what).toInt64)))))] := hD
  refine lv_goto (tgt := 17) hx hb dL_rule_10 (by decide) ?_
  refine lv_iconst (v := 0) hx hb dL_rule_17 (by decide) ?_
  have e_0 : gL_rule rf kind what of = (0 : Int32) := (if_neg c_1).trans ((if_neg c_2).trans (rfl))
  have e_1 : gL_rule_f rf kind what of = (vp_updL of (0 : Int32).toNatClampNeg ((fN_rule rf kind what).toInt64)) := (if_neg c_1).trans ((if_neg c_2).trans (rfl))
  have hP9 := hP.sub (ws' := [(h0, .inr (0, [.ref ta, .ref ra, .int wet, .int less, .ref px, .ref py, .int pn, .ref qx, .ref qy, .int qn, .ref ml])), (ra, .inl (cI, 28, .inl rf)), (oa, .inl (cL, 1, .inr (.inl (vp_updL of (0 : Int32).toNatClampNeg ((fN_rule rf kind what).toInt64)))))]) [0, 1, 2] rfl
  have hD9 := hD.sub (ws' := [(h0, .inr (0, [.ref ta, .ref ra, .int wet, .int less, .ref px, .ref py, .int pn, .ref qx, .ref qy, .int qn, .ref ml])), (ra, .inl (cI, 28, .inl rf)), (oa, .inl (cL, 1, .inr (.inl (vp_updL of (0 : Int32).toNatClampNeg ((fN_rule rf kind what).toInt64)))))]) [0, 1, 2] (by decide) rfl
  refine W.widen (k := 1) (n := 6) (by omega) (by omega) ?_
  exact W.iret (v := 0) hx hb hr (fun t ht hW => ⟨_, _, rfl, ⟨by rw [e_0]; try rfl, by rw [e_1]⟩, by rw [ht]; exact hP9, hD9, hS.F ht⟩) hS.2.2 dL_rule_18

def gL_set (wet : Int32) (less : Int32) (what : Int32) (pct : Int32) : Int32 := if what < 0 ∨ ¬ what < 2 then ((1)) else (if what = 0 ∧ (pct.toInt64 < 1 ∨ ¬ pct.toInt64 ≤ 100) then ((2)) else (if ¬ what = 0 ∧ (pct.toInt64 < 0 ∨ ¬ pct.toInt64 ≤ 100) then ((2)) else ((0))))
def gL_set_2 (wet : Int32) (less : Int32) (what : Int32) (pct : Int32) : Int32 := if what < 0 ∨ ¬ what < 2 then (wet) else (if what = 0 ∧ (pct.toInt64 < 1 ∨ ¬ pct.toInt64 ≤ 100) then (wet) else (if ¬ what = 0 ∧ (pct.toInt64 < 0 ∨ ¬ pct.toInt64 ≤ 100) then (wet) else (gN_set_2 wet less what pct)))
def gL_set_3 (wet : Int32) (less : Int32) (what : Int32) (pct : Int32) : Int32 := if what < 0 ∨ ¬ what < 2 then (less) else (if what = 0 ∧ (pct.toInt64 < 1 ∨ ¬ pct.toInt64 ≤ 100) then (less) else (if ¬ what = 0 ∧ (pct.toInt64 < 0 ∨ ¬ pct.toInt64 ≤ 100) then (less) else (gN_set_3 wet less what pct)))
set_option maxHeartbeats 4000000 in
set_option maxRecDepth 100000 in
theorem cL_set (l : Launch) {s0 : State} {dC : Nat → ClassId} {dI : Nat → Nat → Nat} {cI cC cL cO : ClassId} (E : xb_Env l s0 dC dI (xtys cI cC cL cO)) (sz : Nat) (h0 : Nat) (ta : Nat) (ra : Nat) (wet : Int32) (less : Int32) (px : Nat) (py : Nat) (pn : Int32) (qx : Nat) (qy : Nat) (qn : Int32) (ml : Nat) (what : Int32) (pct : Int32) : Met l yL_set [.codeWith yL_set bL_set 4 (some (.int)) [(0, 6, 9, 13), (0, 6, 12, 19)]] ({ frames := 8, cells := 1, slots := 6, locals := 129 }) (va_Pc [.ref h0, .int what, .int pct] (fun U => xb_At s0 U ∧ U.heap.size = sz ∧ va_P (dC, dI) classes [(h0, .inr (0, [.ref ta, .ref ra, .int wet, .int less, .ref px, .ref py, .int pn, .ref qx, .ref qy, .int qn, .ref ml]))] U.heap ∧ va_D (fun q => s0.heap.size ≤ q) [(h0, .inr (0, [.ref ta, .ref ra, .int wet, .int less, .ref px, .ref py, .int pn, .ref qx, .ref qy, .int qn, .ref ml]))])) (xb_W (dC, dI) (fun v9 w9 => v9 = some (.int (gL_set wet less what pct)) ∧ w9 = [(h0, .inr (0, [.ref ta, .ref ra, .int (gL_set_2 wet less what pct), .int (gL_set_3 wet less what pct), .ref px, .ref py, .int pn, .ref qx, .ref qy, .int qn, .ref ml]))]) (va_A [(h0, .inr (0, [.ref ta, .ref ra, .int wet, .int less, .ref px, .ref py, .int pn, .ref qx, .ref qy, .int qn, .ref ml]))] sz)) 1 6 (va_A [(h0, .inr (0, [.ref ta, .ref ra, .int wet, .int less, .ref px, .ref py, .int pn, .ref qx, .ref qy, .int qn, .ref ml]))] sz) := by
  refine xw_ofW (cc := bL_set) (maxL := 4) (ret := (some (.int))) (hs := [(0, 6, 9, 13), (0, 6, 12, 19)]) (by decide) rfl ?_
  intro p e s m args below meth c s₁ B hml htab hv
  obtain ⟨rfl, hAt, hsz, hP, hD0⟩ := hv
  have hx := B.exec
  have hb := B.bytes
  have hr := B.returns
  have hts := xb_hts E hAt ([.ref h0, .int what, .int pct] : List Value).toArray
  have hown : s.vm.findClass "NailRulesLaw" = some m.cls := findClass_of_methodNamed B.named
  have hlocks := B.notSynchronized
  have hK := xb_K E hAt
  subst hsz
  have hA0 := xb_A0 hAt hD0
  have hD := hD0.self (sz := s.heap.size)
  generalize hAe : va_A [(h0, .inr (0, [.ref ta, .ref ra, .int wet, .int less, .ref px, .ref py, .int pn, .ref qx, .ref qy, .int qn, .ref ml]))] s.heap.size = A at hD hA0 ⊢
  have hA : ∀ q : Nat, s.heap.size ≤ q → A q := fun q h => by rw [← hAe]; exact Or.inr h
  have hS : va_S A s.heap s.heap [] := va_S.rf
  have hl := lv_entry ([.ref h0, .int what, .int pct]) (n := 4) (Nat.le_of_ble_eq_true rfl)
  rw [lg_entry_eq]
  generalize (lg_sl ([.ref h0, .int what, .int pct]) ++ List.replicate (4 - (lg_sl ([.ref h0, .int what, .int pct])).length) Slot.unset).toArray = ls at hl ⊢
  have hl : lv_has ls 4 [(0, .ref h0), (1, .int what), (2, .int pct)] := hl
  refine lv_aload_n hx hb dL_set_0 rfl (lv_at hl 0 rfl) ?_
  refine lv_iload_n hx hb dL_set_1 rfl (lv_at hl 1 rfl) ?_
  refine lv_iload_n hx hb dL_set_2 rfl (lv_at hl 2 rfl) ?_
  by_cases c_1 : what < 0 ∨ ¬ what < 2
  · refine xw_c1 (xt_runV (Cr := "NailRules") (As := [.int what, .int pct]) (rest := []) ⟨hx, hb, hml, hown, hts⟩ (cN_set_x1 l E h0 ([.ref ta, .ref ra, .int wet, .int less, .ref px, .ref py, .int pn, .ref qx, .ref qy, .int qn, .ref ml]) what pct (c_1)) (cwV 2 hts (xb_gi (List.forall_mem_cons.mpr ⟨xk_366, List.forall_mem_cons.mpr ⟨xk_367, List.forall_mem_cons.mpr ⟨xk_368, List.forall_mem_cons.mpr ⟨xk_40, List.forall_mem_cons.mpr ⟨xk_369, fun _ h => absurd h List.not_mem_nil⟩⟩⟩⟩⟩)) rfl rfl rfl (by decide +kernel) ⟨Nat.le_of_ble_eq_true rfl, Nat.le_of_ble_eq_true rfl⟩) ⟨fun _ _ _ _ q => q, va_recv hK hP (ci := 0) (q0 := 0) rfl rfl, fun U hU hW => ⟨rfl, xb_atS hAt hS hA0 hU hW, by rw [hU]; exact hP.sub (ws' := [(h0, .inr (0, [.ref ta, .ref ra, .int wet, .int less, .ref px, .ref py, .int pn, .ref qx, .ref qy, .int qn, .ref ml]))]) [0] rfl⟩⟩ rfl rfl hl.1 rfl (lv_room (Nat.le_of_ble_eq_true rfl)) dL_set_3 ⟨Nat.le_of_ble_eq_true rfl, Nat.le_of_ble_eq_true rfl⟩) hown htab rfl (by decide) (hts _ xk_283) (va_Nw.use rfl (xa_cst E hAt xk_293)) (fun q9 H hz9 hk9 => ?_)
    have hP := xw_P hP hk9
    have hS := xw_S hS hz9 hk9
    refine W.widen (k := 1) (n := 6) (by omega) (by omega) ?_
    refine lv_astore_n (lv' := [(3, .ref q9), (0, .ref h0), (1, .int what), (2, .int pct)]) hx hb dL_set_9 rfl hl (by decide) rfl (fun ls hl => ?_)
    refine lv_iconst (v := 1) hx hb dL_set_10 (by decide) ?_
    have e_0 : gL_set wet less what pct = (1 : Int32) := (if_pos c_1).trans (rfl)
    have e_1 : gL_set_2 wet less what pct = wet := (if_pos c_1).trans (rfl)
    have e_2 : gL_set_3 wet less what pct = less := (if_pos c_1).trans (rfl)
    have hP9 := hP.sub (ws' := [(h0, .inr (0, [.ref ta, .ref ra, .int wet, .int less, .ref px, .ref py, .int pn, .ref qx, .ref qy, .int qn, .ref ml]))]) [0] rfl
    have hD9 := hD.sub (ws' := [(h0, .inr (0, [.ref ta, .ref ra, .int wet, .int less, .ref px, .ref py, .int pn, .ref qx, .ref qy, .int qn, .ref ml]))]) [0] (by decide) rfl
    refine W.widen (k := 1) (n := 6) (by omega) (by omega) ?_
    exact W.iret (v := 1) hx hb hr (fun t ht hW => ⟨_, _, rfl, ⟨by rw [e_0]; try rfl, by rw [e_1, e_2]⟩, by rw [ht]; exact hP9, hD9, hS.F ht⟩) hS.2.2 dL_set_11
  by_cases c_2 : what = 0 ∧ (pct.toInt64 < 1 ∨ ¬ pct.toInt64 ≤ 100)
  · obtain ⟨c9, hc9, hno9⟩ := xc_nc_IA_IO E hAt
    refine xw_c2 (xt_runV (Cr := "NailRules") (As := [.int what, .int pct]) (rest := []) ⟨hx, hb, hml, hown, hts⟩ (cN_set_x2 l E h0 ([.ref ta, .ref ra, .int wet, .int less, .ref px, .ref py, .int pn, .ref qx, .ref qy, .int qn, .ref ml]) what pct (xh_1 c_1) (xh_2 c_1) (c_2.1) (c_2.2)) (cwV 2 hts (xb_gi (List.forall_mem_cons.mpr ⟨xk_366, List.forall_mem_cons.mpr ⟨xk_367, List.forall_mem_cons.mpr ⟨xk_368, List.forall_mem_cons.mpr ⟨xk_40, List.forall_mem_cons.mpr ⟨xk_369, fun _ h => absurd h List.not_mem_nil⟩⟩⟩⟩⟩)) rfl rfl rfl (by decide +kernel) ⟨Nat.le_of_ble_eq_true rfl, Nat.le_of_ble_eq_true rfl⟩) ⟨fun _ _ _ _ q => q, va_recv hK hP (ci := 0) (q0 := 0) rfl rfl, fun U hU hW => ⟨rfl, xb_atS hAt hS hA0 hU hW, by rw [hU]; exact hP.sub (ws' := [(h0, .inr (0, [.ref ta, .ref ra, .int wet, .int less, .ref px, .ref py, .int pn, .ref qx, .ref qy, .int qn, .ref ml]))]) [0] rfl⟩⟩ rfl rfl hl.1 rfl (lv_room (Nat.le_of_ble_eq_true rfl)) dL_set_3 ⟨Nat.le_of_ble_eq_true rfl, Nat.le_of_ble_eq_true rfl⟩) hown htab rfl (by decide) rfl (by decide) (hts _ xk_283) (hts _ xk_365) hc9 hno9 (va_Nw.use rfl (xa_cst E hAt xk_376)) (fun q9 H hz9 hk9 => ?_)
    have hP := xw_P hP hk9
    have hS := xw_S hS hz9 hk9
    refine W.widen (k := 1) (n := 6) (by omega) (by omega) ?_
    refine lv_astore_n (lv' := [(3, .ref q9), (0, .ref h0), (1, .int what), (2, .int pct)]) hx hb dL_set_12 rfl hl (by decide) rfl (fun ls hl => ?_)
    refine lv_iconst (v := 2) hx hb dL_set_13 (by decide) ?_
    have e_0 : gL_set wet less what pct = (2 : Int32) := (if_neg c_1).trans ((if_pos c_2).trans (rfl))
    have e_1 : gL_set_2 wet less what pct = wet := (if_neg c_1).trans ((if_pos c_2).trans (rfl))
    have e_2 : gL_set_3 wet less what pct = less := (if_neg c_1).trans ((if_pos c_2).trans (rfl))
    have hP9 := hP.sub (ws' := [(h0, .inr (0, [.ref ta, .ref ra, .int wet, .int less, .ref px, .ref py, .int pn, .ref qx, .ref qy, .int qn, .ref ml]))]) [0] rfl
    have hD9 := hD.sub (ws' := [(h0, .inr (0, [.ref ta, .ref ra, .int wet, .int less, .ref px, .ref py, .int pn, .ref qx, .ref qy, .int qn, .ref ml]))]) [0] (by decide) rfl
    refine W.widen (k := 1) (n := 6) (by omega) (by omega) ?_
    exact W.iret (v := 2) hx hb hr (fun t ht hW => ⟨_, _, rfl, ⟨by rw [e_0]; try rfl, by rw [e_1, e_2]⟩, by rw [ht]; exact hP9, hD9, hS.F ht⟩) hS.2.2 dL_set_14
  by_cases c_3 : ¬ what = 0 ∧ (pct.toInt64 < 0 ∨ ¬ pct.toInt64 ≤ 100)
  · obtain ⟨c9, hc9, hno9⟩ := xc_nc_IA_IO E hAt
    refine xw_c2 (xt_runV (Cr := "NailRules") (As := [.int what, .int pct]) (rest := []) ⟨hx, hb, hml, hown, hts⟩ (cN_set_x3 l E h0 ([.ref ta, .ref ra, .int wet, .int less, .ref px, .ref py, .int pn, .ref qx, .ref qy, .int qn, .ref ml]) what pct (xh_1 c_1) (xh_2 c_1) (c_3.1) (c_3.2)) (cwV 2 hts (xb_gi (List.forall_mem_cons.mpr ⟨xk_366, List.forall_mem_cons.mpr ⟨xk_367, List.forall_mem_cons.mpr ⟨xk_368, List.forall_mem_cons.mpr ⟨xk_40, List.forall_mem_cons.mpr ⟨xk_369, fun _ h => absurd h List.not_mem_nil⟩⟩⟩⟩⟩)) rfl rfl rfl (by decide +kernel) ⟨Nat.le_of_ble_eq_true rfl, Nat.le_of_ble_eq_true rfl⟩) ⟨fun _ _ _ _ q => q, va_recv hK hP (ci := 0) (q0 := 0) rfl rfl, fun U hU hW => ⟨rfl, xb_atS hAt hS hA0 hU hW, by rw [hU]; exact hP.sub (ws' := [(h0, .inr (0, [.ref ta, .ref ra, .int wet, .int less, .ref px, .ref py, .int pn, .ref qx, .ref qy, .int qn, .ref ml]))]) [0] rfl⟩⟩ rfl rfl hl.1 rfl (lv_room (Nat.le_of_ble_eq_true rfl)) dL_set_3 ⟨Nat.le_of_ble_eq_true rfl, Nat.le_of_ble_eq_true rfl⟩) hown htab rfl (by decide) rfl (by decide) (hts _ xk_283) (hts _ xk_365) hc9 hno9 (va_Nw.use rfl (xa_cst E hAt xk_376)) (fun q9 H hz9 hk9 => ?_)
    have hP := xw_P hP hk9
    have hS := xw_S hS hz9 hk9
    refine W.widen (k := 1) (n := 6) (by omega) (by omega) ?_
    refine lv_astore_n (lv' := [(3, .ref q9), (0, .ref h0), (1, .int what), (2, .int pct)]) hx hb dL_set_12 rfl hl (by decide) rfl (fun ls hl => ?_)
    refine lv_iconst (v := 2) hx hb dL_set_13 (by decide) ?_
    have e_0 : gL_set wet less what pct = (2 : Int32) := (if_neg c_1).trans ((if_neg c_2).trans ((if_pos c_3).trans (rfl)))
    have e_1 : gL_set_2 wet less what pct = wet := (if_neg c_1).trans ((if_neg c_2).trans ((if_pos c_3).trans (rfl)))
    have e_2 : gL_set_3 wet less what pct = less := (if_neg c_1).trans ((if_neg c_2).trans ((if_pos c_3).trans (rfl)))
    have hP9 := hP.sub (ws' := [(h0, .inr (0, [.ref ta, .ref ra, .int wet, .int less, .ref px, .ref py, .int pn, .ref qx, .ref qy, .int qn, .ref ml]))]) [0] rfl
    have hD9 := hD.sub (ws' := [(h0, .inr (0, [.ref ta, .ref ra, .int wet, .int less, .ref px, .ref py, .int pn, .ref qx, .ref qy, .int qn, .ref ml]))]) [0] (by decide) rfl
    refine W.widen (k := 1) (n := 6) (by omega) (by omega) ?_
    exact W.iret (v := 2) hx hb hr (fun t ht hW => ⟨_, _, rfl, ⟨by rw [e_0]; try rfl, by rw [e_1, e_2]⟩, by rw [ht]; exact hP9, hD9, hS.F ht⟩) hS.2.2 dL_set_14
  refine xb_wr (wr := []) (va_runV (C := "NailRules") (As := [.int what, .int pct]) (rest := []) ⟨hx, hb, hml, hown, hts⟩ (cN_set l E _ h0 ta ra wet less px py pn qx qy qn ml what pct (xh_1 c_1) (xh_2 c_1) (xh_s1 c_2 c_3) (xh_s2 c_2 c_3)) (cwV 2 hts (xb_gi (List.forall_mem_cons.mpr ⟨xk_366, List.forall_mem_cons.mpr ⟨xk_367, List.forall_mem_cons.mpr ⟨xk_368, List.forall_mem_cons.mpr ⟨xk_40, List.forall_mem_cons.mpr ⟨xk_369, fun _ h => absurd h List.not_mem_nil⟩⟩⟩⟩⟩)) rfl rfl rfl (by decide +kernel) ⟨Nat.le_of_ble_eq_true rfl, Nat.le_of_ble_eq_true rfl⟩) ⟨fun _ _ _ _ q => q, va_recv hK hP (ci := 0) (q0 := 0) rfl rfl, fun U hU hW => ⟨rfl, xb_atS hAt hS hA0 hU hW, by rw [hU], by rw [hU]; exact hP.sub (ws' := [(h0, .inr (0, [.ref ta, .ref ra, .int wet, .int less, .ref px, .ref py, .int pn, .ref qx, .ref qy, .int qn, .ref ml]))]) [0] rfl, (hD.sub (ws' := [(h0, .inr (0, [.ref ta, .ref ra, .int wet, .int less, .ref px, .ref py, .int pn, .ref qx, .ref qy, .int qn, .ref ml]))]) [0] (by decide) rfl).weaken (fun _ q _ h => hA0 q.1 h)⟩⟩ rfl rfl hl.1 rfl (lv_room (Nat.le_of_ble_eq_true rfl)) dL_set_3 ⟨Nat.le_of_ble_eq_true rfl, Nat.le_of_ble_eq_true rfl⟩) hP hD hS hA [0] [] rfl rfl (by decide) (by decide) ?_
  rintro _ _ H locs ⟨rfl, rfl⟩ hP hD hS
  have hP : va_P (dC, dI) classes [(h0, .inr (0, [.ref ta, .ref ra, .int (gN_set_2 wet less what pct), .int (gN_set_3 wet less what pct), .ref px, .ref py, .int pn, .ref qx, .ref qy, .int qn, .ref ml]))] H := hP
  have hD : va_D A [(h0, .inr (0, [.ref ta, .ref ra, .int (gN_set_2 wet less what pct), .int (gN_set_3 wet less what pct), .ref px, .ref py, .int pn, .ref qx, .ref qy, .int qn, .ref ml]))] := hD
  refine lv_goto (tgt := 15) hx hb dL_set_6 (by decide) ?_
  refine lv_iconst (v := 0) hx hb dL_set_15 (by decide) ?_
  have e_0 : gL_set wet less what pct = (0 : Int32) := (if_neg c_1).trans ((if_neg c_2).trans ((if_neg c_3).trans (rfl)))
  have e_1 : gL_set_2 wet less what pct = (gN_set_2 wet less what pct) := (if_neg c_1).trans ((if_neg c_2).trans ((if_neg c_3).trans (rfl)))
  have e_2 : gL_set_3 wet less what pct = (gN_set_3 wet less what pct) := (if_neg c_1).trans ((if_neg c_2).trans ((if_neg c_3).trans (rfl)))
  have hP9 := hP.sub (ws' := [(h0, .inr (0, [.ref ta, .ref ra, .int (gN_set_2 wet less what pct), .int (gN_set_3 wet less what pct), .ref px, .ref py, .int pn, .ref qx, .ref qy, .int qn, .ref ml]))]) [0] rfl
  have hD9 := hD.sub (ws' := [(h0, .inr (0, [.ref ta, .ref ra, .int (gN_set_2 wet less what pct), .int (gN_set_3 wet less what pct), .ref px, .ref py, .int pn, .ref qx, .ref qy, .int qn, .ref ml]))]) [0] (by decide) rfl
  refine W.widen (k := 1) (n := 6) (by omega) (by omega) ?_
  exact W.iret (v := 0) hx hb hr (fun t ht hW => ⟨_, _, rfl, ⟨by rw [e_0]; try rfl, by rw [e_1, e_2]⟩, by rw [ht]; exact hP9, hD9, hS.F ht⟩) hS.2.2 dL_set_16

def gL_holds (rf : Nat → Int32) (wet : Int32) (kind : Int32) (a : Int32) (b : Int32) (angle : Int32) (part : Int32) (of : Nat → Int64) : Int32 := if kind < 0 ∨ ¬ kind < 4 then ((1)) else (if part < 0 ∨ ¬ part < 2 then ((1)) else (if a.toInt64 < 1 ∨ ¬ a.toInt64 ≤ 1000 then ((2)) else (if b.toInt64 < 1 ∨ ¬ b.toInt64 ≤ 1000 then ((2)) else (if angle.toInt64 < 0 ∨ ¬ angle.toInt64 ≤ 90 then ((2)) else ((0))))))
def gL_holds_f (rf : Nat → Int32) (wet : Int32) (kind : Int32) (a : Int32) (b : Int32) (angle : Int32) (part : Int32) (of : Nat → Int64) : Nat → Int64 := if kind < 0 ∨ ¬ kind < 4 then (of) else (if part < 0 ∨ ¬ part < 2 then (of) else (if a.toInt64 < 1 ∨ ¬ a.toInt64 ≤ 1000 then (of) else (if b.toInt64 < 1 ∨ ¬ b.toInt64 ≤ 1000 then (of) else (if angle.toInt64 < 0 ∨ ¬ angle.toInt64 ≤ 90 then (of) else (vp_updL of (0 : Int32).toNatClampNeg (fN_holds rf wet kind a b angle part))))))
set_option maxHeartbeats 4000000 in
set_option maxRecDepth 100000 in
theorem cL_holds (l : Launch) {s0 : State} {dC : Nat → ClassId} {dI : Nat → Nat → Nat} {cI cC cL cO : ClassId} (E : xb_Env l s0 dC dI (xtys cI cC cL cO)) (sz : Nat) (h0 : Nat) (ra : Nat) (oa : Nat) (ta : Nat) (wet : Int32) (less : Int32) (px : Nat) (py : Nat) (pn : Int32) (qx : Nat) (qy : Nat) (qn : Int32) (ml : Nat) (rf : Nat → Int32) (of : Nat → Int64) (kind : Int32) (a : Int32) (b : Int32) (angle : Int32) (part : Int32) : Met l yL_holds [.codeWith yL_holds bL_holds 8 (some (.int)) [(0, 15, 18, 13), (0, 15, 22, 19)]] ({ frames := 8, cells := 1, slots := 6, locals := 135 }) (va_Pc [.ref h0, .int kind, .int a, .int b, .int angle, .int part, .ref oa] (fun U => xb_At s0 U ∧ U.heap.size = sz ∧ va_P (dC, dI) classes [(h0, .inr (0, [.ref ta, .ref ra, .int wet, .int less, .ref px, .ref py, .int pn, .ref qx, .ref qy, .int qn, .ref ml])), (ra, .inl (cI, 28, .inl rf)), (oa, .inl (cL, 1, .inr (.inl of)))] U.heap ∧ va_D (fun q => s0.heap.size ≤ q) [(h0, .inr (0, [.ref ta, .ref ra, .int wet, .int less, .ref px, .ref py, .int pn, .ref qx, .ref qy, .int qn, .ref ml])), (ra, .inl (cI, 28, .inl rf)), (oa, .inl (cL, 1, .inr (.inl of)))])) (xb_W (dC, dI) (fun v9 w9 => v9 = some (.int (gL_holds rf wet kind a b angle part of)) ∧ w9 = [(h0, .inr (0, [.ref ta, .ref ra, .int wet, .int less, .ref px, .ref py, .int pn, .ref qx, .ref qy, .int qn, .ref ml])), (ra, .inl (cI, 28, .inl rf)), (oa, .inl (cL, 1, .inr (.inl (gL_holds_f rf wet kind a b angle part of))))]) (va_A [(h0, .inr (0, [.ref ta, .ref ra, .int wet, .int less, .ref px, .ref py, .int pn, .ref qx, .ref qy, .int qn, .ref ml])), (ra, .inl (cI, 28, .inl rf)), (oa, .inl (cL, 1, .inr (.inl of)))] sz)) 1 6 (va_A [(h0, .inr (0, [.ref ta, .ref ra, .int wet, .int less, .ref px, .ref py, .int pn, .ref qx, .ref qy, .int qn, .ref ml])), (ra, .inl (cI, 28, .inl rf)), (oa, .inl (cL, 1, .inr (.inl of)))] sz) := by
  refine xw_ofW (cc := bL_holds) (maxL := 8) (ret := (some (.int))) (hs := [(0, 15, 18, 13), (0, 15, 22, 19)]) (by decide) rfl ?_
  intro p e s m args below meth c s₁ B hml htab hv
  obtain ⟨rfl, hAt, hsz, hP, hD0⟩ := hv
  have hx := B.exec
  have hb := B.bytes
  have hr := B.returns
  have hts := xb_hts E hAt ([.ref h0, .int kind, .int a, .int b, .int angle, .int part, .ref oa] : List Value).toArray
  have hown : s.vm.findClass "NailRulesLaw" = some m.cls := findClass_of_methodNamed B.named
  have hlocks := B.notSynchronized
  have hK := xb_K E hAt
  subst hsz
  have hA0 := xb_A0 hAt hD0
  have hD := hD0.self (sz := s.heap.size)
  generalize hAe : va_A [(h0, .inr (0, [.ref ta, .ref ra, .int wet, .int less, .ref px, .ref py, .int pn, .ref qx, .ref qy, .int qn, .ref ml])), (ra, .inl (cI, 28, .inl rf)), (oa, .inl (cL, 1, .inr (.inl of)))] s.heap.size = A at hD hA0 ⊢
  have hA : ∀ q : Nat, s.heap.size ≤ q → A q := fun q h => by rw [← hAe]; exact Or.inr h
  have hS : va_S A s.heap s.heap [] := va_S.rf
  have hl := lv_entry ([.ref h0, .int kind, .int a, .int b, .int angle, .int part, .ref oa]) (n := 8) (Nat.le_of_ble_eq_true rfl)
  rw [lg_entry_eq]
  generalize (lg_sl ([.ref h0, .int kind, .int a, .int b, .int angle, .int part, .ref oa]) ++ List.replicate (8 - (lg_sl ([.ref h0, .int kind, .int a, .int b, .int angle, .int part, .ref oa])).length) Slot.unset).toArray = ls at hl ⊢
  have hl : lv_has ls 8 [(0, .ref h0), (1, .int kind), (2, .int a), (3, .int b), (4, .int angle), (5, .int part), (6, .ref oa)] := hl
  refine lv_aload hx hb dL_holds_0 (lv_at hl 6 rfl) ?_
  refine lv_iconst (v := 0) hx hb dL_holds_2 (by decide) ?_
  refine lv_aload_n hx hb dL_holds_3 rfl (lv_at hl 0 rfl) ?_
  refine lv_iload_n hx hb dL_holds_4 rfl (lv_at hl 1 rfl) ?_
  refine lv_iload_n hx hb dL_holds_5 rfl (lv_at hl 2 rfl) ?_
  refine lv_iload_n hx hb dL_holds_6 rfl (lv_at hl 3 rfl) ?_
  refine lv_iload hx hb dL_holds_7 (lv_at hl 4 rfl) ?_
  refine lv_iload hx hb dL_holds_9 (lv_at hl 5 rfl) ?_
  by_cases c_1 : kind < 0 ∨ ¬ kind < 4
  · refine xw_c1 (xt_runV (Cr := "NailRules") (As := [.int kind, .int a, .int b, .int angle, .int part]) (rest := [.int 0, .ref oa]) ⟨hx, hb, hml, hown, hts⟩ (cN_holds_x1 l E h0 ([.ref ta, .ref ra, .int wet, .int less, .ref px, .ref py, .int pn, .ref qx, .ref qy, .int qn, .ref ml]) kind a b angle part (c_1)) (cwV 5 hts (xb_gi (List.forall_mem_cons.mpr ⟨xk_393, List.forall_mem_cons.mpr ⟨xk_394, List.forall_mem_cons.mpr ⟨xk_395, List.forall_mem_cons.mpr ⟨xk_40, List.forall_mem_cons.mpr ⟨xk_396, fun _ h => absurd h List.not_mem_nil⟩⟩⟩⟩⟩)) rfl rfl rfl (by decide +kernel) ⟨Nat.le_of_ble_eq_true rfl, Nat.le_of_ble_eq_true rfl⟩) ⟨fun _ _ _ _ q => q, va_recv hK hP (ci := 0) (q0 := 0) rfl rfl, fun U hU hW => ⟨rfl, xb_atS hAt hS hA0 hU hW, by rw [hU]; exact hP.sub (ws' := [(h0, .inr (0, [.ref ta, .ref ra, .int wet, .int less, .ref px, .ref py, .int pn, .ref qx, .ref qy, .int qn, .ref ml]))]) [0] rfl⟩⟩ rfl rfl hl.1 rfl (lv_room (Nat.le_of_ble_eq_true rfl)) dL_holds_11 ⟨Nat.le_of_ble_eq_true rfl, Nat.le_of_ble_eq_true rfl⟩) hown htab rfl (by decide) (hts _ xk_283) (va_Nw.use rfl (xa_cst E hAt xk_293)) (fun q9 H hz9 hk9 => ?_)
    have hP := xw_P hP hk9
    have hS := xw_S hS hz9 hk9
    refine W.widen (k := 1) (n := 6) (by omega) (by omega) ?_
    refine lv_astore (lv' := [(7, .ref q9), (0, .ref h0), (1, .int kind), (2, .int a), (3, .int b), (4, .int angle), (5, .int part), (6, .ref oa)]) hx hb dL_holds_18 hl (by decide) rfl (fun ls hl => ?_)
    refine lv_iconst (v := 1) hx hb dL_holds_20 (by decide) ?_
    have e_0 : gL_holds rf wet kind a b angle part of = (1 : Int32) := (if_pos c_1).trans (rfl)
    have e_1 : gL_holds_f rf wet kind a b angle part of = of := (if_pos c_1).trans (rfl)
    have hP9 := hP.sub (ws' := [(h0, .inr (0, [.ref ta, .ref ra, .int wet, .int less, .ref px, .ref py, .int pn, .ref qx, .ref qy, .int qn, .ref ml])), (ra, .inl (cI, 28, .inl rf)), (oa, .inl (cL, 1, .inr (.inl of)))]) [0, 1, 2] rfl
    have hD9 := hD.sub (ws' := [(h0, .inr (0, [.ref ta, .ref ra, .int wet, .int less, .ref px, .ref py, .int pn, .ref qx, .ref qy, .int qn, .ref ml])), (ra, .inl (cI, 28, .inl rf)), (oa, .inl (cL, 1, .inr (.inl of)))]) [0, 1, 2] (by decide) rfl
    refine W.widen (k := 1) (n := 6) (by omega) (by omega) ?_
    exact W.iret (v := 1) hx hb hr (fun t ht hW => ⟨_, _, rfl, ⟨by rw [e_0]; try rfl, by rw [e_1]⟩, by rw [ht]; exact hP9, hD9, hS.F ht⟩) hS.2.2 dL_holds_21
  by_cases c_2 : part < 0 ∨ ¬ part < 2
  · refine xw_c1 (xt_runV (Cr := "NailRules") (As := [.int kind, .int a, .int b, .int angle, .int part]) (rest := [.int 0, .ref oa]) ⟨hx, hb, hml, hown, hts⟩ (cN_holds_x2 l E h0 ([.ref ta, .ref ra, .int wet, .int less, .ref px, .ref py, .int pn, .ref qx, .ref qy, .int qn, .ref ml]) kind a b angle part (xh_1 c_1) (xh_2 c_1) (c_2)) (cwV 5 hts (xb_gi (List.forall_mem_cons.mpr ⟨xk_393, List.forall_mem_cons.mpr ⟨xk_394, List.forall_mem_cons.mpr ⟨xk_395, List.forall_mem_cons.mpr ⟨xk_40, List.forall_mem_cons.mpr ⟨xk_396, fun _ h => absurd h List.not_mem_nil⟩⟩⟩⟩⟩)) rfl rfl rfl (by decide +kernel) ⟨Nat.le_of_ble_eq_true rfl, Nat.le_of_ble_eq_true rfl⟩) ⟨fun _ _ _ _ q => q, va_recv hK hP (ci := 0) (q0 := 0) rfl rfl, fun U hU hW => ⟨rfl, xb_atS hAt hS hA0 hU hW, by rw [hU]; exact hP.sub (ws' := [(h0, .inr (0, [.ref ta, .ref ra, .int wet, .int less, .ref px, .ref py, .int pn, .ref qx, .ref qy, .int qn, .ref ml]))]) [0] rfl⟩⟩ rfl rfl hl.1 rfl (lv_room (Nat.le_of_ble_eq_true rfl)) dL_holds_11 ⟨Nat.le_of_ble_eq_true rfl, Nat.le_of_ble_eq_true rfl⟩) hown htab rfl (by decide) (hts _ xk_283) (va_Nw.use rfl (xa_cst E hAt xk_293)) (fun q9 H hz9 hk9 => ?_)
    have hP := xw_P hP hk9
    have hS := xw_S hS hz9 hk9
    refine W.widen (k := 1) (n := 6) (by omega) (by omega) ?_
    refine lv_astore (lv' := [(7, .ref q9), (0, .ref h0), (1, .int kind), (2, .int a), (3, .int b), (4, .int angle), (5, .int part), (6, .ref oa)]) hx hb dL_holds_18 hl (by decide) rfl (fun ls hl => ?_)
    refine lv_iconst (v := 1) hx hb dL_holds_20 (by decide) ?_
    have e_0 : gL_holds rf wet kind a b angle part of = (1 : Int32) := (if_neg c_1).trans ((if_pos c_2).trans (rfl))
    have e_1 : gL_holds_f rf wet kind a b angle part of = of := (if_neg c_1).trans ((if_pos c_2).trans (rfl))
    have hP9 := hP.sub (ws' := [(h0, .inr (0, [.ref ta, .ref ra, .int wet, .int less, .ref px, .ref py, .int pn, .ref qx, .ref qy, .int qn, .ref ml])), (ra, .inl (cI, 28, .inl rf)), (oa, .inl (cL, 1, .inr (.inl of)))]) [0, 1, 2] rfl
    have hD9 := hD.sub (ws' := [(h0, .inr (0, [.ref ta, .ref ra, .int wet, .int less, .ref px, .ref py, .int pn, .ref qx, .ref qy, .int qn, .ref ml])), (ra, .inl (cI, 28, .inl rf)), (oa, .inl (cL, 1, .inr (.inl of)))]) [0, 1, 2] (by decide) rfl
    refine W.widen (k := 1) (n := 6) (by omega) (by omega) ?_
    exact W.iret (v := 1) hx hb hr (fun t ht hW => ⟨_, _, rfl, ⟨by rw [e_0]; try rfl, by rw [e_1]⟩, by rw [ht]; exact hP9, hD9, hS.F ht⟩) hS.2.2 dL_holds_21
  by_cases c_3 : a.toInt64 < 1 ∨ ¬ a.toInt64 ≤ 1000
  · obtain ⟨c9, hc9, hno9⟩ := xc_nc_IA_IO E hAt
    refine xw_c2 (xt_runV (Cr := "NailRules") (As := [.int kind, .int a, .int b, .int angle, .int part]) (rest := [.int 0, .ref oa]) ⟨hx, hb, hml, hown, hts⟩ (cN_holds_x3 l E h0 ([.ref ta, .ref ra, .int wet, .int less, .ref px, .ref py, .int pn, .ref qx, .ref qy, .int qn, .ref ml]) kind a b angle part (xh_1 c_1) (xh_2 c_1) (xh_1 c_2) (xh_2 c_2) (c_3)) (cwV 5 hts (xb_gi (List.forall_mem_cons.mpr ⟨xk_393, List.forall_mem_cons.mpr ⟨xk_394, List.forall_mem_cons.mpr ⟨xk_395, List.forall_mem_cons.mpr ⟨xk_40, List.forall_mem_cons.mpr ⟨xk_396, fun _ h => absurd h List.not_mem_nil⟩⟩⟩⟩⟩)) rfl rfl rfl (by decide +kernel) ⟨Nat.le_of_ble_eq_true rfl, Nat.le_of_ble_eq_true rfl⟩) ⟨fun _ _ _ _ q => q, va_recv hK hP (ci := 0) (q0 := 0) rfl rfl, fun U hU hW => ⟨rfl, xb_atS hAt hS hA0 hU hW, by rw [hU]; exact hP.sub (ws' := [(h0, .inr (0, [.ref ta, .ref ra, .int wet, .int less, .ref px, .ref py, .int pn, .ref qx, .ref qy, .int qn, .ref ml]))]) [0] rfl⟩⟩ rfl rfl hl.1 rfl (lv_room (Nat.le_of_ble_eq_true rfl)) dL_holds_11 ⟨Nat.le_of_ble_eq_true rfl, Nat.le_of_ble_eq_true rfl⟩) hown htab rfl (by decide) rfl (by decide) (hts _ xk_283) (hts _ xk_365) hc9 hno9 (va_Nw.use rfl (xa_cst E hAt xk_376)) (fun q9 H hz9 hk9 => ?_)
    have hP := xw_P hP hk9
    have hS := xw_S hS hz9 hk9
    refine W.widen (k := 1) (n := 6) (by omega) (by omega) ?_
    refine lv_astore (lv' := [(7, .ref q9), (0, .ref h0), (1, .int kind), (2, .int a), (3, .int b), (4, .int angle), (5, .int part), (6, .ref oa)]) hx hb dL_holds_22 hl (by decide) rfl (fun ls hl => ?_)
    refine lv_iconst (v := 2) hx hb dL_holds_24 (by decide) ?_
    have e_0 : gL_holds rf wet kind a b angle part of = (2 : Int32) := (if_neg c_1).trans ((if_neg c_2).trans ((if_pos c_3).trans (rfl)))
    have e_1 : gL_holds_f rf wet kind a b angle part of = of := (if_neg c_1).trans ((if_neg c_2).trans ((if_pos c_3).trans (rfl)))
    have hP9 := hP.sub (ws' := [(h0, .inr (0, [.ref ta, .ref ra, .int wet, .int less, .ref px, .ref py, .int pn, .ref qx, .ref qy, .int qn, .ref ml])), (ra, .inl (cI, 28, .inl rf)), (oa, .inl (cL, 1, .inr (.inl of)))]) [0, 1, 2] rfl
    have hD9 := hD.sub (ws' := [(h0, .inr (0, [.ref ta, .ref ra, .int wet, .int less, .ref px, .ref py, .int pn, .ref qx, .ref qy, .int qn, .ref ml])), (ra, .inl (cI, 28, .inl rf)), (oa, .inl (cL, 1, .inr (.inl of)))]) [0, 1, 2] (by decide) rfl
    refine W.widen (k := 1) (n := 6) (by omega) (by omega) ?_
    exact W.iret (v := 2) hx hb hr (fun t ht hW => ⟨_, _, rfl, ⟨by rw [e_0]; try rfl, by rw [e_1]⟩, by rw [ht]; exact hP9, hD9, hS.F ht⟩) hS.2.2 dL_holds_25
  by_cases c_4 : b.toInt64 < 1 ∨ ¬ b.toInt64 ≤ 1000
  · obtain ⟨c9, hc9, hno9⟩ := xc_nc_IA_IO E hAt
    refine xw_c2 (xt_runV (Cr := "NailRules") (As := [.int kind, .int a, .int b, .int angle, .int part]) (rest := [.int 0, .ref oa]) ⟨hx, hb, hml, hown, hts⟩ (cN_holds_x4 l E h0 ([.ref ta, .ref ra, .int wet, .int less, .ref px, .ref py, .int pn, .ref qx, .ref qy, .int qn, .ref ml]) kind a b angle part (xh_1 c_1) (xh_2 c_1) (xh_1 c_2) (xh_2 c_2) (xh_1 c_3) (xh_2 c_3) (c_4)) (cwV 5 hts (xb_gi (List.forall_mem_cons.mpr ⟨xk_393, List.forall_mem_cons.mpr ⟨xk_394, List.forall_mem_cons.mpr ⟨xk_395, List.forall_mem_cons.mpr ⟨xk_40, List.forall_mem_cons.mpr ⟨xk_396, fun _ h => absurd h List.not_mem_nil⟩⟩⟩⟩⟩)) rfl rfl rfl (by decide +kernel) ⟨Nat.le_of_ble_eq_true rfl, Nat.le_of_ble_eq_true rfl⟩) ⟨fun _ _ _ _ q => q, va_recv hK hP (ci := 0) (q0 := 0) rfl rfl, fun U hU hW => ⟨rfl, xb_atS hAt hS hA0 hU hW, by rw [hU]; exact hP.sub (ws' := [(h0, .inr (0, [.ref ta, .ref ra, .int wet, .int less, .ref px, .ref py, .int pn, .ref qx, .ref qy, .int qn, .ref ml]))]) [0] rfl⟩⟩ rfl rfl hl.1 rfl (lv_room (Nat.le_of_ble_eq_true rfl)) dL_holds_11 ⟨Nat.le_of_ble_eq_true rfl, Nat.le_of_ble_eq_true rfl⟩) hown htab rfl (by decide) rfl (by decide) (hts _ xk_283) (hts _ xk_365) hc9 hno9 (va_Nw.use rfl (xa_cst E hAt xk_376)) (fun q9 H hz9 hk9 => ?_)
    have hP := xw_P hP hk9
    have hS := xw_S hS hz9 hk9
    refine W.widen (k := 1) (n := 6) (by omega) (by omega) ?_
    refine lv_astore (lv' := [(7, .ref q9), (0, .ref h0), (1, .int kind), (2, .int a), (3, .int b), (4, .int angle), (5, .int part), (6, .ref oa)]) hx hb dL_holds_22 hl (by decide) rfl (fun ls hl => ?_)
    refine lv_iconst (v := 2) hx hb dL_holds_24 (by decide) ?_
    have e_0 : gL_holds rf wet kind a b angle part of = (2 : Int32) := (if_neg c_1).trans ((if_neg c_2).trans ((if_neg c_3).trans ((if_pos c_4).trans (rfl))))
    have e_1 : gL_holds_f rf wet kind a b angle part of = of := (if_neg c_1).trans ((if_neg c_2).trans ((if_neg c_3).trans ((if_pos c_4).trans (rfl))))
    have hP9 := hP.sub (ws' := [(h0, .inr (0, [.ref ta, .ref ra, .int wet, .int less, .ref px, .ref py, .int pn, .ref qx, .ref qy, .int qn, .ref ml])), (ra, .inl (cI, 28, .inl rf)), (oa, .inl (cL, 1, .inr (.inl of)))]) [0, 1, 2] rfl
    have hD9 := hD.sub (ws' := [(h0, .inr (0, [.ref ta, .ref ra, .int wet, .int less, .ref px, .ref py, .int pn, .ref qx, .ref qy, .int qn, .ref ml])), (ra, .inl (cI, 28, .inl rf)), (oa, .inl (cL, 1, .inr (.inl of)))]) [0, 1, 2] (by decide) rfl
    refine W.widen (k := 1) (n := 6) (by omega) (by omega) ?_
    exact W.iret (v := 2) hx hb hr (fun t ht hW => ⟨_, _, rfl, ⟨by rw [e_0]; try rfl, by rw [e_1]⟩, by rw [ht]; exact hP9, hD9, hS.F ht⟩) hS.2.2 dL_holds_25
  by_cases c_5 : angle.toInt64 < 0 ∨ ¬ angle.toInt64 ≤ 90
  · obtain ⟨c9, hc9, hno9⟩ := xc_nc_IA_IO E hAt
    refine xw_c2 (xt_runV (Cr := "NailRules") (As := [.int kind, .int a, .int b, .int angle, .int part]) (rest := [.int 0, .ref oa]) ⟨hx, hb, hml, hown, hts⟩ (cN_holds_x5 l E h0 ([.ref ta, .ref ra, .int wet, .int less, .ref px, .ref py, .int pn, .ref qx, .ref qy, .int qn, .ref ml]) kind a b angle part (xh_1 c_1) (xh_2 c_1) (xh_1 c_2) (xh_2 c_2) (xh_1 c_3) (xh_2 c_3) (xh_1 c_4) (xh_2 c_4) (c_5)) (cwV 5 hts (xb_gi (List.forall_mem_cons.mpr ⟨xk_393, List.forall_mem_cons.mpr ⟨xk_394, List.forall_mem_cons.mpr ⟨xk_395, List.forall_mem_cons.mpr ⟨xk_40, List.forall_mem_cons.mpr ⟨xk_396, fun _ h => absurd h List.not_mem_nil⟩⟩⟩⟩⟩)) rfl rfl rfl (by decide +kernel) ⟨Nat.le_of_ble_eq_true rfl, Nat.le_of_ble_eq_true rfl⟩) ⟨fun _ _ _ _ q => q, va_recv hK hP (ci := 0) (q0 := 0) rfl rfl, fun U hU hW => ⟨rfl, xb_atS hAt hS hA0 hU hW, by rw [hU]; exact hP.sub (ws' := [(h0, .inr (0, [.ref ta, .ref ra, .int wet, .int less, .ref px, .ref py, .int pn, .ref qx, .ref qy, .int qn, .ref ml]))]) [0] rfl⟩⟩ rfl rfl hl.1 rfl (lv_room (Nat.le_of_ble_eq_true rfl)) dL_holds_11 ⟨Nat.le_of_ble_eq_true rfl, Nat.le_of_ble_eq_true rfl⟩) hown htab rfl (by decide) rfl (by decide) (hts _ xk_283) (hts _ xk_365) hc9 hno9 (va_Nw.use rfl (xa_cst E hAt xk_376)) (fun q9 H hz9 hk9 => ?_)
    have hP := xw_P hP hk9
    have hS := xw_S hS hz9 hk9
    refine W.widen (k := 1) (n := 6) (by omega) (by omega) ?_
    refine lv_astore (lv' := [(7, .ref q9), (0, .ref h0), (1, .int kind), (2, .int a), (3, .int b), (4, .int angle), (5, .int part), (6, .ref oa)]) hx hb dL_holds_22 hl (by decide) rfl (fun ls hl => ?_)
    refine lv_iconst (v := 2) hx hb dL_holds_24 (by decide) ?_
    have e_0 : gL_holds rf wet kind a b angle part of = (2 : Int32) := (if_neg c_1).trans ((if_neg c_2).trans ((if_neg c_3).trans ((if_neg c_4).trans ((if_pos c_5).trans (rfl)))))
    have e_1 : gL_holds_f rf wet kind a b angle part of = of := (if_neg c_1).trans ((if_neg c_2).trans ((if_neg c_3).trans ((if_neg c_4).trans ((if_pos c_5).trans (rfl)))))
    have hP9 := hP.sub (ws' := [(h0, .inr (0, [.ref ta, .ref ra, .int wet, .int less, .ref px, .ref py, .int pn, .ref qx, .ref qy, .int qn, .ref ml])), (ra, .inl (cI, 28, .inl rf)), (oa, .inl (cL, 1, .inr (.inl of)))]) [0, 1, 2] rfl
    have hD9 := hD.sub (ws' := [(h0, .inr (0, [.ref ta, .ref ra, .int wet, .int less, .ref px, .ref py, .int pn, .ref qx, .ref qy, .int qn, .ref ml])), (ra, .inl (cI, 28, .inl rf)), (oa, .inl (cL, 1, .inr (.inl of)))]) [0, 1, 2] (by decide) rfl
    refine W.widen (k := 1) (n := 6) (by omega) (by omega) ?_
    exact W.iret (v := 2) hx hb hr (fun t ht hW => ⟨_, _, rfl, ⟨by rw [e_0]; try rfl, by rw [e_1]⟩, by rw [ht]; exact hP9, hD9, hS.F ht⟩) hS.2.2 dL_holds_25
  refine xb_rd (W.runV (C := "NailRules") (As := [.int kind, .int a, .int b, .int angle, .int part]) (rest := [.int 0, .ref oa]) ⟨hx, hb, hml, hown, hts⟩ (cN_holds l E h0 ([.ref ta, .ref ra, .int wet, .int less, .ref px, .ref py, .int pn, .ref qx, .ref qy, .int qn, .ref ml]) ra rf wet kind a b angle part rfl rfl (xh_1 c_1) (xh_2 c_1) (xh_1 c_2) (xh_2 c_2) (xh_1 c_3) (xh_2 c_3) (xh_1 c_4) (xh_2 c_4) (xh_1 c_5) (xh_2 c_5) (xh_v c_1 0 (by decide)) (xh_v c_1 1 (by decide))) (cwV 5 hts (xb_gi (List.forall_mem_cons.mpr ⟨xk_393, List.forall_mem_cons.mpr ⟨xk_394, List.forall_mem_cons.mpr ⟨xk_395, List.forall_mem_cons.mpr ⟨xk_40, List.forall_mem_cons.mpr ⟨xk_396, fun _ h => absurd h List.not_mem_nil⟩⟩⟩⟩⟩)) rfl rfl rfl (by decide +kernel) ⟨Nat.le_of_ble_eq_true rfl, Nat.le_of_ble_eq_true rfl⟩) ⟨fun _ _ _ _ q => q, va_recv hK hP (ci := 0) (q0 := 0) rfl rfl, fun U hU hW => ⟨rfl, xb_atS hAt hS hA0 hU hW, by rw [hU]; exact hP.sub (ws' := [(h0, .inr (0, [.ref ta, .ref ra, .int wet, .int less, .ref px, .ref py, .int pn, .ref qx, .ref qy, .int qn, .ref ml])), (ra, .inl (cI, 28, .inl rf))]) [0, 1] rfl⟩⟩ rfl rfl hl.1 rfl (lv_room (Nat.le_of_ble_eq_true rfl)) dL_holds_11 ⟨Nat.zero_le _, Nat.zero_le _⟩) ?_
  have o_6 : vp_in (0 : Int32) 1 := by unfold vp_in; decide
  refine va_last hx hb hK hP hD hS 2 2 rfl rfl o_6 dL_holds_14 (fun H locs hP hD hS => ?_)
  have hP : va_P (dC, dI) classes [(h0, .inr (0, [.ref ta, .ref ra, .int wet, .int less, .ref px, .ref py, .int pn, .ref qx, .ref qy, .int qn, .ref ml])), (ra, .inl (cI, 28, .inl rf)), (oa, .inl (cL, 1, .inr (.inl (vp_updL of (0 : Int32).toNatClampNeg (fN_holds rf wet kind a b angle part)))))] H := hP
  have hD : va_D A [(h0, .inr (0, [.ref ta, .ref ra, .int wet, .int less, .ref px, .ref py, .int pn, .ref qx, .ref qy, .int qn, .ref ml])), (ra, .inl (cI, 28, .inl rf)), (oa, .inl (cL, 1, .inr (.inl (vp_updL of (0 : Int32).toNatClampNeg (fN_holds rf wet kind a b angle part)))))] := hD
  refine lv_goto (tgt := 26) hx hb dL_holds_15 (by decide) ?_
  refine lv_iconst (v := 0) hx hb dL_holds_26 (by decide) ?_
  have e_0 : gL_holds rf wet kind a b angle part of = (0 : Int32) := (if_neg c_1).trans ((if_neg c_2).trans ((if_neg c_3).trans ((if_neg c_4).trans ((if_neg c_5).trans (rfl)))))
  have e_1 : gL_holds_f rf wet kind a b angle part of = (vp_updL of (0 : Int32).toNatClampNeg (fN_holds rf wet kind a b angle part)) := (if_neg c_1).trans ((if_neg c_2).trans ((if_neg c_3).trans ((if_neg c_4).trans ((if_neg c_5).trans (rfl)))))
  have hP9 := hP.sub (ws' := [(h0, .inr (0, [.ref ta, .ref ra, .int wet, .int less, .ref px, .ref py, .int pn, .ref qx, .ref qy, .int qn, .ref ml])), (ra, .inl (cI, 28, .inl rf)), (oa, .inl (cL, 1, .inr (.inl (vp_updL of (0 : Int32).toNatClampNeg (fN_holds rf wet kind a b angle part)))))]) [0, 1, 2] rfl
  have hD9 := hD.sub (ws' := [(h0, .inr (0, [.ref ta, .ref ra, .int wet, .int less, .ref px, .ref py, .int pn, .ref qx, .ref qy, .int qn, .ref ml])), (ra, .inl (cI, 28, .inl rf)), (oa, .inl (cL, 1, .inr (.inl (vp_updL of (0 : Int32).toNatClampNeg (fN_holds rf wet kind a b angle part)))))]) [0, 1, 2] (by decide) rfl
  refine W.widen (k := 1) (n := 6) (by omega) (by omega) ?_
  exact W.iret (v := 0) hx hb hr (fun t ht hW => ⟨_, _, rfl, ⟨by rw [e_0]; try rfl, by rw [e_1]⟩, by rw [ht]; exact hP9, hD9, hS.F ht⟩) hS.2.2 dL_holds_27

def gL_together (less : Int32) (n : Int32) (one : Int64) (of : Nat → Int64) : Int32 := if n.toInt64 < 0 ∨ ¬ n.toInt64 ≤ 1000 then ((1)) else (if one < 0 ∨ ¬ one ≤ 1000000000000 then ((1)) else ((0)))
def gL_together_f (less : Int32) (n : Int32) (one : Int64) (of : Nat → Int64) : Nat → Int64 := if n.toInt64 < 0 ∨ ¬ n.toInt64 ≤ 1000 then (of) else (if one < 0 ∨ ¬ one ≤ 1000000000000 then (of) else (vp_updL of (0 : Int32).toNatClampNeg (fN_together less n one)))
set_option maxHeartbeats 4000000 in
set_option maxRecDepth 100000 in
theorem cL_together (l : Launch) {s0 : State} {dC : Nat → ClassId} {dI : Nat → Nat → Nat} {cI cC cL cO : ClassId} (E : xb_Env l s0 dC dI (xtys cI cC cL cO)) (sz : Nat) (h0 : Nat) (oa : Nat) (ta : Nat) (ra : Nat) (wet : Int32) (less : Int32) (px : Nat) (py : Nat) (pn : Int32) (qx : Nat) (qy : Nat) (qn : Int32) (ml : Nat) (of : Nat → Int64) (n : Int32) (one : Int64) : Met l yL_together [.codeWith yL_together bL_together 6 (some (.int)) [(0, 10, 13, 19)]] ({ frames := 8, cells := 1, slots := 6, locals := 130 }) (va_Pc [.ref h0, .int n, .long one, .ref oa] (fun U => xb_At s0 U ∧ U.heap.size = sz ∧ va_P (dC, dI) classes [(h0, .inr (0, [.ref ta, .ref ra, .int wet, .int less, .ref px, .ref py, .int pn, .ref qx, .ref qy, .int qn, .ref ml])), (oa, .inl (cL, 1, .inr (.inl of)))] U.heap ∧ va_D (fun q => s0.heap.size ≤ q) [(h0, .inr (0, [.ref ta, .ref ra, .int wet, .int less, .ref px, .ref py, .int pn, .ref qx, .ref qy, .int qn, .ref ml])), (oa, .inl (cL, 1, .inr (.inl of)))])) (xb_W (dC, dI) (fun v9 w9 => v9 = some (.int (gL_together less n one of)) ∧ w9 = [(h0, .inr (0, [.ref ta, .ref ra, .int wet, .int less, .ref px, .ref py, .int pn, .ref qx, .ref qy, .int qn, .ref ml])), (oa, .inl (cL, 1, .inr (.inl (gL_together_f less n one of))))]) (va_A [(h0, .inr (0, [.ref ta, .ref ra, .int wet, .int less, .ref px, .ref py, .int pn, .ref qx, .ref qy, .int qn, .ref ml])), (oa, .inl (cL, 1, .inr (.inl of)))] sz)) 1 6 (va_A [(h0, .inr (0, [.ref ta, .ref ra, .int wet, .int less, .ref px, .ref py, .int pn, .ref qx, .ref qy, .int qn, .ref ml])), (oa, .inl (cL, 1, .inr (.inl of)))] sz) := by
  refine xw_ofW (cc := bL_together) (maxL := 6) (ret := (some (.int))) (hs := [(0, 10, 13, 19)]) (by decide) rfl ?_
  intro p e s m args below meth c s₁ B hml htab hv
  obtain ⟨rfl, hAt, hsz, hP, hD0⟩ := hv
  have hx := B.exec
  have hb := B.bytes
  have hr := B.returns
  have hts := xb_hts E hAt ([.ref h0, .int n, .long one, .ref oa] : List Value).toArray
  have hown : s.vm.findClass "NailRulesLaw" = some m.cls := findClass_of_methodNamed B.named
  have hlocks := B.notSynchronized
  have hK := xb_K E hAt
  subst hsz
  have hA0 := xb_A0 hAt hD0
  have hD := hD0.self (sz := s.heap.size)
  generalize hAe : va_A [(h0, .inr (0, [.ref ta, .ref ra, .int wet, .int less, .ref px, .ref py, .int pn, .ref qx, .ref qy, .int qn, .ref ml])), (oa, .inl (cL, 1, .inr (.inl of)))] s.heap.size = A at hD hA0 ⊢
  have hA : ∀ q : Nat, s.heap.size ≤ q → A q := fun q h => by rw [← hAe]; exact Or.inr h
  have hS : va_S A s.heap s.heap [] := va_S.rf
  have hl := lv_entry ([.ref h0, .int n, .long one, .ref oa]) (n := 6) (Nat.le_of_ble_eq_true rfl)
  rw [lg_entry_eq]
  generalize (lg_sl ([.ref h0, .int n, .long one, .ref oa]) ++ List.replicate (6 - (lg_sl ([.ref h0, .int n, .long one, .ref oa])).length) Slot.unset).toArray = ls at hl ⊢
  have hl : lv_has ls 6 [(0, .ref h0), (1, .int n), (2, .long one), (4, .ref oa)] := hl
  refine lv_aload hx hb dL_together_0 (lv_at hl 3 rfl) ?_
  refine lv_iconst (v := 0) hx hb dL_together_2 (by decide) ?_
  refine lv_aload_n hx hb dL_together_3 rfl (lv_at hl 0 rfl) ?_
  refine lv_iload_n hx hb dL_together_4 rfl (lv_at hl 1 rfl) ?_
  refine lv_lload_n hx hb dL_together_5 rfl (lv_at hl 2 rfl) ?_
  by_cases c_1 : n.toInt64 < 0 ∨ ¬ n.toInt64 ≤ 1000
  · refine xw_c1 (xt_runV (Cr := "NailRules") (As := [.int n, .long one]) (rest := [.int 0, .ref oa]) ⟨hx, hb, hml, hown, hts⟩ (cN_together_x1 l E h0 ([.ref ta, .ref ra, .int wet, .int less, .ref px, .ref py, .int pn, .ref qx, .ref qy, .int qn, .ref ml]) n one (c_1)) (cwV 2 hts (xb_gi (List.forall_mem_cons.mpr ⟨xk_413, List.forall_mem_cons.mpr ⟨xk_414, List.forall_mem_cons.mpr ⟨xk_415, List.forall_mem_cons.mpr ⟨xk_40, List.forall_mem_cons.mpr ⟨xk_416, fun _ h => absurd h List.not_mem_nil⟩⟩⟩⟩⟩)) rfl rfl rfl (by decide +kernel) ⟨Nat.le_of_ble_eq_true rfl, Nat.le_of_ble_eq_true rfl⟩) ⟨fun _ _ _ _ q => q, va_recv hK hP (ci := 0) (q0 := 0) rfl rfl, fun U hU hW => ⟨rfl, xb_atS hAt hS hA0 hU hW, by rw [hU]; exact hP.sub (ws' := [(h0, .inr (0, [.ref ta, .ref ra, .int wet, .int less, .ref px, .ref py, .int pn, .ref qx, .ref qy, .int qn, .ref ml]))]) [0] rfl⟩⟩ rfl rfl hl.1 rfl (lv_room (Nat.le_of_ble_eq_true rfl)) dL_together_6 ⟨Nat.le_of_ble_eq_true rfl, Nat.le_of_ble_eq_true rfl⟩) hown htab rfl (by decide) (hts _ xk_365) (va_Nw.use rfl (xa_cst E hAt xk_376)) (fun q9 H hz9 hk9 => ?_)
    have hP := xw_P hP hk9
    have hS := xw_S hS hz9 hk9
    refine W.widen (k := 1) (n := 6) (by omega) (by omega) ?_
    refine lv_astore (lv' := [(5, .ref q9), (0, .ref h0), (1, .int n), (2, .long one), (4, .ref oa)]) hx hb dL_together_13 hl (by decide) rfl (fun ls hl => ?_)
    refine lv_iconst (v := 1) hx hb dL_together_15 (by decide) ?_
    have e_0 : gL_together less n one of = (1 : Int32) := (if_pos c_1).trans (rfl)
    have e_1 : gL_together_f less n one of = of := (if_pos c_1).trans (rfl)
    have hP9 := hP.sub (ws' := [(h0, .inr (0, [.ref ta, .ref ra, .int wet, .int less, .ref px, .ref py, .int pn, .ref qx, .ref qy, .int qn, .ref ml])), (oa, .inl (cL, 1, .inr (.inl of)))]) [0, 1] rfl
    have hD9 := hD.sub (ws' := [(h0, .inr (0, [.ref ta, .ref ra, .int wet, .int less, .ref px, .ref py, .int pn, .ref qx, .ref qy, .int qn, .ref ml])), (oa, .inl (cL, 1, .inr (.inl of)))]) [0, 1] (by decide) rfl
    refine W.widen (k := 1) (n := 6) (by omega) (by omega) ?_
    exact W.iret (v := 1) hx hb hr (fun t ht hW => ⟨_, _, rfl, ⟨by rw [e_0]; try rfl, by rw [e_1]⟩, by rw [ht]; exact hP9, hD9, hS.F ht⟩) hS.2.2 dL_together_16
  by_cases c_2 : one < 0 ∨ ¬ one ≤ 1000000000000
  · refine xw_c1 (xt_runV (Cr := "NailRules") (As := [.int n, .long one]) (rest := [.int 0, .ref oa]) ⟨hx, hb, hml, hown, hts⟩ (cN_together_x2 l E h0 ([.ref ta, .ref ra, .int wet, .int less, .ref px, .ref py, .int pn, .ref qx, .ref qy, .int qn, .ref ml]) n one (xh_1 c_1) (xh_2 c_1) (c_2)) (cwV 2 hts (xb_gi (List.forall_mem_cons.mpr ⟨xk_413, List.forall_mem_cons.mpr ⟨xk_414, List.forall_mem_cons.mpr ⟨xk_415, List.forall_mem_cons.mpr ⟨xk_40, List.forall_mem_cons.mpr ⟨xk_416, fun _ h => absurd h List.not_mem_nil⟩⟩⟩⟩⟩)) rfl rfl rfl (by decide +kernel) ⟨Nat.le_of_ble_eq_true rfl, Nat.le_of_ble_eq_true rfl⟩) ⟨fun _ _ _ _ q => q, va_recv hK hP (ci := 0) (q0 := 0) rfl rfl, fun U hU hW => ⟨rfl, xb_atS hAt hS hA0 hU hW, by rw [hU]; exact hP.sub (ws' := [(h0, .inr (0, [.ref ta, .ref ra, .int wet, .int less, .ref px, .ref py, .int pn, .ref qx, .ref qy, .int qn, .ref ml]))]) [0] rfl⟩⟩ rfl rfl hl.1 rfl (lv_room (Nat.le_of_ble_eq_true rfl)) dL_together_6 ⟨Nat.le_of_ble_eq_true rfl, Nat.le_of_ble_eq_true rfl⟩) hown htab rfl (by decide) (hts _ xk_365) (va_Nw.use rfl (xa_cst E hAt xk_376)) (fun q9 H hz9 hk9 => ?_)
    have hP := xw_P hP hk9
    have hS := xw_S hS hz9 hk9
    refine W.widen (k := 1) (n := 6) (by omega) (by omega) ?_
    refine lv_astore (lv' := [(5, .ref q9), (0, .ref h0), (1, .int n), (2, .long one), (4, .ref oa)]) hx hb dL_together_13 hl (by decide) rfl (fun ls hl => ?_)
    refine lv_iconst (v := 1) hx hb dL_together_15 (by decide) ?_
    have e_0 : gL_together less n one of = (1 : Int32) := (if_neg c_1).trans ((if_pos c_2).trans (rfl))
    have e_1 : gL_together_f less n one of = of := (if_neg c_1).trans ((if_pos c_2).trans (rfl))
    have hP9 := hP.sub (ws' := [(h0, .inr (0, [.ref ta, .ref ra, .int wet, .int less, .ref px, .ref py, .int pn, .ref qx, .ref qy, .int qn, .ref ml])), (oa, .inl (cL, 1, .inr (.inl of)))]) [0, 1] rfl
    have hD9 := hD.sub (ws' := [(h0, .inr (0, [.ref ta, .ref ra, .int wet, .int less, .ref px, .ref py, .int pn, .ref qx, .ref qy, .int qn, .ref ml])), (oa, .inl (cL, 1, .inr (.inl of)))]) [0, 1] (by decide) rfl
    refine W.widen (k := 1) (n := 6) (by omega) (by omega) ?_
    exact W.iret (v := 1) hx hb hr (fun t ht hW => ⟨_, _, rfl, ⟨by rw [e_0]; try rfl, by rw [e_1]⟩, by rw [ht]; exact hP9, hD9, hS.F ht⟩) hS.2.2 dL_together_16
  refine xb_rd (W.runV (C := "NailRules") (As := [.int n, .long one]) (rest := [.int 0, .ref oa]) ⟨hx, hb, hml, hown, hts⟩ (cN_together l E h0 ([.ref ta, .ref ra, .int wet, .int less, .ref px, .ref py, .int pn, .ref qx, .ref qy, .int qn, .ref ml]) less n one rfl (xh_1 c_1) (xh_2 c_1) (xh_1 c_2) (xh_2 c_2)) (cwV 2 hts (xb_gi (List.forall_mem_cons.mpr ⟨xk_413, List.forall_mem_cons.mpr ⟨xk_414, List.forall_mem_cons.mpr ⟨xk_415, List.forall_mem_cons.mpr ⟨xk_40, List.forall_mem_cons.mpr ⟨xk_416, fun _ h => absurd h List.not_mem_nil⟩⟩⟩⟩⟩)) rfl rfl rfl (by decide +kernel) ⟨Nat.le_of_ble_eq_true rfl, Nat.le_of_ble_eq_true rfl⟩) ⟨fun _ _ _ _ q => q, va_recv hK hP (ci := 0) (q0 := 0) rfl rfl, fun U hU hW => ⟨rfl, xb_atS hAt hS hA0 hU hW, by rw [hU]; exact hP.sub (ws' := [(h0, .inr (0, [.ref ta, .ref ra, .int wet, .int less, .ref px, .ref py, .int pn, .ref qx, .ref qy, .int qn, .ref ml]))]) [0] rfl⟩⟩ rfl rfl hl.1 rfl (lv_room (Nat.le_of_ble_eq_true rfl)) dL_together_6 ⟨Nat.zero_le _, Nat.zero_le _⟩) ?_
  have o_3 : vp_in (0 : Int32) 1 := by unfold vp_in; decide
  refine va_last hx hb hK hP hD hS 1 2 rfl rfl o_3 dL_together_9 (fun H locs hP hD hS => ?_)
  have hP : va_P (dC, dI) classes [(h0, .inr (0, [.ref ta, .ref ra, .int wet, .int less, .ref px, .ref py, .int pn, .ref qx, .ref qy, .int qn, .ref ml])), (oa, .inl (cL, 1, .inr (.inl (vp_updL of (0 : Int32).toNatClampNeg (fN_together less n one)))))] H := hP
  have hD : va_D A [(h0, .inr (0, [.ref ta, .ref ra, .int wet, .int less, .ref px, .ref py, .int pn, .ref qx, .ref qy, .int qn, .ref ml])), (oa, .inl (cL, 1, .inr (.inl (vp_updL of (0 : Int32).toNatClampNeg (fN_together less n one)))))] := hD
  refine lv_goto (tgt := 17) hx hb dL_together_10 (by decide) ?_
  refine lv_iconst (v := 0) hx hb dL_together_17 (by decide) ?_
  have e_0 : gL_together less n one of = (0 : Int32) := (if_neg c_1).trans ((if_neg c_2).trans (rfl))
  have e_1 : gL_together_f less n one of = (vp_updL of (0 : Int32).toNatClampNeg (fN_together less n one)) := (if_neg c_1).trans ((if_neg c_2).trans (rfl))
  have hP9 := hP.sub (ws' := [(h0, .inr (0, [.ref ta, .ref ra, .int wet, .int less, .ref px, .ref py, .int pn, .ref qx, .ref qy, .int qn, .ref ml])), (oa, .inl (cL, 1, .inr (.inl (vp_updL of (0 : Int32).toNatClampNeg (fN_together less n one)))))]) [0, 1] rfl
  have hD9 := hD.sub (ws' := [(h0, .inr (0, [.ref ta, .ref ra, .int wet, .int less, .ref px, .ref py, .int pn, .ref qx, .ref qy, .int qn, .ref ml])), (oa, .inl (cL, 1, .inr (.inl (vp_updL of (0 : Int32).toNatClampNeg (fN_together less n one)))))]) [0, 1] (by decide) rfl
  refine W.widen (k := 1) (n := 6) (by omega) (by omega) ?_
  exact W.iret (v := 0) hx hb hr (fun t ht hW => ⟨_, _, rfl, ⟨by rw [e_0]; try rfl, by rw [e_1]⟩, by rw [ht]; exact hP9, hD9, hS.F ht⟩) hS.2.2 dL_together_18

def gL_count (less : Int32) (load : Int64) (one : Int64) (of : Nat → Int64) : Int32 := if load < 0 ∨ ¬ load ≤ 1000000000000 then ((1)) else (if one < 0 ∨ ¬ one ≤ 1000000000000 then ((1)) else ((0)))
def gL_count_f (less : Int32) (load : Int64) (one : Int64) (of : Nat → Int64) : Nat → Int64 := if load < 0 ∨ ¬ load ≤ 1000000000000 then (of) else (if one < 0 ∨ ¬ one ≤ 1000000000000 then (of) else (vp_updL of (0 : Int32).toNatClampNeg ((fN_count less load one).toInt64)))
set_option maxHeartbeats 4000000 in
set_option maxRecDepth 100000 in
theorem cL_count (l : Launch) {s0 : State} {dC : Nat → ClassId} {dI : Nat → Nat → Nat} {cI cC cL cO : ClassId} (E : xb_Env l s0 dC dI (xtys cI cC cL cO)) (sz : Nat) (h0 : Nat) (oa : Nat) (ta : Nat) (ra : Nat) (wet : Int32) (less : Int32) (px : Nat) (py : Nat) (pn : Int32) (qx : Nat) (qy : Nat) (qn : Int32) (ml : Nat) (of : Nat → Int64) (load : Int64) (one : Int64) : Met l yL_count [.codeWith yL_count bL_count 7 (some (.int)) [(0, 11, 14, 19)]] ({ frames := 8, cells := 1, slots := 6, locals := 132 }) (va_Pc [.ref h0, .long load, .long one, .ref oa] (fun U => xb_At s0 U ∧ U.heap.size = sz ∧ va_P (dC, dI) classes [(h0, .inr (0, [.ref ta, .ref ra, .int wet, .int less, .ref px, .ref py, .int pn, .ref qx, .ref qy, .int qn, .ref ml])), (oa, .inl (cL, 1, .inr (.inl of)))] U.heap ∧ va_D (fun q => s0.heap.size ≤ q) [(h0, .inr (0, [.ref ta, .ref ra, .int wet, .int less, .ref px, .ref py, .int pn, .ref qx, .ref qy, .int qn, .ref ml])), (oa, .inl (cL, 1, .inr (.inl of)))])) (xb_W (dC, dI) (fun v9 w9 => v9 = some (.int (gL_count less load one of)) ∧ w9 = [(h0, .inr (0, [.ref ta, .ref ra, .int wet, .int less, .ref px, .ref py, .int pn, .ref qx, .ref qy, .int qn, .ref ml])), (oa, .inl (cL, 1, .inr (.inl (gL_count_f less load one of))))]) (va_A [(h0, .inr (0, [.ref ta, .ref ra, .int wet, .int less, .ref px, .ref py, .int pn, .ref qx, .ref qy, .int qn, .ref ml])), (oa, .inl (cL, 1, .inr (.inl of)))] sz)) 1 6 (va_A [(h0, .inr (0, [.ref ta, .ref ra, .int wet, .int less, .ref px, .ref py, .int pn, .ref qx, .ref qy, .int qn, .ref ml])), (oa, .inl (cL, 1, .inr (.inl of)))] sz) := by
  refine xw_ofW (cc := bL_count) (maxL := 7) (ret := (some (.int))) (hs := [(0, 11, 14, 19)]) (by decide) rfl ?_
  intro p e s m args below meth c s₁ B hml htab hv
  obtain ⟨rfl, hAt, hsz, hP, hD0⟩ := hv
  have hx := B.exec
  have hb := B.bytes
  have hr := B.returns
  have hts := xb_hts E hAt ([.ref h0, .long load, .long one, .ref oa] : List Value).toArray
  have hown : s.vm.findClass "NailRulesLaw" = some m.cls := findClass_of_methodNamed B.named
  have hlocks := B.notSynchronized
  have hK := xb_K E hAt
  subst hsz
  have hA0 := xb_A0 hAt hD0
  have hD := hD0.self (sz := s.heap.size)
  generalize hAe : va_A [(h0, .inr (0, [.ref ta, .ref ra, .int wet, .int less, .ref px, .ref py, .int pn, .ref qx, .ref qy, .int qn, .ref ml])), (oa, .inl (cL, 1, .inr (.inl of)))] s.heap.size = A at hD hA0 ⊢
  have hA : ∀ q : Nat, s.heap.size ≤ q → A q := fun q h => by rw [← hAe]; exact Or.inr h
  have hS : va_S A s.heap s.heap [] := va_S.rf
  have hl := lv_entry ([.ref h0, .long load, .long one, .ref oa]) (n := 7) (Nat.le_of_ble_eq_true rfl)
  rw [lg_entry_eq]
  generalize (lg_sl ([.ref h0, .long load, .long one, .ref oa]) ++ List.replicate (7 - (lg_sl ([.ref h0, .long load, .long one, .ref oa])).length) Slot.unset).toArray = ls at hl ⊢
  have hl : lv_has ls 7 [(0, .ref h0), (1, .long load), (3, .long one), (5, .ref oa)] := hl
  refine lv_aload hx hb dL_count_0 (lv_at hl 3 rfl) ?_
  refine lv_iconst (v := 0) hx hb dL_count_2 (by decide) ?_
  refine lv_aload_n hx hb dL_count_3 rfl (lv_at hl 0 rfl) ?_
  refine lv_lload_n hx hb dL_count_4 rfl (lv_at hl 1 rfl) ?_
  refine lv_lload_n hx hb dL_count_5 rfl (lv_at hl 2 rfl) ?_
  by_cases c_1 : load < 0 ∨ ¬ load ≤ 1000000000000
  · refine xw_c1 (xt_runV (Cr := "NailRules") (As := [.long load, .long one]) (rest := [.int 0, .ref oa]) ⟨hx, hb, hml, hown, hts⟩ (cN_count_x1 l E h0 ([.ref ta, .ref ra, .int wet, .int less, .ref px, .ref py, .int pn, .ref qx, .ref qy, .int qn, .ref ml]) load one (c_1)) (cwV 2 hts (xb_gi (List.forall_mem_cons.mpr ⟨xk_426, List.forall_mem_cons.mpr ⟨xk_427, List.forall_mem_cons.mpr ⟨xk_428, List.forall_mem_cons.mpr ⟨xk_40, List.forall_mem_cons.mpr ⟨xk_429, fun _ h => absurd h List.not_mem_nil⟩⟩⟩⟩⟩)) rfl rfl rfl (by decide +kernel) ⟨Nat.le_of_ble_eq_true rfl, Nat.le_of_ble_eq_true rfl⟩) ⟨fun _ _ _ _ q => q, va_recv hK hP (ci := 0) (q0 := 0) rfl rfl, fun U hU hW => ⟨rfl, xb_atS hAt hS hA0 hU hW, by rw [hU]; exact hP.sub (ws' := [(h0, .inr (0, [.ref ta, .ref ra, .int wet, .int less, .ref px, .ref py, .int pn, .ref qx, .ref qy, .int qn, .ref ml]))]) [0] rfl⟩⟩ rfl rfl hl.1 rfl (lv_room (Nat.le_of_ble_eq_true rfl)) dL_count_6 ⟨Nat.le_of_ble_eq_true rfl, Nat.le_of_ble_eq_true rfl⟩) hown htab rfl (by decide) (hts _ xk_365) (va_Nw.use rfl (xa_cst E hAt xk_376)) (fun q9 H hz9 hk9 => ?_)
    have hP := xw_P hP hk9
    have hS := xw_S hS hz9 hk9
    refine W.widen (k := 1) (n := 6) (by omega) (by omega) ?_
    refine lv_astore (lv' := [(6, .ref q9), (0, .ref h0), (1, .long load), (3, .long one), (5, .ref oa)]) hx hb dL_count_14 hl (by decide) rfl (fun ls hl => ?_)
    refine lv_iconst (v := 1) hx hb dL_count_16 (by decide) ?_
    have e_0 : gL_count less load one of = (1 : Int32) := (if_pos c_1).trans (rfl)
    have e_1 : gL_count_f less load one of = of := (if_pos c_1).trans (rfl)
    have hP9 := hP.sub (ws' := [(h0, .inr (0, [.ref ta, .ref ra, .int wet, .int less, .ref px, .ref py, .int pn, .ref qx, .ref qy, .int qn, .ref ml])), (oa, .inl (cL, 1, .inr (.inl of)))]) [0, 1] rfl
    have hD9 := hD.sub (ws' := [(h0, .inr (0, [.ref ta, .ref ra, .int wet, .int less, .ref px, .ref py, .int pn, .ref qx, .ref qy, .int qn, .ref ml])), (oa, .inl (cL, 1, .inr (.inl of)))]) [0, 1] (by decide) rfl
    refine W.widen (k := 1) (n := 6) (by omega) (by omega) ?_
    exact W.iret (v := 1) hx hb hr (fun t ht hW => ⟨_, _, rfl, ⟨by rw [e_0]; try rfl, by rw [e_1]⟩, by rw [ht]; exact hP9, hD9, hS.F ht⟩) hS.2.2 dL_count_17
  by_cases c_2 : one < 0 ∨ ¬ one ≤ 1000000000000
  · refine xw_c1 (xt_runV (Cr := "NailRules") (As := [.long load, .long one]) (rest := [.int 0, .ref oa]) ⟨hx, hb, hml, hown, hts⟩ (cN_count_x2 l E h0 ([.ref ta, .ref ra, .int wet, .int less, .ref px, .ref py, .int pn, .ref qx, .ref qy, .int qn, .ref ml]) load one (xh_1 c_1) (xh_2 c_1) (c_2)) (cwV 2 hts (xb_gi (List.forall_mem_cons.mpr ⟨xk_426, List.forall_mem_cons.mpr ⟨xk_427, List.forall_mem_cons.mpr ⟨xk_428, List.forall_mem_cons.mpr ⟨xk_40, List.forall_mem_cons.mpr ⟨xk_429, fun _ h => absurd h List.not_mem_nil⟩⟩⟩⟩⟩)) rfl rfl rfl (by decide +kernel) ⟨Nat.le_of_ble_eq_true rfl, Nat.le_of_ble_eq_true rfl⟩) ⟨fun _ _ _ _ q => q, va_recv hK hP (ci := 0) (q0 := 0) rfl rfl, fun U hU hW => ⟨rfl, xb_atS hAt hS hA0 hU hW, by rw [hU]; exact hP.sub (ws' := [(h0, .inr (0, [.ref ta, .ref ra, .int wet, .int less, .ref px, .ref py, .int pn, .ref qx, .ref qy, .int qn, .ref ml]))]) [0] rfl⟩⟩ rfl rfl hl.1 rfl (lv_room (Nat.le_of_ble_eq_true rfl)) dL_count_6 ⟨Nat.le_of_ble_eq_true rfl, Nat.le_of_ble_eq_true rfl⟩) hown htab rfl (by decide) (hts _ xk_365) (va_Nw.use rfl (xa_cst E hAt xk_376)) (fun q9 H hz9 hk9 => ?_)
    have hP := xw_P hP hk9
    have hS := xw_S hS hz9 hk9
    refine W.widen (k := 1) (n := 6) (by omega) (by omega) ?_
    refine lv_astore (lv' := [(6, .ref q9), (0, .ref h0), (1, .long load), (3, .long one), (5, .ref oa)]) hx hb dL_count_14 hl (by decide) rfl (fun ls hl => ?_)
    refine lv_iconst (v := 1) hx hb dL_count_16 (by decide) ?_
    have e_0 : gL_count less load one of = (1 : Int32) := (if_neg c_1).trans ((if_pos c_2).trans (rfl))
    have e_1 : gL_count_f less load one of = of := (if_neg c_1).trans ((if_pos c_2).trans (rfl))
    have hP9 := hP.sub (ws' := [(h0, .inr (0, [.ref ta, .ref ra, .int wet, .int less, .ref px, .ref py, .int pn, .ref qx, .ref qy, .int qn, .ref ml])), (oa, .inl (cL, 1, .inr (.inl of)))]) [0, 1] rfl
    have hD9 := hD.sub (ws' := [(h0, .inr (0, [.ref ta, .ref ra, .int wet, .int less, .ref px, .ref py, .int pn, .ref qx, .ref qy, .int qn, .ref ml])), (oa, .inl (cL, 1, .inr (.inl of)))]) [0, 1] (by decide) rfl
    refine W.widen (k := 1) (n := 6) (by omega) (by omega) ?_
    exact W.iret (v := 1) hx hb hr (fun t ht hW => ⟨_, _, rfl, ⟨by rw [e_0]; try rfl, by rw [e_1]⟩, by rw [ht]; exact hP9, hD9, hS.F ht⟩) hS.2.2 dL_count_17
  refine xb_rd (W.runV (C := "NailRules") (As := [.long load, .long one]) (rest := [.int 0, .ref oa]) ⟨hx, hb, hml, hown, hts⟩ (cN_count l E h0 ([.ref ta, .ref ra, .int wet, .int less, .ref px, .ref py, .int pn, .ref qx, .ref qy, .int qn, .ref ml]) less load one rfl (xh_1 c_1) (xh_2 c_1) (xh_1 c_2) (xh_2 c_2)) (cwV 2 hts (xb_gi (List.forall_mem_cons.mpr ⟨xk_426, List.forall_mem_cons.mpr ⟨xk_427, List.forall_mem_cons.mpr ⟨xk_428, List.forall_mem_cons.mpr ⟨xk_40, List.forall_mem_cons.mpr ⟨xk_429, fun _ h => absurd h List.not_mem_nil⟩⟩⟩⟩⟩)) rfl rfl rfl (by decide +kernel) ⟨Nat.le_of_ble_eq_true rfl, Nat.le_of_ble_eq_true rfl⟩) ⟨fun _ _ _ _ q => q, va_recv hK hP (ci := 0) (q0 := 0) rfl rfl, fun U hU hW => ⟨rfl, xb_atS hAt hS hA0 hU hW, by rw [hU]; exact hP.sub (ws' := [(h0, .inr (0, [.ref ta, .ref ra, .int wet, .int less, .ref px, .ref py, .int pn, .ref qx, .ref qy, .int qn, .ref ml]))]) [0] rfl⟩⟩ rfl rfl hl.1 rfl (lv_room (Nat.le_of_ble_eq_true rfl)) dL_count_6 ⟨Nat.zero_le _, Nat.zero_le _⟩) ?_
  refine lv_i2l hx hb dL_count_9 rfl ?_
  have o_3 : vp_in (0 : Int32) 1 := by unfold vp_in; decide
  refine va_last hx hb hK hP hD hS 1 2 rfl rfl o_3 dL_count_10 (fun H locs hP hD hS => ?_)
  have hP : va_P (dC, dI) classes [(h0, .inr (0, [.ref ta, .ref ra, .int wet, .int less, .ref px, .ref py, .int pn, .ref qx, .ref qy, .int qn, .ref ml])), (oa, .inl (cL, 1, .inr (.inl (vp_updL of (0 : Int32).toNatClampNeg ((fN_count less load one).toInt64)))))] H := hP
  have hD : va_D A [(h0, .inr (0, [.ref ta, .ref ra, .int wet, .int less, .ref px, .ref py, .int pn, .ref qx, .ref qy, .int qn, .ref ml])), (oa, .inl (cL, 1, .inr (.inl (vp_updL of (0 : Int32).toNatClampNeg ((fN_count less load one).toInt64)))))] := hD
  refine lv_goto (tgt := 18) hx hb dL_count_11 (by decide) ?_
  refine lv_iconst (v := 0) hx hb dL_count_18 (by decide) ?_
  have e_0 : gL_count less load one of = (0 : Int32) := (if_neg c_1).trans ((if_neg c_2).trans (rfl))
  have e_1 : gL_count_f less load one of = (vp_updL of (0 : Int32).toNatClampNeg ((fN_count less load one).toInt64)) := (if_neg c_1).trans ((if_neg c_2).trans (rfl))
  have hP9 := hP.sub (ws' := [(h0, .inr (0, [.ref ta, .ref ra, .int wet, .int less, .ref px, .ref py, .int pn, .ref qx, .ref qy, .int qn, .ref ml])), (oa, .inl (cL, 1, .inr (.inl (vp_updL of (0 : Int32).toNatClampNeg ((fN_count less load one).toInt64)))))]) [0, 1] rfl
  have hD9 := hD.sub (ws' := [(h0, .inr (0, [.ref ta, .ref ra, .int wet, .int less, .ref px, .ref py, .int pn, .ref qx, .ref qy, .int qn, .ref ml])), (oa, .inl (cL, 1, .inr (.inl (vp_updL of (0 : Int32).toNatClampNeg ((fN_count less load one).toInt64)))))]) [0, 1] (by decide) rfl
  refine W.widen (k := 1) (n := 6) (by omega) (by omega) ?_
  exact W.iret (v := 0) hx hb hr (fun t ht hW => ⟨_, _, rfl, ⟨by rw [e_0]; try rfl, by rw [e_1]⟩, by rw [ht]; exact hP9, hD9, hS.F ht⟩) hS.2.2 dL_count_19

def gL_pattern (rf : Nat → Int32) (xf : Nat → Int32) (yf : Nat → Int32) (pn : Int32) (kind : Int32) (w : Int32) (h : Int32) (n : Int32) (of : Nat → Int64) : Int32 := if kind < 0 ∨ ¬ kind < 4 then ((1)) else (if w.toInt64 < 1 ∨ ¬ w.toInt64 ≤ 100000 then ((2)) else (if h.toInt64 < 1 ∨ ¬ h.toInt64 ≤ 100000 then ((2)) else (if n.toInt64 < 1 ∨ ¬ n.toInt64 ≤ 100 then ((2)) else (if (gN_pattern rf xf yf pn kind w h n) = true then ((0)) else ((0))))))
def gL_pattern_6 (rf : Nat → Int32) (xf : Nat → Int32) (yf : Nat → Int32) (pn : Int32) (kind : Int32) (w : Int32) (h : Int32) (n : Int32) (of : Nat → Int64) : Int32 := if kind < 0 ∨ ¬ kind < 4 then (pn) else (if w.toInt64 < 1 ∨ ¬ w.toInt64 ≤ 100000 then (pn) else (if h.toInt64 < 1 ∨ ¬ h.toInt64 ≤ 100000 then (pn) else (if n.toInt64 < 1 ∨ ¬ n.toInt64 ≤ 100 then (pn) else (if (gN_pattern rf xf yf pn kind w h n) = true then (gN_pattern_6 rf xf yf pn kind w h n) else (gN_pattern_6 rf xf yf pn kind w h n)))))
def gL_pattern_px (rf : Nat → Int32) (xf : Nat → Int32) (yf : Nat → Int32) (pn : Int32) (kind : Int32) (w : Int32) (h : Int32) (n : Int32) (of : Nat → Int64) : Nat → Int32 := if kind < 0 ∨ ¬ kind < 4 then (xf) else (if w.toInt64 < 1 ∨ ¬ w.toInt64 ≤ 100000 then (xf) else (if h.toInt64 < 1 ∨ ¬ h.toInt64 ≤ 100000 then (xf) else (if n.toInt64 < 1 ∨ ¬ n.toInt64 ≤ 100 then (xf) else (if (gN_pattern rf xf yf pn kind w h n) = true then (gN_pattern_x rf xf yf pn kind w h n) else (gN_pattern_x rf xf yf pn kind w h n)))))
def gL_pattern_py (rf : Nat → Int32) (xf : Nat → Int32) (yf : Nat → Int32) (pn : Int32) (kind : Int32) (w : Int32) (h : Int32) (n : Int32) (of : Nat → Int64) : Nat → Int32 := if kind < 0 ∨ ¬ kind < 4 then (yf) else (if w.toInt64 < 1 ∨ ¬ w.toInt64 ≤ 100000 then (yf) else (if h.toInt64 < 1 ∨ ¬ h.toInt64 ≤ 100000 then (yf) else (if n.toInt64 < 1 ∨ ¬ n.toInt64 ≤ 100 then (yf) else (if (gN_pattern rf xf yf pn kind w h n) = true then (gN_pattern_y rf xf yf pn kind w h n) else (gN_pattern_y rf xf yf pn kind w h n)))))
def gL_pattern_f (rf : Nat → Int32) (xf : Nat → Int32) (yf : Nat → Int32) (pn : Int32) (kind : Int32) (w : Int32) (h : Int32) (n : Int32) (of : Nat → Int64) : Nat → Int64 := if kind < 0 ∨ ¬ kind < 4 then (of) else (if w.toInt64 < 1 ∨ ¬ w.toInt64 ≤ 100000 then (of) else (if h.toInt64 < 1 ∨ ¬ h.toInt64 ≤ 100000 then (of) else (if n.toInt64 < 1 ∨ ¬ n.toInt64 ≤ 100 then (of) else (if (gN_pattern rf xf yf pn kind w h n) = true then (vp_updL of (0 : Int32).toNatClampNeg 1) else (vp_updL of (0 : Int32).toNatClampNeg 0)))))
set_option maxHeartbeats 4000000 in
set_option maxRecDepth 100000 in
theorem cL_pattern (l : Launch) {s0 : State} {dC : Nat → ClassId} {dI : Nat → Nat → Nat} {cI cC cL cO : ClassId} (E : xb_Env l s0 dC dI (xtys cI cC cL cO)) (sz : Nat) (h0 : Nat) (ra : Nat) (px : Nat) (py : Nat) (oa : Nat) (ta : Nat) (wet : Int32) (less : Int32) (pn : Int32) (qx : Nat) (qy : Nat) (qn : Int32) (ml : Nat) (rf : Nat → Int32) (xf : Nat → Int32) (yf : Nat → Int32) (of : Nat → Int64) (kind : Int32) (w : Int32) (h : Int32) (n : Int32) : Met l yL_pattern [.codeWith yL_pattern bL_pattern 7 (some (.int)) [(0, 21, 24, 13), (0, 21, 28, 19)]] ({ frames := 8, cells := 1, slots := 6, locals := 133 }) (va_Pc [.ref h0, .int kind, .int w, .int h, .int n, .ref oa] (fun U => xb_At s0 U ∧ U.heap.size = sz ∧ va_P (dC, dI) classes [(h0, .inr (0, [.ref ta, .ref ra, .int wet, .int less, .ref px, .ref py, .int pn, .ref qx, .ref qy, .int qn, .ref ml])), (ra, .inl (cI, 28, .inl rf)), (px, .inl (cI, 100, .inl xf)), (py, .inl (cI, 100, .inl yf)), (oa, .inl (cL, 1, .inr (.inl of)))] U.heap ∧ va_D (fun q => s0.heap.size ≤ q) [(h0, .inr (0, [.ref ta, .ref ra, .int wet, .int less, .ref px, .ref py, .int pn, .ref qx, .ref qy, .int qn, .ref ml])), (ra, .inl (cI, 28, .inl rf)), (px, .inl (cI, 100, .inl xf)), (py, .inl (cI, 100, .inl yf)), (oa, .inl (cL, 1, .inr (.inl of)))])) (xb_W (dC, dI) (fun v9 w9 => v9 = some (.int (gL_pattern rf xf yf pn kind w h n of)) ∧ w9 = [(h0, .inr (0, [.ref ta, .ref ra, .int wet, .int less, .ref px, .ref py, .int (gL_pattern_6 rf xf yf pn kind w h n of), .ref qx, .ref qy, .int qn, .ref ml])), (ra, .inl (cI, 28, .inl rf)), (px, .inl (cI, 100, .inl (gL_pattern_px rf xf yf pn kind w h n of))), (py, .inl (cI, 100, .inl (gL_pattern_py rf xf yf pn kind w h n of))), (oa, .inl (cL, 1, .inr (.inl (gL_pattern_f rf xf yf pn kind w h n of))))]) (va_A [(h0, .inr (0, [.ref ta, .ref ra, .int wet, .int less, .ref px, .ref py, .int pn, .ref qx, .ref qy, .int qn, .ref ml])), (ra, .inl (cI, 28, .inl rf)), (px, .inl (cI, 100, .inl xf)), (py, .inl (cI, 100, .inl yf)), (oa, .inl (cL, 1, .inr (.inl of)))] sz)) 1 6 (va_A [(h0, .inr (0, [.ref ta, .ref ra, .int wet, .int less, .ref px, .ref py, .int pn, .ref qx, .ref qy, .int qn, .ref ml])), (ra, .inl (cI, 28, .inl rf)), (px, .inl (cI, 100, .inl xf)), (py, .inl (cI, 100, .inl yf)), (oa, .inl (cL, 1, .inr (.inl of)))] sz) := by
  refine xw_ofW (cc := bL_pattern) (maxL := 7) (ret := (some (.int))) (hs := [(0, 21, 24, 13), (0, 21, 28, 19)]) (by decide) rfl ?_
  intro p e s m args below meth c s₁ B hml htab hv
  obtain ⟨rfl, hAt, hsz, hP, hD0⟩ := hv
  have hx := B.exec
  have hb := B.bytes
  have hr := B.returns
  have hts := xb_hts E hAt ([.ref h0, .int kind, .int w, .int h, .int n, .ref oa] : List Value).toArray
  have hown : s.vm.findClass "NailRulesLaw" = some m.cls := findClass_of_methodNamed B.named
  have hlocks := B.notSynchronized
  have hK := xb_K E hAt
  subst hsz
  have hA0 := xb_A0 hAt hD0
  have hD := hD0.self (sz := s.heap.size)
  generalize hAe : va_A [(h0, .inr (0, [.ref ta, .ref ra, .int wet, .int less, .ref px, .ref py, .int pn, .ref qx, .ref qy, .int qn, .ref ml])), (ra, .inl (cI, 28, .inl rf)), (px, .inl (cI, 100, .inl xf)), (py, .inl (cI, 100, .inl yf)), (oa, .inl (cL, 1, .inr (.inl of)))] s.heap.size = A at hD hA0 ⊢
  have hA : ∀ q : Nat, s.heap.size ≤ q → A q := fun q h => by rw [← hAe]; exact Or.inr h
  have hS : va_S A s.heap s.heap [] := va_S.rf
  have hl := lv_entry ([.ref h0, .int kind, .int w, .int h, .int n, .ref oa]) (n := 7) (Nat.le_of_ble_eq_true rfl)
  rw [lg_entry_eq]
  generalize (lg_sl ([.ref h0, .int kind, .int w, .int h, .int n, .ref oa]) ++ List.replicate (7 - (lg_sl ([.ref h0, .int kind, .int w, .int h, .int n, .ref oa])).length) Slot.unset).toArray = ls at hl ⊢
  have hl : lv_has ls 7 [(0, .ref h0), (1, .int kind), (2, .int w), (3, .int h), (4, .int n), (5, .ref oa)] := hl
  refine lv_aload hx hb dL_pattern_0 (lv_at hl 5 rfl) ?_
  refine lv_iconst (v := 0) hx hb dL_pattern_2 (by decide) ?_
  refine lv_aload_n hx hb dL_pattern_3 rfl (lv_at hl 0 rfl) ?_
  refine lv_iload_n hx hb dL_pattern_4 rfl (lv_at hl 1 rfl) ?_
  refine lv_iload_n hx hb dL_pattern_5 rfl (lv_at hl 2 rfl) ?_
  refine lv_iload_n hx hb dL_pattern_6 rfl (lv_at hl 3 rfl) ?_
  refine lv_iload hx hb dL_pattern_7 (lv_at hl 4 rfl) ?_
  by_cases c_1 : kind < 0 ∨ ¬ kind < 4
  · refine xw_c1 (xt_runV (Cr := "NailRules") (As := [.int kind, .int w, .int h, .int n]) (rest := [.int 0, .ref oa]) ⟨hx, hb, hml, hown, hts⟩ (cN_pattern_x1 l E h0 ([.ref ta, .ref ra, .int wet, .int less, .ref px, .ref py, .int pn, .ref qx, .ref qy, .int qn, .ref ml]) kind w h n (c_1)) (cwV 4 hts (xb_gi (List.forall_mem_cons.mpr ⟨xk_433, List.forall_mem_cons.mpr ⟨xk_434, List.forall_mem_cons.mpr ⟨xk_435, List.forall_mem_cons.mpr ⟨xk_40, List.forall_mem_cons.mpr ⟨xk_436, fun _ h => absurd h List.not_mem_nil⟩⟩⟩⟩⟩)) rfl rfl rfl (by decide +kernel) ⟨Nat.le_of_ble_eq_true rfl, Nat.le_of_ble_eq_true rfl⟩) ⟨fun _ _ _ _ q => q, va_recv hK hP (ci := 0) (q0 := 0) rfl rfl, fun U hU hW => ⟨rfl, xb_atS hAt hS hA0 hU hW, by rw [hU]; exact hP.sub (ws' := [(h0, .inr (0, [.ref ta, .ref ra, .int wet, .int less, .ref px, .ref py, .int pn, .ref qx, .ref qy, .int qn, .ref ml]))]) [0] rfl⟩⟩ rfl rfl hl.1 rfl (lv_room (Nat.le_of_ble_eq_true rfl)) dL_pattern_9 ⟨Nat.le_of_ble_eq_true rfl, Nat.le_of_ble_eq_true rfl⟩) hown htab rfl (by decide) (hts _ xk_283) (va_Nw.use rfl (xa_cst E hAt xk_293)) (fun q9 H hz9 hk9 => ?_)
    have hP := xw_P hP hk9
    have hS := xw_S hS hz9 hk9
    refine W.widen (k := 1) (n := 6) (by omega) (by omega) ?_
    refine lv_astore (lv' := [(6, .ref q9), (0, .ref h0), (1, .int kind), (2, .int w), (3, .int h), (4, .int n), (5, .ref oa)]) hx hb dL_pattern_24 hl (by decide) rfl (fun ls hl => ?_)
    refine lv_iconst (v := 1) hx hb dL_pattern_26 (by decide) ?_
    have e_0 : gL_pattern rf xf yf pn kind w h n of = (1 : Int32) := (if_pos c_1).trans (rfl)
    have e_1 : gL_pattern_6 rf xf yf pn kind w h n of = pn := (if_pos c_1).trans (rfl)
    have e_2 : gL_pattern_px rf xf yf pn kind w h n of = xf := (if_pos c_1).trans (rfl)
    have e_3 : gL_pattern_py rf xf yf pn kind w h n of = yf := (if_pos c_1).trans (rfl)
    have e_4 : gL_pattern_f rf xf yf pn kind w h n of = of := (if_pos c_1).trans (rfl)
    have hP9 := hP.sub (ws' := [(h0, .inr (0, [.ref ta, .ref ra, .int wet, .int less, .ref px, .ref py, .int pn, .ref qx, .ref qy, .int qn, .ref ml])), (ra, .inl (cI, 28, .inl rf)), (px, .inl (cI, 100, .inl xf)), (py, .inl (cI, 100, .inl yf)), (oa, .inl (cL, 1, .inr (.inl of)))]) [0, 1, 2, 3, 4] rfl
    have hD9 := hD.sub (ws' := [(h0, .inr (0, [.ref ta, .ref ra, .int wet, .int less, .ref px, .ref py, .int pn, .ref qx, .ref qy, .int qn, .ref ml])), (ra, .inl (cI, 28, .inl rf)), (px, .inl (cI, 100, .inl xf)), (py, .inl (cI, 100, .inl yf)), (oa, .inl (cL, 1, .inr (.inl of)))]) [0, 1, 2, 3, 4] (by decide) rfl
    refine W.widen (k := 1) (n := 6) (by omega) (by omega) ?_
    exact W.iret (v := 1) hx hb hr (fun t ht hW => ⟨_, _, rfl, ⟨by rw [e_0]; try rfl, by rw [e_1, e_2, e_3, e_4]⟩, by rw [ht]; exact hP9, hD9, hS.F ht⟩) hS.2.2 dL_pattern_27
  by_cases c_2 : w.toInt64 < 1 ∨ ¬ w.toInt64 ≤ 100000
  · obtain ⟨c9, hc9, hno9⟩ := xc_nc_IA_IO E hAt
    refine xw_c2 (xt_runV (Cr := "NailRules") (As := [.int kind, .int w, .int h, .int n]) (rest := [.int 0, .ref oa]) ⟨hx, hb, hml, hown, hts⟩ (cN_pattern_x2 l E h0 ([.ref ta, .ref ra, .int wet, .int less, .ref px, .ref py, .int pn, .ref qx, .ref qy, .int qn, .ref ml]) kind w h n (xh_1 c_1) (xh_2 c_1) (c_2)) (cwV 4 hts (xb_gi (List.forall_mem_cons.mpr ⟨xk_433, List.forall_mem_cons.mpr ⟨xk_434, List.forall_mem_cons.mpr ⟨xk_435, List.forall_mem_cons.mpr ⟨xk_40, List.forall_mem_cons.mpr ⟨xk_436, fun _ h => absurd h List.not_mem_nil⟩⟩⟩⟩⟩)) rfl rfl rfl (by decide +kernel) ⟨Nat.le_of_ble_eq_true rfl, Nat.le_of_ble_eq_true rfl⟩) ⟨fun _ _ _ _ q => q, va_recv hK hP (ci := 0) (q0 := 0) rfl rfl, fun U hU hW => ⟨rfl, xb_atS hAt hS hA0 hU hW, by rw [hU]; exact hP.sub (ws' := [(h0, .inr (0, [.ref ta, .ref ra, .int wet, .int less, .ref px, .ref py, .int pn, .ref qx, .ref qy, .int qn, .ref ml]))]) [0] rfl⟩⟩ rfl rfl hl.1 rfl (lv_room (Nat.le_of_ble_eq_true rfl)) dL_pattern_9 ⟨Nat.le_of_ble_eq_true rfl, Nat.le_of_ble_eq_true rfl⟩) hown htab rfl (by decide) rfl (by decide) (hts _ xk_283) (hts _ xk_365) hc9 hno9 (va_Nw.use rfl (xa_cst E hAt xk_376)) (fun q9 H hz9 hk9 => ?_)
    have hP := xw_P hP hk9
    have hS := xw_S hS hz9 hk9
    refine W.widen (k := 1) (n := 6) (by omega) (by omega) ?_
    refine lv_astore (lv' := [(6, .ref q9), (0, .ref h0), (1, .int kind), (2, .int w), (3, .int h), (4, .int n), (5, .ref oa)]) hx hb dL_pattern_28 hl (by decide) rfl (fun ls hl => ?_)
    refine lv_iconst (v := 2) hx hb dL_pattern_30 (by decide) ?_
    have e_0 : gL_pattern rf xf yf pn kind w h n of = (2 : Int32) := (if_neg c_1).trans ((if_pos c_2).trans (rfl))
    have e_1 : gL_pattern_6 rf xf yf pn kind w h n of = pn := (if_neg c_1).trans ((if_pos c_2).trans (rfl))
    have e_2 : gL_pattern_px rf xf yf pn kind w h n of = xf := (if_neg c_1).trans ((if_pos c_2).trans (rfl))
    have e_3 : gL_pattern_py rf xf yf pn kind w h n of = yf := (if_neg c_1).trans ((if_pos c_2).trans (rfl))
    have e_4 : gL_pattern_f rf xf yf pn kind w h n of = of := (if_neg c_1).trans ((if_pos c_2).trans (rfl))
    have hP9 := hP.sub (ws' := [(h0, .inr (0, [.ref ta, .ref ra, .int wet, .int less, .ref px, .ref py, .int pn, .ref qx, .ref qy, .int qn, .ref ml])), (ra, .inl (cI, 28, .inl rf)), (px, .inl (cI, 100, .inl xf)), (py, .inl (cI, 100, .inl yf)), (oa, .inl (cL, 1, .inr (.inl of)))]) [0, 1, 2, 3, 4] rfl
    have hD9 := hD.sub (ws' := [(h0, .inr (0, [.ref ta, .ref ra, .int wet, .int less, .ref px, .ref py, .int pn, .ref qx, .ref qy, .int qn, .ref ml])), (ra, .inl (cI, 28, .inl rf)), (px, .inl (cI, 100, .inl xf)), (py, .inl (cI, 100, .inl yf)), (oa, .inl (cL, 1, .inr (.inl of)))]) [0, 1, 2, 3, 4] (by decide) rfl
    refine W.widen (k := 1) (n := 6) (by omega) (by omega) ?_
    exact W.iret (v := 2) hx hb hr (fun t ht hW => ⟨_, _, rfl, ⟨by rw [e_0]; try rfl, by rw [e_1, e_2, e_3, e_4]⟩, by rw [ht]; exact hP9, hD9, hS.F ht⟩) hS.2.2 dL_pattern_31
  by_cases c_3 : h.toInt64 < 1 ∨ ¬ h.toInt64 ≤ 100000
  · obtain ⟨c9, hc9, hno9⟩ := xc_nc_IA_IO E hAt
    refine xw_c2 (xt_runV (Cr := "NailRules") (As := [.int kind, .int w, .int h, .int n]) (rest := [.int 0, .ref oa]) ⟨hx, hb, hml, hown, hts⟩ (cN_pattern_x3 l E h0 ([.ref ta, .ref ra, .int wet, .int less, .ref px, .ref py, .int pn, .ref qx, .ref qy, .int qn, .ref ml]) kind w h n (xh_1 c_1) (xh_2 c_1) (xh_1 c_2) (xh_2 c_2) (c_3)) (cwV 4 hts (xb_gi (List.forall_mem_cons.mpr ⟨xk_433, List.forall_mem_cons.mpr ⟨xk_434, List.forall_mem_cons.mpr ⟨xk_435, List.forall_mem_cons.mpr ⟨xk_40, List.forall_mem_cons.mpr ⟨xk_436, fun _ h => absurd h List.not_mem_nil⟩⟩⟩⟩⟩)) rfl rfl rfl (by decide +kernel) ⟨Nat.le_of_ble_eq_true rfl, Nat.le_of_ble_eq_true rfl⟩) ⟨fun _ _ _ _ q => q, va_recv hK hP (ci := 0) (q0 := 0) rfl rfl, fun U hU hW => ⟨rfl, xb_atS hAt hS hA0 hU hW, by rw [hU]; exact hP.sub (ws' := [(h0, .inr (0, [.ref ta, .ref ra, .int wet, .int less, .ref px, .ref py, .int pn, .ref qx, .ref qy, .int qn, .ref ml]))]) [0] rfl⟩⟩ rfl rfl hl.1 rfl (lv_room (Nat.le_of_ble_eq_true rfl)) dL_pattern_9 ⟨Nat.le_of_ble_eq_true rfl, Nat.le_of_ble_eq_true rfl⟩) hown htab rfl (by decide) rfl (by decide) (hts _ xk_283) (hts _ xk_365) hc9 hno9 (va_Nw.use rfl (xa_cst E hAt xk_376)) (fun q9 H hz9 hk9 => ?_)
    have hP := xw_P hP hk9
    have hS := xw_S hS hz9 hk9
    refine W.widen (k := 1) (n := 6) (by omega) (by omega) ?_
    refine lv_astore (lv' := [(6, .ref q9), (0, .ref h0), (1, .int kind), (2, .int w), (3, .int h), (4, .int n), (5, .ref oa)]) hx hb dL_pattern_28 hl (by decide) rfl (fun ls hl => ?_)
    refine lv_iconst (v := 2) hx hb dL_pattern_30 (by decide) ?_
    have e_0 : gL_pattern rf xf yf pn kind w h n of = (2 : Int32) := (if_neg c_1).trans ((if_neg c_2).trans ((if_pos c_3).trans (rfl)))
    have e_1 : gL_pattern_6 rf xf yf pn kind w h n of = pn := (if_neg c_1).trans ((if_neg c_2).trans ((if_pos c_3).trans (rfl)))
    have e_2 : gL_pattern_px rf xf yf pn kind w h n of = xf := (if_neg c_1).trans ((if_neg c_2).trans ((if_pos c_3).trans (rfl)))
    have e_3 : gL_pattern_py rf xf yf pn kind w h n of = yf := (if_neg c_1).trans ((if_neg c_2).trans ((if_pos c_3).trans (rfl)))
    have e_4 : gL_pattern_f rf xf yf pn kind w h n of = of := (if_neg c_1).trans ((if_neg c_2).trans ((if_pos c_3).trans (rfl)))
    have hP9 := hP.sub (ws' := [(h0, .inr (0, [.ref ta, .ref ra, .int wet, .int less, .ref px, .ref py, .int pn, .ref qx, .ref qy, .int qn, .ref ml])), (ra, .inl (cI, 28, .inl rf)), (px, .inl (cI, 100, .inl xf)), (py, .inl (cI, 100, .inl yf)), (oa, .inl (cL, 1, .inr (.inl of)))]) [0, 1, 2, 3, 4] rfl
    have hD9 := hD.sub (ws' := [(h0, .inr (0, [.ref ta, .ref ra, .int wet, .int less, .ref px, .ref py, .int pn, .ref qx, .ref qy, .int qn, .ref ml])), (ra, .inl (cI, 28, .inl rf)), (px, .inl (cI, 100, .inl xf)), (py, .inl (cI, 100, .inl yf)), (oa, .inl (cL, 1, .inr (.inl of)))]) [0, 1, 2, 3, 4] (by decide) rfl
    refine W.widen (k := 1) (n := 6) (by omega) (by omega) ?_
    exact W.iret (v := 2) hx hb hr (fun t ht hW => ⟨_, _, rfl, ⟨by rw [e_0]; try rfl, by rw [e_1, e_2, e_3, e_4]⟩, by rw [ht]; exact hP9, hD9, hS.F ht⟩) hS.2.2 dL_pattern_31
  by_cases c_4 : n.toInt64 < 1 ∨ ¬ n.toInt64 ≤ 100
  · obtain ⟨c9, hc9, hno9⟩ := xc_nc_IA_IO E hAt
    refine xw_c2 (xt_runV (Cr := "NailRules") (As := [.int kind, .int w, .int h, .int n]) (rest := [.int 0, .ref oa]) ⟨hx, hb, hml, hown, hts⟩ (cN_pattern_x4 l E h0 ([.ref ta, .ref ra, .int wet, .int less, .ref px, .ref py, .int pn, .ref qx, .ref qy, .int qn, .ref ml]) kind w h n (xh_1 c_1) (xh_2 c_1) (xh_1 c_2) (xh_2 c_2) (xh_1 c_3) (xh_2 c_3) (c_4)) (cwV 4 hts (xb_gi (List.forall_mem_cons.mpr ⟨xk_433, List.forall_mem_cons.mpr ⟨xk_434, List.forall_mem_cons.mpr ⟨xk_435, List.forall_mem_cons.mpr ⟨xk_40, List.forall_mem_cons.mpr ⟨xk_436, fun _ h => absurd h List.not_mem_nil⟩⟩⟩⟩⟩)) rfl rfl rfl (by decide +kernel) ⟨Nat.le_of_ble_eq_true rfl, Nat.le_of_ble_eq_true rfl⟩) ⟨fun _ _ _ _ q => q, va_recv hK hP (ci := 0) (q0 := 0) rfl rfl, fun U hU hW => ⟨rfl, xb_atS hAt hS hA0 hU hW, by rw [hU]; exact hP.sub (ws' := [(h0, .inr (0, [.ref ta, .ref ra, .int wet, .int less, .ref px, .ref py, .int pn, .ref qx, .ref qy, .int qn, .ref ml]))]) [0] rfl⟩⟩ rfl rfl hl.1 rfl (lv_room (Nat.le_of_ble_eq_true rfl)) dL_pattern_9 ⟨Nat.le_of_ble_eq_true rfl, Nat.le_of_ble_eq_true rfl⟩) hown htab rfl (by decide) rfl (by decide) (hts _ xk_283) (hts _ xk_365) hc9 hno9 (va_Nw.use rfl (xa_cst E hAt xk_376)) (fun q9 H hz9 hk9 => ?_)
    have hP := xw_P hP hk9
    have hS := xw_S hS hz9 hk9
    refine W.widen (k := 1) (n := 6) (by omega) (by omega) ?_
    refine lv_astore (lv' := [(6, .ref q9), (0, .ref h0), (1, .int kind), (2, .int w), (3, .int h), (4, .int n), (5, .ref oa)]) hx hb dL_pattern_28 hl (by decide) rfl (fun ls hl => ?_)
    refine lv_iconst (v := 2) hx hb dL_pattern_30 (by decide) ?_
    have e_0 : gL_pattern rf xf yf pn kind w h n of = (2 : Int32) := (if_neg c_1).trans ((if_neg c_2).trans ((if_neg c_3).trans ((if_pos c_4).trans (rfl))))
    have e_1 : gL_pattern_6 rf xf yf pn kind w h n of = pn := (if_neg c_1).trans ((if_neg c_2).trans ((if_neg c_3).trans ((if_pos c_4).trans (rfl))))
    have e_2 : gL_pattern_px rf xf yf pn kind w h n of = xf := (if_neg c_1).trans ((if_neg c_2).trans ((if_neg c_3).trans ((if_pos c_4).trans (rfl))))
    have e_3 : gL_pattern_py rf xf yf pn kind w h n of = yf := (if_neg c_1).trans ((if_neg c_2).trans ((if_neg c_3).trans ((if_pos c_4).trans (rfl))))
    have e_4 : gL_pattern_f rf xf yf pn kind w h n of = of := (if_neg c_1).trans ((if_neg c_2).trans ((if_neg c_3).trans ((if_pos c_4).trans (rfl))))
    have hP9 := hP.sub (ws' := [(h0, .inr (0, [.ref ta, .ref ra, .int wet, .int less, .ref px, .ref py, .int pn, .ref qx, .ref qy, .int qn, .ref ml])), (ra, .inl (cI, 28, .inl rf)), (px, .inl (cI, 100, .inl xf)), (py, .inl (cI, 100, .inl yf)), (oa, .inl (cL, 1, .inr (.inl of)))]) [0, 1, 2, 3, 4] rfl
    have hD9 := hD.sub (ws' := [(h0, .inr (0, [.ref ta, .ref ra, .int wet, .int less, .ref px, .ref py, .int pn, .ref qx, .ref qy, .int qn, .ref ml])), (ra, .inl (cI, 28, .inl rf)), (px, .inl (cI, 100, .inl xf)), (py, .inl (cI, 100, .inl yf)), (oa, .inl (cL, 1, .inr (.inl of)))]) [0, 1, 2, 3, 4] (by decide) rfl
    refine W.widen (k := 1) (n := 6) (by omega) (by omega) ?_
    exact W.iret (v := 2) hx hb hr (fun t ht hW => ⟨_, _, rfl, ⟨by rw [e_0]; try rfl, by rw [e_1, e_2, e_3, e_4]⟩, by rw [ht]; exact hP9, hD9, hS.F ht⟩) hS.2.2 dL_pattern_31
  refine xb_wr (wr := [(oa, .inl (cL, 1, .inr (.inl of)))]) (va_runV (C := "NailRules") (As := [.int kind, .int w, .int h, .int n]) (rest := [.int 0, .ref oa]) ⟨hx, hb, hml, hown, hts⟩ (cN_pattern l E _ h0 ra px py ta wet less pn qx qy qn ml rf xf yf kind w h n (xh_1 c_1) (xh_2 c_1) (xh_1 c_2) (xh_2 c_2) (xh_1 c_3) (xh_2 c_3) (xh_1 c_4) (xh_2 c_4) (xh_v c_1 0 (by decide)) (xh_v c_1 2 (by decide)) (xh_v c_1 3 (by decide)) (xh_v c_1 4 (by decide)) (xh_v c_1 5 (by decide)) (xh_n c_4)) (cwV 4 hts (xb_gi (List.forall_mem_cons.mpr ⟨xk_433, List.forall_mem_cons.mpr ⟨xk_434, List.forall_mem_cons.mpr ⟨xk_435, List.forall_mem_cons.mpr ⟨xk_40, List.forall_mem_cons.mpr ⟨xk_436, fun _ h => absurd h List.not_mem_nil⟩⟩⟩⟩⟩)) rfl rfl rfl (by decide +kernel) ⟨Nat.le_of_ble_eq_true rfl, Nat.le_of_ble_eq_true rfl⟩) ⟨fun _ _ _ _ q => q, va_recv hK hP (ci := 0) (q0 := 0) rfl rfl, fun U hU hW => ⟨rfl, xb_atS hAt hS hA0 hU hW, by rw [hU], by rw [hU]; exact hP.sub (ws' := [(h0, .inr (0, [.ref ta, .ref ra, .int wet, .int less, .ref px, .ref py, .int pn, .ref qx, .ref qy, .int qn, .ref ml])), (ra, .inl (cI, 28, .inl rf)), (px, .inl (cI, 100, .inl xf)), (py, .inl (cI, 100, .inl yf))]) [0, 1, 2, 3] rfl, (hD.sub (ws' := [(h0, .inr (0, [.ref ta, .ref ra, .int wet, .int less, .ref px, .ref py, .int pn, .ref qx, .ref qy, .int qn, .ref ml])), (ra, .inl (cI, 28, .inl rf)), (px, .inl (cI, 100, .inl xf)), (py, .inl (cI, 100, .inl yf))]) [0, 1, 2, 3] (by decide) rfl).weaken (fun _ q _ h => hA0 q.1 h)⟩⟩ rfl rfl hl.1 rfl (lv_room (Nat.le_of_ble_eq_true rfl)) dL_pattern_9 ⟨Nat.le_of_ble_eq_true rfl, Nat.le_of_ble_eq_true rfl⟩) hP hD hS hA [0, 1, 2, 3] [4] rfl rfl (by decide) (by decide) ?_
  rintro _ _ H locs ⟨rfl, rfl⟩ hP hD hS
  have hP : va_P (dC, dI) classes [(oa, .inl (cL, 1, .inr (.inl of))), (h0, .inr (0, [.ref ta, .ref ra, .int wet, .int less, .ref px, .ref py, .int (gN_pattern_6 rf xf yf pn kind w h n), .ref qx, .ref qy, .int qn, .ref ml])), (ra, .inl (cI, 28, .inl rf)), (px, .inl (cI, 100, .inl (gN_pattern_x rf xf yf pn kind w h n))), (py, .inl (cI, 100, .inl (gN_pattern_y rf xf yf pn kind w h n)))] H := hP
  have hD : va_D A [(oa, .inl (cL, 1, .inr (.inl of))), (h0, .inr (0, [.ref ta, .ref ra, .int wet, .int less, .ref px, .ref py, .int (gN_pattern_6 rf xf yf pn kind w h n), .ref qx, .ref qy, .int qn, .ref ml])), (ra, .inl (cI, 28, .inl rf)), (px, .inl (cI, 100, .inl (gN_pattern_x rf xf yf pn kind w h n))), (py, .inl (cI, 100, .inl (gN_pattern_y rf xf yf pn kind w h n)))] := hD
  refine lv_if_eq (tgt := 19) hx hb dL_pattern_12 (by decide) (fun c_5 => ?_) (fun c_5 => ?_)
  · have c_5 := xb_bi_f.mp c_5
    refine lv_lconst (v := 0) hx hb dL_pattern_19 (by decide) ?_
    have o_6 : vp_in (0 : Int32) 1 := by unfold vp_in; decide
    refine va_last hx hb hK hP hD hS 0 2 rfl rfl o_6 dL_pattern_20 (fun H locs hP hD hS => ?_)
    have hP : va_P (dC, dI) classes [(oa, .inl (cL, 1, .inr (.inl (vp_updL of (0 : Int32).toNatClampNeg 0)))), (h0, .inr (0, [.ref ta, .ref ra, .int wet, .int less, .ref px, .ref py, .int (gN_pattern_6 rf xf yf pn kind w h n), .ref qx, .ref qy, .int qn, .ref ml])), (ra, .inl (cI, 28, .inl rf)), (px, .inl (cI, 100, .inl (gN_pattern_x rf xf yf pn kind w h n))), (py, .inl (cI, 100, .inl (gN_pattern_y rf xf yf pn kind w h n)))] H := hP
    have hD : va_D A [(oa, .inl (cL, 1, .inr (.inl (vp_updL of (0 : Int32).toNatClampNeg 0)))), (h0, .inr (0, [.ref ta, .ref ra, .int wet, .int less, .ref px, .ref py, .int (gN_pattern_6 rf xf yf pn kind w h n), .ref qx, .ref qy, .int qn, .ref ml])), (ra, .inl (cI, 28, .inl rf)), (px, .inl (cI, 100, .inl (gN_pattern_x rf xf yf pn kind w h n))), (py, .inl (cI, 100, .inl (gN_pattern_y rf xf yf pn kind w h n)))] := hD
    refine lv_goto (tgt := 32) hx hb dL_pattern_21 (by decide) ?_
    refine lv_iconst (v := 0) hx hb dL_pattern_32 (by decide) ?_
    have e_0 : gL_pattern rf xf yf pn kind w h n of = (0 : Int32) := (if_neg c_1).trans ((if_neg c_2).trans ((if_neg c_3).trans ((if_neg c_4).trans ((if_neg c_5).trans (rfl)))))
    have e_1 : gL_pattern_6 rf xf yf pn kind w h n of = (gN_pattern_6 rf xf yf pn kind w h n) := (if_neg c_1).trans ((if_neg c_2).trans ((if_neg c_3).trans ((if_neg c_4).trans ((if_neg c_5).trans (rfl)))))
    have e_2 : gL_pattern_px rf xf yf pn kind w h n of = (gN_pattern_x rf xf yf pn kind w h n) := (if_neg c_1).trans ((if_neg c_2).trans ((if_neg c_3).trans ((if_neg c_4).trans ((if_neg c_5).trans (rfl)))))
    have e_3 : gL_pattern_py rf xf yf pn kind w h n of = (gN_pattern_y rf xf yf pn kind w h n) := (if_neg c_1).trans ((if_neg c_2).trans ((if_neg c_3).trans ((if_neg c_4).trans ((if_neg c_5).trans (rfl)))))
    have e_4 : gL_pattern_f rf xf yf pn kind w h n of = (vp_updL of (0 : Int32).toNatClampNeg 0) := (if_neg c_1).trans ((if_neg c_2).trans ((if_neg c_3).trans ((if_neg c_4).trans ((if_neg c_5).trans (rfl)))))
    have hP9 := hP.sub (ws' := [(h0, .inr (0, [.ref ta, .ref ra, .int wet, .int less, .ref px, .ref py, .int (gN_pattern_6 rf xf yf pn kind w h n), .ref qx, .ref qy, .int qn, .ref ml])), (ra, .inl (cI, 28, .inl rf)), (px, .inl (cI, 100, .inl (gN_pattern_x rf xf yf pn kind w h n))), (py, .inl (cI, 100, .inl (gN_pattern_y rf xf yf pn kind w h n))), (oa, .inl (cL, 1, .inr (.inl (vp_updL of (0 : Int32).toNatClampNeg 0))))]) [1, 2, 3, 4, 0] rfl
    have hD9 := hD.sub (ws' := [(h0, .inr (0, [.ref ta, .ref ra, .int wet, .int less, .ref px, .ref py, .int (gN_pattern_6 rf xf yf pn kind w h n), .ref qx, .ref qy, .int qn, .ref ml])), (ra, .inl (cI, 28, .inl rf)), (px, .inl (cI, 100, .inl (gN_pattern_x rf xf yf pn kind w h n))), (py, .inl (cI, 100, .inl (gN_pattern_y rf xf yf pn kind w h n))), (oa, .inl (cL, 1, .inr (.inl (vp_updL of (0 : Int32).toNatClampNeg 0))))]) [1, 2, 3, 4, 0] (by decide) rfl
    refine W.widen (k := 1) (n := 6) (by omega) (by omega) ?_
    exact W.iret (v := 0) hx hb hr (fun t ht hW => ⟨_, _, rfl, ⟨by rw [e_0]; try rfl, by rw [e_1, e_2, e_3, e_4]⟩, by rw [ht]; exact hP9, hD9, hS.F ht⟩) hS.2.2 dL_pattern_33
  · have c_5 := xb_bi_t.mp c_5
    refine lv_lconst (v := 1) hx hb dL_pattern_15 (by decide) ?_
    refine lv_goto (tgt := 20) hx hb dL_pattern_16 (by decide) ?_
    have o_7 : vp_in (0 : Int32) 1 := by unfold vp_in; decide
    refine va_last hx hb hK hP hD hS 0 2 rfl rfl o_7 dL_pattern_20 (fun H locs hP hD hS => ?_)
    have hP : va_P (dC, dI) classes [(oa, .inl (cL, 1, .inr (.inl (vp_updL of (0 : Int32).toNatClampNeg 1)))), (h0, .inr (0, [.ref ta, .ref ra, .int wet, .int less, .ref px, .ref py, .int (gN_pattern_6 rf xf yf pn kind w h n), .ref qx, .ref qy, .int qn, .ref ml])), (ra, .inl (cI, 28, .inl rf)), (px, .inl (cI, 100, .inl (gN_pattern_x rf xf yf pn kind w h n))), (py, .inl (cI, 100, .inl (gN_pattern_y rf xf yf pn kind w h n)))] H := hP
    have hD : va_D A [(oa, .inl (cL, 1, .inr (.inl (vp_updL of (0 : Int32).toNatClampNeg 1)))), (h0, .inr (0, [.ref ta, .ref ra, .int wet, .int less, .ref px, .ref py, .int (gN_pattern_6 rf xf yf pn kind w h n), .ref qx, .ref qy, .int qn, .ref ml])), (ra, .inl (cI, 28, .inl rf)), (px, .inl (cI, 100, .inl (gN_pattern_x rf xf yf pn kind w h n))), (py, .inl (cI, 100, .inl (gN_pattern_y rf xf yf pn kind w h n)))] := hD
    refine lv_goto (tgt := 32) hx hb dL_pattern_21 (by decide) ?_
    refine lv_iconst (v := 0) hx hb dL_pattern_32 (by decide) ?_
    have e_0 : gL_pattern rf xf yf pn kind w h n of = (0 : Int32) := (if_neg c_1).trans ((if_neg c_2).trans ((if_neg c_3).trans ((if_neg c_4).trans ((if_pos c_5).trans (rfl)))))
    have e_1 : gL_pattern_6 rf xf yf pn kind w h n of = (gN_pattern_6 rf xf yf pn kind w h n) := (if_neg c_1).trans ((if_neg c_2).trans ((if_neg c_3).trans ((if_neg c_4).trans ((if_pos c_5).trans (rfl)))))
    have e_2 : gL_pattern_px rf xf yf pn kind w h n of = (gN_pattern_x rf xf yf pn kind w h n) := (if_neg c_1).trans ((if_neg c_2).trans ((if_neg c_3).trans ((if_neg c_4).trans ((if_pos c_5).trans (rfl)))))
    have e_3 : gL_pattern_py rf xf yf pn kind w h n of = (gN_pattern_y rf xf yf pn kind w h n) := (if_neg c_1).trans ((if_neg c_2).trans ((if_neg c_3).trans ((if_neg c_4).trans ((if_pos c_5).trans (rfl)))))
    have e_4 : gL_pattern_f rf xf yf pn kind w h n of = (vp_updL of (0 : Int32).toNatClampNeg 1) := (if_neg c_1).trans ((if_neg c_2).trans ((if_neg c_3).trans ((if_neg c_4).trans ((if_pos c_5).trans (rfl)))))
    have hP9 := hP.sub (ws' := [(h0, .inr (0, [.ref ta, .ref ra, .int wet, .int less, .ref px, .ref py, .int (gN_pattern_6 rf xf yf pn kind w h n), .ref qx, .ref qy, .int qn, .ref ml])), (ra, .inl (cI, 28, .inl rf)), (px, .inl (cI, 100, .inl (gN_pattern_x rf xf yf pn kind w h n))), (py, .inl (cI, 100, .inl (gN_pattern_y rf xf yf pn kind w h n))), (oa, .inl (cL, 1, .inr (.inl (vp_updL of (0 : Int32).toNatClampNeg 1))))]) [1, 2, 3, 4, 0] rfl
    have hD9 := hD.sub (ws' := [(h0, .inr (0, [.ref ta, .ref ra, .int wet, .int less, .ref px, .ref py, .int (gN_pattern_6 rf xf yf pn kind w h n), .ref qx, .ref qy, .int qn, .ref ml])), (ra, .inl (cI, 28, .inl rf)), (px, .inl (cI, 100, .inl (gN_pattern_x rf xf yf pn kind w h n))), (py, .inl (cI, 100, .inl (gN_pattern_y rf xf yf pn kind w h n))), (oa, .inl (cL, 1, .inr (.inl (vp_updL of (0 : Int32).toNatClampNeg 1))))]) [1, 2, 3, 4, 0] (by decide) rfl
    refine W.widen (k := 1) (n := 6) (by omega) (by omega) ?_
    exact W.iret (v := 0) hx hb hr (fun t ht hW => ⟨_, _, rfl, ⟨by rw [e_0]; try rfl, by rw [e_1, e_2, e_3, e_4]⟩, by rw [ht]; exact hP9, hD9, hS.F ht⟩) hS.2.2 dL_pattern_33

def gL_at (xf : Nat → Int32) (yf : Nat → Int32) (pn : Int32) (k9 : Int32) (axis : Int32) (of : Nat → Int64) : Int32 := if pn = 0 then ((1)) else (if k9 < 0 ∨ ¬ k9 < pn then ((2)) else (if axis < 0 ∨ ¬ axis < 2 then ((2)) else ((0))))
def gL_at_f (xf : Nat → Int32) (yf : Nat → Int32) (pn : Int32) (k9 : Int32) (axis : Int32) (of : Nat → Int64) : Nat → Int64 := if pn = 0 then (of) else (if k9 < 0 ∨ ¬ k9 < pn then (of) else (if axis < 0 ∨ ¬ axis < 2 then (of) else (vp_updL of (0 : Int32).toNatClampNeg ((fN_at xf yf pn k9 axis).toInt64))))
set_option maxHeartbeats 4000000 in
set_option maxRecDepth 100000 in
theorem cL_at (l : Launch) {s0 : State} {dC : Nat → ClassId} {dI : Nat → Nat → Nat} {cI cC cL cO : ClassId} (E : xb_Env l s0 dC dI (xtys cI cC cL cO)) (sz : Nat) (h0 : Nat) (px : Nat) (py : Nat) (oa : Nat) (ta : Nat) (ra : Nat) (wet : Int32) (less : Int32) (pn : Int32) (qx : Nat) (qy : Nat) (qn : Int32) (ml : Nat) (xf : Nat → Int32) (yf : Nat → Int32) (of : Nat → Int64) (k9 : Int32) (axis : Int32) (hp9 : pn ≤ 100) : Met l yL_at [.codeWith yL_at bL_at 5 (some (.int)) [(0, 10, 13, 40), (0, 10, 17, 13)]] ({ frames := 8, cells := 1, slots := 6, locals := 125 }) (va_Pc [.ref h0, .int k9, .int axis, .ref oa] (fun U => xb_At s0 U ∧ U.heap.size = sz ∧ va_P (dC, dI) classes [(h0, .inr (0, [.ref ta, .ref ra, .int wet, .int less, .ref px, .ref py, .int pn, .ref qx, .ref qy, .int qn, .ref ml])), (px, .inl (cI, 100, .inl xf)), (py, .inl (cI, 100, .inl yf)), (oa, .inl (cL, 1, .inr (.inl of)))] U.heap ∧ va_D (fun q => s0.heap.size ≤ q) [(h0, .inr (0, [.ref ta, .ref ra, .int wet, .int less, .ref px, .ref py, .int pn, .ref qx, .ref qy, .int qn, .ref ml])), (px, .inl (cI, 100, .inl xf)), (py, .inl (cI, 100, .inl yf)), (oa, .inl (cL, 1, .inr (.inl of)))])) (xb_W (dC, dI) (fun v9 w9 => v9 = some (.int (gL_at xf yf pn k9 axis of)) ∧ w9 = [(h0, .inr (0, [.ref ta, .ref ra, .int wet, .int less, .ref px, .ref py, .int pn, .ref qx, .ref qy, .int qn, .ref ml])), (px, .inl (cI, 100, .inl xf)), (py, .inl (cI, 100, .inl yf)), (oa, .inl (cL, 1, .inr (.inl (gL_at_f xf yf pn k9 axis of))))]) (va_A [(h0, .inr (0, [.ref ta, .ref ra, .int wet, .int less, .ref px, .ref py, .int pn, .ref qx, .ref qy, .int qn, .ref ml])), (px, .inl (cI, 100, .inl xf)), (py, .inl (cI, 100, .inl yf)), (oa, .inl (cL, 1, .inr (.inl of)))] sz)) 1 6 (va_A [(h0, .inr (0, [.ref ta, .ref ra, .int wet, .int less, .ref px, .ref py, .int pn, .ref qx, .ref qy, .int qn, .ref ml])), (px, .inl (cI, 100, .inl xf)), (py, .inl (cI, 100, .inl yf)), (oa, .inl (cL, 1, .inr (.inl of)))] sz) := by
  refine xw_ofW (cc := bL_at) (maxL := 5) (ret := (some (.int))) (hs := [(0, 10, 13, 40), (0, 10, 17, 13)]) (by decide) rfl ?_
  intro p e s m args below meth c s₁ B hml htab hv
  obtain ⟨rfl, hAt, hsz, hP, hD0⟩ := hv
  have hx := B.exec
  have hb := B.bytes
  have hr := B.returns
  have hts := xb_hts E hAt ([.ref h0, .int k9, .int axis, .ref oa] : List Value).toArray
  have hown : s.vm.findClass "NailRulesLaw" = some m.cls := findClass_of_methodNamed B.named
  have hlocks := B.notSynchronized
  have hK := xb_K E hAt
  subst hsz
  have hA0 := xb_A0 hAt hD0
  have hD := hD0.self (sz := s.heap.size)
  generalize hAe : va_A [(h0, .inr (0, [.ref ta, .ref ra, .int wet, .int less, .ref px, .ref py, .int pn, .ref qx, .ref qy, .int qn, .ref ml])), (px, .inl (cI, 100, .inl xf)), (py, .inl (cI, 100, .inl yf)), (oa, .inl (cL, 1, .inr (.inl of)))] s.heap.size = A at hD hA0 ⊢
  have hA : ∀ q : Nat, s.heap.size ≤ q → A q := fun q h => by rw [← hAe]; exact Or.inr h
  have hS : va_S A s.heap s.heap [] := va_S.rf
  have hl := lv_entry ([.ref h0, .int k9, .int axis, .ref oa]) (n := 5) (Nat.le_of_ble_eq_true rfl)
  rw [lg_entry_eq]
  generalize (lg_sl ([.ref h0, .int k9, .int axis, .ref oa]) ++ List.replicate (5 - (lg_sl ([.ref h0, .int k9, .int axis, .ref oa])).length) Slot.unset).toArray = ls at hl ⊢
  have hl : lv_has ls 5 [(0, .ref h0), (1, .int k9), (2, .int axis), (3, .ref oa)] := hl
  refine lv_aload_n hx hb dL_at_0 rfl (lv_at hl 3 rfl) ?_
  refine lv_iconst (v := 0) hx hb dL_at_1 (by decide) ?_
  refine lv_aload_n hx hb dL_at_2 rfl (lv_at hl 0 rfl) ?_
  refine lv_iload_n hx hb dL_at_3 rfl (lv_at hl 1 rfl) ?_
  refine lv_iload_n hx hb dL_at_4 rfl (lv_at hl 2 rfl) ?_
  by_cases c_1 : pn = 0
  · refine xw_c1 (xt_runV (Cr := "NailRules") (As := [.int k9, .int axis]) (rest := [.int 0, .ref oa]) ⟨hx, hb, hml, hown, hts⟩ (cN_at_x0 l E h0 ([.ref ta, .ref ra, .int wet, .int less, .ref px, .ref py, .int pn, .ref qx, .ref qy, .int qn, .ref ml]) pn k9 axis rfl (c_1)) (cwV 2 hts (xb_gi (List.forall_mem_cons.mpr ⟨xk_453, List.forall_mem_cons.mpr ⟨xk_454, List.forall_mem_cons.mpr ⟨xk_455, List.forall_mem_cons.mpr ⟨xk_40, List.forall_mem_cons.mpr ⟨xk_456, fun _ h => absurd h List.not_mem_nil⟩⟩⟩⟩⟩)) rfl rfl rfl (by decide +kernel) ⟨Nat.le_of_ble_eq_true rfl, Nat.le_of_ble_eq_true rfl⟩) ⟨fun _ _ _ _ q => q, va_recv hK hP (ci := 0) (q0 := 0) rfl rfl, fun U hU hW => ⟨rfl, xb_atS hAt hS hA0 hU hW, by rw [hU]; exact hP.sub (ws' := [(h0, .inr (0, [.ref ta, .ref ra, .int wet, .int less, .ref px, .ref py, .int pn, .ref qx, .ref qy, .int qn, .ref ml]))]) [0] rfl⟩⟩ rfl rfl hl.1 rfl (lv_room (Nat.le_of_ble_eq_true rfl)) dL_at_5 ⟨Nat.le_of_ble_eq_true rfl, Nat.le_of_ble_eq_true rfl⟩) hown htab rfl (by decide) (hts _ xk_452) (va_Nw.use rfl (xa_cst E hAt xk_459)) (fun q9 H hz9 hk9 => ?_)
    have hP := xw_P hP hk9
    have hS := xw_S hS hz9 hk9
    refine W.widen (k := 1) (n := 6) (by omega) (by omega) ?_
    refine lv_astore (lv' := [(4, .ref q9), (0, .ref h0), (1, .int k9), (2, .int axis), (3, .ref oa)]) hx hb dL_at_13 hl (by decide) rfl (fun ls hl => ?_)
    refine lv_iconst (v := 1) hx hb dL_at_15 (by decide) ?_
    have e_0 : gL_at xf yf pn k9 axis of = (1 : Int32) := (if_pos c_1).trans (rfl)
    have e_1 : gL_at_f xf yf pn k9 axis of = of := (if_pos c_1).trans (rfl)
    have hP9 := hP.sub (ws' := [(h0, .inr (0, [.ref ta, .ref ra, .int wet, .int less, .ref px, .ref py, .int pn, .ref qx, .ref qy, .int qn, .ref ml])), (px, .inl (cI, 100, .inl xf)), (py, .inl (cI, 100, .inl yf)), (oa, .inl (cL, 1, .inr (.inl of)))]) [0, 1, 2, 3] rfl
    have hD9 := hD.sub (ws' := [(h0, .inr (0, [.ref ta, .ref ra, .int wet, .int less, .ref px, .ref py, .int pn, .ref qx, .ref qy, .int qn, .ref ml])), (px, .inl (cI, 100, .inl xf)), (py, .inl (cI, 100, .inl yf)), (oa, .inl (cL, 1, .inr (.inl of)))]) [0, 1, 2, 3] (by decide) rfl
    refine W.widen (k := 1) (n := 6) (by omega) (by omega) ?_
    exact W.iret (v := 1) hx hb hr (fun t ht hW => ⟨_, _, rfl, ⟨by rw [e_0]; try rfl, by rw [e_1]⟩, by rw [ht]; exact hP9, hD9, hS.F ht⟩) hS.2.2 dL_at_16
  by_cases c_2 : k9 < 0 ∨ ¬ k9 < pn
  · obtain ⟨c9, hc9, hno9⟩ := xc_nc_IO_IS E hAt
    refine xw_c2 (xt_runV (Cr := "NailRules") (As := [.int k9, .int axis]) (rest := [.int 0, .ref oa]) ⟨hx, hb, hml, hown, hts⟩ (cN_at_x1 l E h0 ([.ref ta, .ref ra, .int wet, .int less, .ref px, .ref py, .int pn, .ref qx, .ref qy, .int qn, .ref ml]) pn k9 axis rfl (c_1) (c_2)) (cwV 2 hts (xb_gi (List.forall_mem_cons.mpr ⟨xk_453, List.forall_mem_cons.mpr ⟨xk_454, List.forall_mem_cons.mpr ⟨xk_455, List.forall_mem_cons.mpr ⟨xk_40, List.forall_mem_cons.mpr ⟨xk_456, fun _ h => absurd h List.not_mem_nil⟩⟩⟩⟩⟩)) rfl rfl rfl (by decide +kernel) ⟨Nat.le_of_ble_eq_true rfl, Nat.le_of_ble_eq_true rfl⟩) ⟨fun _ _ _ _ q => q, va_recv hK hP (ci := 0) (q0 := 0) rfl rfl, fun U hU hW => ⟨rfl, xb_atS hAt hS hA0 hU hW, by rw [hU]; exact hP.sub (ws' := [(h0, .inr (0, [.ref ta, .ref ra, .int wet, .int less, .ref px, .ref py, .int pn, .ref qx, .ref qy, .int qn, .ref ml]))]) [0] rfl⟩⟩ rfl rfl hl.1 rfl (lv_room (Nat.le_of_ble_eq_true rfl)) dL_at_5 ⟨Nat.le_of_ble_eq_true rfl, Nat.le_of_ble_eq_true rfl⟩) hown htab rfl (by decide) rfl (by decide) (hts _ xk_452) (hts _ xk_283) hc9 hno9 (va_Nw.use rfl (xa_cst E hAt xk_293)) (fun q9 H hz9 hk9 => ?_)
    have hP := xw_P hP hk9
    have hS := xw_S hS hz9 hk9
    refine W.widen (k := 1) (n := 6) (by omega) (by omega) ?_
    refine lv_astore (lv' := [(4, .ref q9), (0, .ref h0), (1, .int k9), (2, .int axis), (3, .ref oa)]) hx hb dL_at_17 hl (by decide) rfl (fun ls hl => ?_)
    refine lv_iconst (v := 2) hx hb dL_at_19 (by decide) ?_
    have e_0 : gL_at xf yf pn k9 axis of = (2 : Int32) := (if_neg c_1).trans ((if_pos c_2).trans (rfl))
    have e_1 : gL_at_f xf yf pn k9 axis of = of := (if_neg c_1).trans ((if_pos c_2).trans (rfl))
    have hP9 := hP.sub (ws' := [(h0, .inr (0, [.ref ta, .ref ra, .int wet, .int less, .ref px, .ref py, .int pn, .ref qx, .ref qy, .int qn, .ref ml])), (px, .inl (cI, 100, .inl xf)), (py, .inl (cI, 100, .inl yf)), (oa, .inl (cL, 1, .inr (.inl of)))]) [0, 1, 2, 3] rfl
    have hD9 := hD.sub (ws' := [(h0, .inr (0, [.ref ta, .ref ra, .int wet, .int less, .ref px, .ref py, .int pn, .ref qx, .ref qy, .int qn, .ref ml])), (px, .inl (cI, 100, .inl xf)), (py, .inl (cI, 100, .inl yf)), (oa, .inl (cL, 1, .inr (.inl of)))]) [0, 1, 2, 3] (by decide) rfl
    refine W.widen (k := 1) (n := 6) (by omega) (by omega) ?_
    exact W.iret (v := 2) hx hb hr (fun t ht hW => ⟨_, _, rfl, ⟨by rw [e_0]; try rfl, by rw [e_1]⟩, by rw [ht]; exact hP9, hD9, hS.F ht⟩) hS.2.2 dL_at_20
  by_cases c_3 : axis < 0 ∨ ¬ axis < 2
  · obtain ⟨c9, hc9, hno9⟩ := xc_nc_IO_IS E hAt
    refine xw_c2 (xt_runV (Cr := "NailRules") (As := [.int k9, .int axis]) (rest := [.int 0, .ref oa]) ⟨hx, hb, hml, hown, hts⟩ (cN_at_x2 l E h0 ([.ref ta, .ref ra, .int wet, .int less, .ref px, .ref py, .int pn, .ref qx, .ref qy, .int qn, .ref ml]) pn k9 axis rfl (c_1) (xh_1 c_2) (xh_2 c_2) (c_3)) (cwV 2 hts (xb_gi (List.forall_mem_cons.mpr ⟨xk_453, List.forall_mem_cons.mpr ⟨xk_454, List.forall_mem_cons.mpr ⟨xk_455, List.forall_mem_cons.mpr ⟨xk_40, List.forall_mem_cons.mpr ⟨xk_456, fun _ h => absurd h List.not_mem_nil⟩⟩⟩⟩⟩)) rfl rfl rfl (by decide +kernel) ⟨Nat.le_of_ble_eq_true rfl, Nat.le_of_ble_eq_true rfl⟩) ⟨fun _ _ _ _ q => q, va_recv hK hP (ci := 0) (q0 := 0) rfl rfl, fun U hU hW => ⟨rfl, xb_atS hAt hS hA0 hU hW, by rw [hU]; exact hP.sub (ws' := [(h0, .inr (0, [.ref ta, .ref ra, .int wet, .int less, .ref px, .ref py, .int pn, .ref qx, .ref qy, .int qn, .ref ml]))]) [0] rfl⟩⟩ rfl rfl hl.1 rfl (lv_room (Nat.le_of_ble_eq_true rfl)) dL_at_5 ⟨Nat.le_of_ble_eq_true rfl, Nat.le_of_ble_eq_true rfl⟩) hown htab rfl (by decide) rfl (by decide) (hts _ xk_452) (hts _ xk_283) hc9 hno9 (va_Nw.use rfl (xa_cst E hAt xk_293)) (fun q9 H hz9 hk9 => ?_)
    have hP := xw_P hP hk9
    have hS := xw_S hS hz9 hk9
    refine W.widen (k := 1) (n := 6) (by omega) (by omega) ?_
    refine lv_astore (lv' := [(4, .ref q9), (0, .ref h0), (1, .int k9), (2, .int axis), (3, .ref oa)]) hx hb dL_at_17 hl (by decide) rfl (fun ls hl => ?_)
    refine lv_iconst (v := 2) hx hb dL_at_19 (by decide) ?_
    have e_0 : gL_at xf yf pn k9 axis of = (2 : Int32) := (if_neg c_1).trans ((if_neg c_2).trans ((if_pos c_3).trans (rfl)))
    have e_1 : gL_at_f xf yf pn k9 axis of = of := (if_neg c_1).trans ((if_neg c_2).trans ((if_pos c_3).trans (rfl)))
    have hP9 := hP.sub (ws' := [(h0, .inr (0, [.ref ta, .ref ra, .int wet, .int less, .ref px, .ref py, .int pn, .ref qx, .ref qy, .int qn, .ref ml])), (px, .inl (cI, 100, .inl xf)), (py, .inl (cI, 100, .inl yf)), (oa, .inl (cL, 1, .inr (.inl of)))]) [0, 1, 2, 3] rfl
    have hD9 := hD.sub (ws' := [(h0, .inr (0, [.ref ta, .ref ra, .int wet, .int less, .ref px, .ref py, .int pn, .ref qx, .ref qy, .int qn, .ref ml])), (px, .inl (cI, 100, .inl xf)), (py, .inl (cI, 100, .inl yf)), (oa, .inl (cL, 1, .inr (.inl of)))]) [0, 1, 2, 3] (by decide) rfl
    refine W.widen (k := 1) (n := 6) (by omega) (by omega) ?_
    exact W.iret (v := 2) hx hb hr (fun t ht hW => ⟨_, _, rfl, ⟨by rw [e_0]; try rfl, by rw [e_1]⟩, by rw [ht]; exact hP9, hD9, hS.F ht⟩) hS.2.2 dL_at_20
  refine xb_rd (W.runV (C := "NailRules") (As := [.int k9, .int axis]) (rest := [.int 0, .ref oa]) ⟨hx, hb, hml, hown, hts⟩ (cN_at l E h0 ([.ref ta, .ref ra, .int wet, .int less, .ref px, .ref py, .int pn, .ref qx, .ref qy, .int qn, .ref ml]) px xf py yf pn k9 axis rfl rfl rfl (c_1) (xh_1 c_2) (xh_2 c_2) (xh_1 c_3) (xh_2 c_3) (xh_p hp9 c_2)) (cwV 2 hts (xb_gi (List.forall_mem_cons.mpr ⟨xk_453, List.forall_mem_cons.mpr ⟨xk_454, List.forall_mem_cons.mpr ⟨xk_455, List.forall_mem_cons.mpr ⟨xk_40, List.forall_mem_cons.mpr ⟨xk_456, fun _ h => absurd h List.not_mem_nil⟩⟩⟩⟩⟩)) rfl rfl rfl (by decide +kernel) ⟨Nat.le_of_ble_eq_true rfl, Nat.le_of_ble_eq_true rfl⟩) ⟨fun _ _ _ _ q => q, va_recv hK hP (ci := 0) (q0 := 0) rfl rfl, fun U hU hW => ⟨rfl, xb_atS hAt hS hA0 hU hW, by rw [hU]; exact hP.sub (ws' := [(h0, .inr (0, [.ref ta, .ref ra, .int wet, .int less, .ref px, .ref py, .int pn, .ref qx, .ref qy, .int qn, .ref ml])), (px, .inl (cI, 100, .inl xf)), (py, .inl (cI, 100, .inl yf))]) [0, 1, 2] rfl⟩⟩ rfl rfl hl.1 rfl (lv_room (Nat.le_of_ble_eq_true rfl)) dL_at_5 ⟨Nat.zero_le _, Nat.zero_le _⟩) ?_
  refine lv_i2l hx hb dL_at_8 rfl ?_
  have o_4 : vp_in (0 : Int32) 1 := by unfold vp_in; decide
  refine va_last hx hb hK hP hD hS 3 2 rfl rfl o_4 dL_at_9 (fun H locs hP hD hS => ?_)
  have hP : va_P (dC, dI) classes [(h0, .inr (0, [.ref ta, .ref ra, .int wet, .int less, .ref px, .ref py, .int pn, .ref qx, .ref qy, .int qn, .ref ml])), (px, .inl (cI, 100, .inl xf)), (py, .inl (cI, 100, .inl yf)), (oa, .inl (cL, 1, .inr (.inl (vp_updL of (0 : Int32).toNatClampNeg ((fN_at xf yf pn k9 axis).toInt64)))))] H := hP
  have hD : va_D A [(h0, .inr (0, [.ref ta, .ref ra, .int wet, .int less, .ref px, .ref py, .int pn, .ref qx, .ref qy, .int qn, .ref ml])), (px, .inl (cI, 100, .inl xf)), (py, .inl (cI, 100, .inl yf)), (oa, .inl (cL, 1, .inr (.inl (vp_updL of (0 : Int32).toNatClampNeg ((fN_at xf yf pn k9 axis).toInt64)))))] := hD
  refine lv_goto (tgt := 21) hx hb dL_at_10 (by decide) ?_
  refine lv_iconst (v := 0) hx hb dL_at_21 (by decide) ?_
  have e_0 : gL_at xf yf pn k9 axis of = (0 : Int32) := (if_neg c_1).trans ((if_neg c_2).trans ((if_neg c_3).trans (rfl)))
  have e_1 : gL_at_f xf yf pn k9 axis of = (vp_updL of (0 : Int32).toNatClampNeg ((fN_at xf yf pn k9 axis).toInt64)) := (if_neg c_1).trans ((if_neg c_2).trans ((if_neg c_3).trans (rfl)))
  have hP9 := hP.sub (ws' := [(h0, .inr (0, [.ref ta, .ref ra, .int wet, .int less, .ref px, .ref py, .int pn, .ref qx, .ref qy, .int qn, .ref ml])), (px, .inl (cI, 100, .inl xf)), (py, .inl (cI, 100, .inl yf)), (oa, .inl (cL, 1, .inr (.inl (vp_updL of (0 : Int32).toNatClampNeg ((fN_at xf yf pn k9 axis).toInt64)))))]) [0, 1, 2, 3] rfl
  have hD9 := hD.sub (ws' := [(h0, .inr (0, [.ref ta, .ref ra, .int wet, .int less, .ref px, .ref py, .int pn, .ref qx, .ref qy, .int qn, .ref ml])), (px, .inl (cI, 100, .inl xf)), (py, .inl (cI, 100, .inl yf)), (oa, .inl (cL, 1, .inr (.inl (vp_updL of (0 : Int32).toNatClampNeg ((fN_at xf yf pn k9 axis).toInt64)))))]) [0, 1, 2, 3] (by decide) rfl
  refine W.widen (k := 1) (n := 6) (by omega) (by omega) ?_
  exact W.iret (v := 0) hx hb hr (fun t ht hW => ⟨_, _, rfl, ⟨by rw [e_0]; try rfl, by rw [e_1]⟩, by rw [ht]; exact hP9, hD9, hS.F ht⟩) hS.2.2 dL_at_22

def gL_place (xf : Nat → Int32) (yf : Nat → Int32) (qn : Int32) (x : Int32) (y : Int32) (of : Nat → Int64) : Int32 := if x.toInt64 < 0 ∨ ¬ x.toInt64 ≤ 100000 then ((1)) else (if y.toInt64 < 0 ∨ ¬ y.toInt64 ≤ 100000 then ((1)) else (if ¬ qn < 32 then ((2)) else ((0))))
def gL_place_9 (xf : Nat → Int32) (yf : Nat → Int32) (qn : Int32) (x : Int32) (y : Int32) (of : Nat → Int64) : Int32 := if x.toInt64 < 0 ∨ ¬ x.toInt64 ≤ 100000 then (qn) else (if y.toInt64 < 0 ∨ ¬ y.toInt64 ≤ 100000 then (qn) else (if ¬ qn < 32 then (qn) else (gN_place_9 xf yf qn x y)))
def gL_place_qx (xf : Nat → Int32) (yf : Nat → Int32) (qn : Int32) (x : Int32) (y : Int32) (of : Nat → Int64) : Nat → Int32 := if x.toInt64 < 0 ∨ ¬ x.toInt64 ≤ 100000 then (xf) else (if y.toInt64 < 0 ∨ ¬ y.toInt64 ≤ 100000 then (xf) else (if ¬ qn < 32 then (xf) else (gN_place_x xf yf qn x y)))
def gL_place_qy (xf : Nat → Int32) (yf : Nat → Int32) (qn : Int32) (x : Int32) (y : Int32) (of : Nat → Int64) : Nat → Int32 := if x.toInt64 < 0 ∨ ¬ x.toInt64 ≤ 100000 then (yf) else (if y.toInt64 < 0 ∨ ¬ y.toInt64 ≤ 100000 then (yf) else (if ¬ qn < 32 then (yf) else (gN_place_y xf yf qn x y)))
def gL_place_f (xf : Nat → Int32) (yf : Nat → Int32) (qn : Int32) (x : Int32) (y : Int32) (of : Nat → Int64) : Nat → Int64 := if x.toInt64 < 0 ∨ ¬ x.toInt64 ≤ 100000 then (of) else (if y.toInt64 < 0 ∨ ¬ y.toInt64 ≤ 100000 then (of) else (if ¬ qn < 32 then (of) else (vp_updL of (0 : Int32).toNatClampNeg ((gN_place xf yf qn x y).toInt64))))
set_option maxHeartbeats 4000000 in
set_option maxRecDepth 100000 in
theorem cL_place (l : Launch) {s0 : State} {dC : Nat → ClassId} {dI : Nat → Nat → Nat} {cI cC cL cO : ClassId} (E : xb_Env l s0 dC dI (xtys cI cC cL cO)) (sz : Nat) (h0 : Nat) (qx : Nat) (qy : Nat) (oa : Nat) (ta : Nat) (ra : Nat) (wet : Int32) (less : Int32) (px : Nat) (py : Nat) (pn : Int32) (qn : Int32) (ml : Nat) (xf : Nat → Int32) (yf : Nat → Int32) (of : Nat → Int64) (x : Int32) (y : Int32) (q0 : 0 ≤ qn) : Met l yL_place [.codeWith yL_place bL_place 5 (some (.int)) [(0, 10, 13, 19), (0, 10, 17, 40)]] ({ frames := 8, cells := 1, slots := 6, locals := 129 }) (va_Pc [.ref h0, .int x, .int y, .ref oa] (fun U => xb_At s0 U ∧ U.heap.size = sz ∧ va_P (dC, dI) classes [(h0, .inr (0, [.ref ta, .ref ra, .int wet, .int less, .ref px, .ref py, .int pn, .ref qx, .ref qy, .int qn, .ref ml])), (qx, .inl (cI, 32, .inl xf)), (qy, .inl (cI, 32, .inl yf)), (oa, .inl (cL, 1, .inr (.inl of)))] U.heap ∧ va_D (fun q => s0.heap.size ≤ q) [(h0, .inr (0, [.ref ta, .ref ra, .int wet, .int less, .ref px, .ref py, .int pn, .ref qx, .ref qy, .int qn, .ref ml])), (qx, .inl (cI, 32, .inl xf)), (qy, .inl (cI, 32, .inl yf)), (oa, .inl (cL, 1, .inr (.inl of)))])) (xb_W (dC, dI) (fun v9 w9 => v9 = some (.int (gL_place xf yf qn x y of)) ∧ w9 = [(h0, .inr (0, [.ref ta, .ref ra, .int wet, .int less, .ref px, .ref py, .int pn, .ref qx, .ref qy, .int (gL_place_9 xf yf qn x y of), .ref ml])), (qx, .inl (cI, 32, .inl (gL_place_qx xf yf qn x y of))), (qy, .inl (cI, 32, .inl (gL_place_qy xf yf qn x y of))), (oa, .inl (cL, 1, .inr (.inl (gL_place_f xf yf qn x y of))))]) (va_A [(h0, .inr (0, [.ref ta, .ref ra, .int wet, .int less, .ref px, .ref py, .int pn, .ref qx, .ref qy, .int qn, .ref ml])), (qx, .inl (cI, 32, .inl xf)), (qy, .inl (cI, 32, .inl yf)), (oa, .inl (cL, 1, .inr (.inl of)))] sz)) 1 6 (va_A [(h0, .inr (0, [.ref ta, .ref ra, .int wet, .int less, .ref px, .ref py, .int pn, .ref qx, .ref qy, .int qn, .ref ml])), (qx, .inl (cI, 32, .inl xf)), (qy, .inl (cI, 32, .inl yf)), (oa, .inl (cL, 1, .inr (.inl of)))] sz) := by
  refine xw_ofW (cc := bL_place) (maxL := 5) (ret := (some (.int))) (hs := [(0, 10, 13, 19), (0, 10, 17, 40)]) (by decide) rfl ?_
  intro p e s m args below meth c s₁ B hml htab hv
  obtain ⟨rfl, hAt, hsz, hP, hD0⟩ := hv
  have hx := B.exec
  have hb := B.bytes
  have hr := B.returns
  have hts := xb_hts E hAt ([.ref h0, .int x, .int y, .ref oa] : List Value).toArray
  have hown : s.vm.findClass "NailRulesLaw" = some m.cls := findClass_of_methodNamed B.named
  have hlocks := B.notSynchronized
  have hK := xb_K E hAt
  subst hsz
  have hA0 := xb_A0 hAt hD0
  have hD := hD0.self (sz := s.heap.size)
  generalize hAe : va_A [(h0, .inr (0, [.ref ta, .ref ra, .int wet, .int less, .ref px, .ref py, .int pn, .ref qx, .ref qy, .int qn, .ref ml])), (qx, .inl (cI, 32, .inl xf)), (qy, .inl (cI, 32, .inl yf)), (oa, .inl (cL, 1, .inr (.inl of)))] s.heap.size = A at hD hA0 ⊢
  have hA : ∀ q : Nat, s.heap.size ≤ q → A q := fun q h => by rw [← hAe]; exact Or.inr h
  have hS : va_S A s.heap s.heap [] := va_S.rf
  have hl := lv_entry ([.ref h0, .int x, .int y, .ref oa]) (n := 5) (Nat.le_of_ble_eq_true rfl)
  rw [lg_entry_eq]
  generalize (lg_sl ([.ref h0, .int x, .int y, .ref oa]) ++ List.replicate (5 - (lg_sl ([.ref h0, .int x, .int y, .ref oa])).length) Slot.unset).toArray = ls at hl ⊢
  have hl : lv_has ls 5 [(0, .ref h0), (1, .int x), (2, .int y), (3, .ref oa)] := hl
  refine lv_aload_n hx hb dL_place_0 rfl (lv_at hl 3 rfl) ?_
  refine lv_iconst (v := 0) hx hb dL_place_1 (by decide) ?_
  refine lv_aload_n hx hb dL_place_2 rfl (lv_at hl 0 rfl) ?_
  refine lv_iload_n hx hb dL_place_3 rfl (lv_at hl 1 rfl) ?_
  refine lv_iload_n hx hb dL_place_4 rfl (lv_at hl 2 rfl) ?_
  by_cases c_1 : x.toInt64 < 0 ∨ ¬ x.toInt64 ≤ 100000
  · refine xw_c1 (xt_runV (Cr := "NailRules") (As := [.int x, .int y]) (rest := [.int 0, .ref oa]) ⟨hx, hb, hml, hown, hts⟩ (cN_place_x1 l E h0 ([.ref ta, .ref ra, .int wet, .int less, .ref px, .ref py, .int pn, .ref qx, .ref qy, .int qn, .ref ml]) x y (c_1)) (cwV 2 hts (xb_gi (List.forall_mem_cons.mpr ⟨xk_476, List.forall_mem_cons.mpr ⟨xk_477, List.forall_mem_cons.mpr ⟨xk_478, List.forall_mem_cons.mpr ⟨xk_40, List.forall_mem_cons.mpr ⟨xk_479, fun _ h => absurd h List.not_mem_nil⟩⟩⟩⟩⟩)) rfl rfl rfl (by decide +kernel) ⟨Nat.le_of_ble_eq_true rfl, Nat.le_of_ble_eq_true rfl⟩) ⟨fun _ _ _ _ q => q, va_recv hK hP (ci := 0) (q0 := 0) rfl rfl, fun U hU hW => ⟨rfl, xb_atS hAt hS hA0 hU hW, by rw [hU]; exact hP.sub (ws' := [(h0, .inr (0, [.ref ta, .ref ra, .int wet, .int less, .ref px, .ref py, .int pn, .ref qx, .ref qy, .int qn, .ref ml]))]) [0] rfl⟩⟩ rfl rfl hl.1 rfl (lv_room (Nat.le_of_ble_eq_true rfl)) dL_place_5 ⟨Nat.le_of_ble_eq_true rfl, Nat.le_of_ble_eq_true rfl⟩) hown htab rfl (by decide) (hts _ xk_365) (va_Nw.use rfl (xa_cst E hAt xk_376)) (fun q9 H hz9 hk9 => ?_)
    have hP := xw_P hP hk9
    have hS := xw_S hS hz9 hk9
    refine W.widen (k := 1) (n := 6) (by omega) (by omega) ?_
    refine lv_astore (lv' := [(4, .ref q9), (0, .ref h0), (1, .int x), (2, .int y), (3, .ref oa)]) hx hb dL_place_13 hl (by decide) rfl (fun ls hl => ?_)
    refine lv_iconst (v := 1) hx hb dL_place_15 (by decide) ?_
    have e_0 : gL_place xf yf qn x y of = (1 : Int32) := (if_pos c_1).trans (rfl)
    have e_1 : gL_place_9 xf yf qn x y of = qn := (if_pos c_1).trans (rfl)
    have e_2 : gL_place_qx xf yf qn x y of = xf := (if_pos c_1).trans (rfl)
    have e_3 : gL_place_qy xf yf qn x y of = yf := (if_pos c_1).trans (rfl)
    have e_4 : gL_place_f xf yf qn x y of = of := (if_pos c_1).trans (rfl)
    have hP9 := hP.sub (ws' := [(h0, .inr (0, [.ref ta, .ref ra, .int wet, .int less, .ref px, .ref py, .int pn, .ref qx, .ref qy, .int qn, .ref ml])), (qx, .inl (cI, 32, .inl xf)), (qy, .inl (cI, 32, .inl yf)), (oa, .inl (cL, 1, .inr (.inl of)))]) [0, 1, 2, 3] rfl
    have hD9 := hD.sub (ws' := [(h0, .inr (0, [.ref ta, .ref ra, .int wet, .int less, .ref px, .ref py, .int pn, .ref qx, .ref qy, .int qn, .ref ml])), (qx, .inl (cI, 32, .inl xf)), (qy, .inl (cI, 32, .inl yf)), (oa, .inl (cL, 1, .inr (.inl of)))]) [0, 1, 2, 3] (by decide) rfl
    refine W.widen (k := 1) (n := 6) (by omega) (by omega) ?_
    exact W.iret (v := 1) hx hb hr (fun t ht hW => ⟨_, _, rfl, ⟨by rw [e_0]; try rfl, by rw [e_1, e_2, e_3, e_4]⟩, by rw [ht]; exact hP9, hD9, hS.F ht⟩) hS.2.2 dL_place_16
  by_cases c_2 : y.toInt64 < 0 ∨ ¬ y.toInt64 ≤ 100000
  · refine xw_c1 (xt_runV (Cr := "NailRules") (As := [.int x, .int y]) (rest := [.int 0, .ref oa]) ⟨hx, hb, hml, hown, hts⟩ (cN_place_x2 l E h0 ([.ref ta, .ref ra, .int wet, .int less, .ref px, .ref py, .int pn, .ref qx, .ref qy, .int qn, .ref ml]) x y (xh_1 c_1) (xh_2 c_1) (c_2)) (cwV 2 hts (xb_gi (List.forall_mem_cons.mpr ⟨xk_476, List.forall_mem_cons.mpr ⟨xk_477, List.forall_mem_cons.mpr ⟨xk_478, List.forall_mem_cons.mpr ⟨xk_40, List.forall_mem_cons.mpr ⟨xk_479, fun _ h => absurd h List.not_mem_nil⟩⟩⟩⟩⟩)) rfl rfl rfl (by decide +kernel) ⟨Nat.le_of_ble_eq_true rfl, Nat.le_of_ble_eq_true rfl⟩) ⟨fun _ _ _ _ q => q, va_recv hK hP (ci := 0) (q0 := 0) rfl rfl, fun U hU hW => ⟨rfl, xb_atS hAt hS hA0 hU hW, by rw [hU]; exact hP.sub (ws' := [(h0, .inr (0, [.ref ta, .ref ra, .int wet, .int less, .ref px, .ref py, .int pn, .ref qx, .ref qy, .int qn, .ref ml]))]) [0] rfl⟩⟩ rfl rfl hl.1 rfl (lv_room (Nat.le_of_ble_eq_true rfl)) dL_place_5 ⟨Nat.le_of_ble_eq_true rfl, Nat.le_of_ble_eq_true rfl⟩) hown htab rfl (by decide) (hts _ xk_365) (va_Nw.use rfl (xa_cst E hAt xk_376)) (fun q9 H hz9 hk9 => ?_)
    have hP := xw_P hP hk9
    have hS := xw_S hS hz9 hk9
    refine W.widen (k := 1) (n := 6) (by omega) (by omega) ?_
    refine lv_astore (lv' := [(4, .ref q9), (0, .ref h0), (1, .int x), (2, .int y), (3, .ref oa)]) hx hb dL_place_13 hl (by decide) rfl (fun ls hl => ?_)
    refine lv_iconst (v := 1) hx hb dL_place_15 (by decide) ?_
    have e_0 : gL_place xf yf qn x y of = (1 : Int32) := (if_neg c_1).trans ((if_pos c_2).trans (rfl))
    have e_1 : gL_place_9 xf yf qn x y of = qn := (if_neg c_1).trans ((if_pos c_2).trans (rfl))
    have e_2 : gL_place_qx xf yf qn x y of = xf := (if_neg c_1).trans ((if_pos c_2).trans (rfl))
    have e_3 : gL_place_qy xf yf qn x y of = yf := (if_neg c_1).trans ((if_pos c_2).trans (rfl))
    have e_4 : gL_place_f xf yf qn x y of = of := (if_neg c_1).trans ((if_pos c_2).trans (rfl))
    have hP9 := hP.sub (ws' := [(h0, .inr (0, [.ref ta, .ref ra, .int wet, .int less, .ref px, .ref py, .int pn, .ref qx, .ref qy, .int qn, .ref ml])), (qx, .inl (cI, 32, .inl xf)), (qy, .inl (cI, 32, .inl yf)), (oa, .inl (cL, 1, .inr (.inl of)))]) [0, 1, 2, 3] rfl
    have hD9 := hD.sub (ws' := [(h0, .inr (0, [.ref ta, .ref ra, .int wet, .int less, .ref px, .ref py, .int pn, .ref qx, .ref qy, .int qn, .ref ml])), (qx, .inl (cI, 32, .inl xf)), (qy, .inl (cI, 32, .inl yf)), (oa, .inl (cL, 1, .inr (.inl of)))]) [0, 1, 2, 3] (by decide) rfl
    refine W.widen (k := 1) (n := 6) (by omega) (by omega) ?_
    exact W.iret (v := 1) hx hb hr (fun t ht hW => ⟨_, _, rfl, ⟨by rw [e_0]; try rfl, by rw [e_1, e_2, e_3, e_4]⟩, by rw [ht]; exact hP9, hD9, hS.F ht⟩) hS.2.2 dL_place_16
  by_cases c_3 : ¬ qn < 32
  · obtain ⟨c9, hc9, hno9⟩ := xc_nc_IS_IA E hAt
    refine xw_c2 (xt_runV (Cr := "NailRules") (As := [.int x, .int y]) (rest := [.int 0, .ref oa]) ⟨hx, hb, hml, hown, hts⟩ (cN_place_x3 l E h0 ([.ref ta, .ref ra, .int wet, .int less, .ref px, .ref py, .int pn, .ref qx, .ref qy, .int qn, .ref ml]) qn x y rfl (xh_1 c_1) (xh_2 c_1) (xh_1 c_2) (xh_2 c_2) (c_3)) (cwV 2 hts (xb_gi (List.forall_mem_cons.mpr ⟨xk_476, List.forall_mem_cons.mpr ⟨xk_477, List.forall_mem_cons.mpr ⟨xk_478, List.forall_mem_cons.mpr ⟨xk_40, List.forall_mem_cons.mpr ⟨xk_479, fun _ h => absurd h List.not_mem_nil⟩⟩⟩⟩⟩)) rfl rfl rfl (by decide +kernel) ⟨Nat.le_of_ble_eq_true rfl, Nat.le_of_ble_eq_true rfl⟩) ⟨fun _ _ _ _ q => q, va_recv hK hP (ci := 0) (q0 := 0) rfl rfl, fun U hU hW => ⟨rfl, xb_atS hAt hS hA0 hU hW, by rw [hU]; exact hP.sub (ws' := [(h0, .inr (0, [.ref ta, .ref ra, .int wet, .int less, .ref px, .ref py, .int pn, .ref qx, .ref qy, .int qn, .ref ml]))]) [0] rfl⟩⟩ rfl rfl hl.1 rfl (lv_room (Nat.le_of_ble_eq_true rfl)) dL_place_5 ⟨Nat.le_of_ble_eq_true rfl, Nat.le_of_ble_eq_true rfl⟩) hown htab rfl (by decide) rfl (by decide) (hts _ xk_365) (hts _ xk_452) hc9 hno9 (va_Nw.use rfl (xa_cst E hAt xk_459)) (fun q9 H hz9 hk9 => ?_)
    have hP := xw_P hP hk9
    have hS := xw_S hS hz9 hk9
    refine W.widen (k := 1) (n := 6) (by omega) (by omega) ?_
    refine lv_astore (lv' := [(4, .ref q9), (0, .ref h0), (1, .int x), (2, .int y), (3, .ref oa)]) hx hb dL_place_17 hl (by decide) rfl (fun ls hl => ?_)
    refine lv_iconst (v := 2) hx hb dL_place_19 (by decide) ?_
    have e_0 : gL_place xf yf qn x y of = (2 : Int32) := (if_neg c_1).trans ((if_neg c_2).trans ((if_pos c_3).trans (rfl)))
    have e_1 : gL_place_9 xf yf qn x y of = qn := (if_neg c_1).trans ((if_neg c_2).trans ((if_pos c_3).trans (rfl)))
    have e_2 : gL_place_qx xf yf qn x y of = xf := (if_neg c_1).trans ((if_neg c_2).trans ((if_pos c_3).trans (rfl)))
    have e_3 : gL_place_qy xf yf qn x y of = yf := (if_neg c_1).trans ((if_neg c_2).trans ((if_pos c_3).trans (rfl)))
    have e_4 : gL_place_f xf yf qn x y of = of := (if_neg c_1).trans ((if_neg c_2).trans ((if_pos c_3).trans (rfl)))
    have hP9 := hP.sub (ws' := [(h0, .inr (0, [.ref ta, .ref ra, .int wet, .int less, .ref px, .ref py, .int pn, .ref qx, .ref qy, .int qn, .ref ml])), (qx, .inl (cI, 32, .inl xf)), (qy, .inl (cI, 32, .inl yf)), (oa, .inl (cL, 1, .inr (.inl of)))]) [0, 1, 2, 3] rfl
    have hD9 := hD.sub (ws' := [(h0, .inr (0, [.ref ta, .ref ra, .int wet, .int less, .ref px, .ref py, .int pn, .ref qx, .ref qy, .int qn, .ref ml])), (qx, .inl (cI, 32, .inl xf)), (qy, .inl (cI, 32, .inl yf)), (oa, .inl (cL, 1, .inr (.inl of)))]) [0, 1, 2, 3] (by decide) rfl
    refine W.widen (k := 1) (n := 6) (by omega) (by omega) ?_
    exact W.iret (v := 2) hx hb hr (fun t ht hW => ⟨_, _, rfl, ⟨by rw [e_0]; try rfl, by rw [e_1, e_2, e_3, e_4]⟩, by rw [ht]; exact hP9, hD9, hS.F ht⟩) hS.2.2 dL_place_20
  refine xb_wr (wr := [(oa, .inl (cL, 1, .inr (.inl of)))]) (va_runV (C := "NailRules") (As := [.int x, .int y]) (rest := [.int 0, .ref oa]) ⟨hx, hb, hml, hown, hts⟩ (cN_place l E _ h0 qx qy ta ra wet less px py pn qn ml xf yf x y (xh_1 c_1) (xh_2 c_1) (xh_1 c_2) (xh_2 c_2) (q0) (Decidable.not_not.mp c_3)) (cwV 2 hts (xb_gi (List.forall_mem_cons.mpr ⟨xk_476, List.forall_mem_cons.mpr ⟨xk_477, List.forall_mem_cons.mpr ⟨xk_478, List.forall_mem_cons.mpr ⟨xk_40, List.forall_mem_cons.mpr ⟨xk_479, fun _ h => absurd h List.not_mem_nil⟩⟩⟩⟩⟩)) rfl rfl rfl (by decide +kernel) ⟨Nat.le_of_ble_eq_true rfl, Nat.le_of_ble_eq_true rfl⟩) ⟨fun _ _ _ _ q => q, va_recv hK hP (ci := 0) (q0 := 0) rfl rfl, fun U hU hW => ⟨rfl, xb_atS hAt hS hA0 hU hW, by rw [hU], by rw [hU]; exact hP.sub (ws' := [(h0, .inr (0, [.ref ta, .ref ra, .int wet, .int less, .ref px, .ref py, .int pn, .ref qx, .ref qy, .int qn, .ref ml])), (qx, .inl (cI, 32, .inl xf)), (qy, .inl (cI, 32, .inl yf))]) [0, 1, 2] rfl, (hD.sub (ws' := [(h0, .inr (0, [.ref ta, .ref ra, .int wet, .int less, .ref px, .ref py, .int pn, .ref qx, .ref qy, .int qn, .ref ml])), (qx, .inl (cI, 32, .inl xf)), (qy, .inl (cI, 32, .inl yf))]) [0, 1, 2] (by decide) rfl).weaken (fun _ q _ h => hA0 q.1 h)⟩⟩ rfl rfl hl.1 rfl (lv_room (Nat.le_of_ble_eq_true rfl)) dL_place_5 ⟨Nat.le_of_ble_eq_true rfl, Nat.le_of_ble_eq_true rfl⟩) hP hD hS hA [0, 1, 2] [3] rfl rfl (by decide) (by decide) ?_
  rintro _ _ H locs ⟨rfl, rfl⟩ hP hD hS
  have hP : va_P (dC, dI) classes [(oa, .inl (cL, 1, .inr (.inl of))), (h0, .inr (0, [.ref ta, .ref ra, .int wet, .int less, .ref px, .ref py, .int pn, .ref qx, .ref qy, .int (gN_place_9 xf yf qn x y), .ref ml])), (qx, .inl (cI, 32, .inl (gN_place_x xf yf qn x y))), (qy, .inl (cI, 32, .inl (gN_place_y xf yf qn x y)))] H := hP
  have hD : va_D A [(oa, .inl (cL, 1, .inr (.inl of))), (h0, .inr (0, [.ref ta, .ref ra, .int wet, .int less, .ref px, .ref py, .int pn, .ref qx, .ref qy, .int (gN_place_9 xf yf qn x y), .ref ml])), (qx, .inl (cI, 32, .inl (gN_place_x xf yf qn x y))), (qy, .inl (cI, 32, .inl (gN_place_y xf yf qn x y)))] := hD
  refine lv_i2l hx hb dL_place_8 rfl ?_
  have o_4 : vp_in (0 : Int32) 1 := by unfold vp_in; decide
  refine va_last hx hb hK hP hD hS 0 2 rfl rfl o_4 dL_place_9 (fun H locs hP hD hS => ?_)
  have hP : va_P (dC, dI) classes [(oa, .inl (cL, 1, .inr (.inl (vp_updL of (0 : Int32).toNatClampNeg ((gN_place xf yf qn x y).toInt64))))), (h0, .inr (0, [.ref ta, .ref ra, .int wet, .int less, .ref px, .ref py, .int pn, .ref qx, .ref qy, .int (gN_place_9 xf yf qn x y), .ref ml])), (qx, .inl (cI, 32, .inl (gN_place_x xf yf qn x y))), (qy, .inl (cI, 32, .inl (gN_place_y xf yf qn x y)))] H := hP
  have hD : va_D A [(oa, .inl (cL, 1, .inr (.inl (vp_updL of (0 : Int32).toNatClampNeg ((gN_place xf yf qn x y).toInt64))))), (h0, .inr (0, [.ref ta, .ref ra, .int wet, .int less, .ref px, .ref py, .int pn, .ref qx, .ref qy, .int (gN_place_9 xf yf qn x y), .ref ml])), (qx, .inl (cI, 32, .inl (gN_place_x xf yf qn x y))), (qy, .inl (cI, 32, .inl (gN_place_y xf yf qn x y)))] := hD
  refine lv_goto (tgt := 21) hx hb dL_place_10 (by decide) ?_
  refine lv_iconst (v := 0) hx hb dL_place_21 (by decide) ?_
  have e_0 : gL_place xf yf qn x y of = (0 : Int32) := (if_neg c_1).trans ((if_neg c_2).trans ((if_neg c_3).trans (rfl)))
  have e_1 : gL_place_9 xf yf qn x y of = (gN_place_9 xf yf qn x y) := (if_neg c_1).trans ((if_neg c_2).trans ((if_neg c_3).trans (rfl)))
  have e_2 : gL_place_qx xf yf qn x y of = (gN_place_x xf yf qn x y) := (if_neg c_1).trans ((if_neg c_2).trans ((if_neg c_3).trans (rfl)))
  have e_3 : gL_place_qy xf yf qn x y of = (gN_place_y xf yf qn x y) := (if_neg c_1).trans ((if_neg c_2).trans ((if_neg c_3).trans (rfl)))
  have e_4 : gL_place_f xf yf qn x y of = (vp_updL of (0 : Int32).toNatClampNeg ((gN_place xf yf qn x y).toInt64)) := (if_neg c_1).trans ((if_neg c_2).trans ((if_neg c_3).trans (rfl)))
  have hP9 := hP.sub (ws' := [(h0, .inr (0, [.ref ta, .ref ra, .int wet, .int less, .ref px, .ref py, .int pn, .ref qx, .ref qy, .int (gN_place_9 xf yf qn x y), .ref ml])), (qx, .inl (cI, 32, .inl (gN_place_x xf yf qn x y))), (qy, .inl (cI, 32, .inl (gN_place_y xf yf qn x y))), (oa, .inl (cL, 1, .inr (.inl (vp_updL of (0 : Int32).toNatClampNeg ((gN_place xf yf qn x y).toInt64)))))]) [1, 2, 3, 0] rfl
  have hD9 := hD.sub (ws' := [(h0, .inr (0, [.ref ta, .ref ra, .int wet, .int less, .ref px, .ref py, .int pn, .ref qx, .ref qy, .int (gN_place_9 xf yf qn x y), .ref ml])), (qx, .inl (cI, 32, .inl (gN_place_x xf yf qn x y))), (qy, .inl (cI, 32, .inl (gN_place_y xf yf qn x y))), (oa, .inl (cL, 1, .inr (.inl (vp_updL of (0 : Int32).toNatClampNeg ((gN_place xf yf qn x y).toInt64)))))]) [1, 2, 3, 0] (by decide) rfl
  refine W.widen (k := 1) (n := 6) (by omega) (by omega) ?_
  exact W.iret (v := 0) hx hb hr (fun t ht hW => ⟨_, _, rfl, ⟨by rw [e_0]; try rfl, by rw [e_1, e_2, e_3, e_4]⟩, by rw [ht]; exact hP9, hD9, hS.F ht⟩) hS.2.2 dL_place_22

def gL_keeps (rf : Nat → Int32) (xf : Nat → Int32) (yf : Nat → Int32) (qn : Int32) (kind : Int32) (w : Int32) (h : Int32) (of : Nat → Int64) : Int32 := if kind < 0 ∨ ¬ kind < 4 then ((1)) else (if w.toInt64 < 1 ∨ ¬ w.toInt64 ≤ 100000 then ((2)) else (if h.toInt64 < 1 ∨ ¬ h.toInt64 ≤ 100000 then ((2)) else ((0))))
def gL_keeps_f (rf : Nat → Int32) (xf : Nat → Int32) (yf : Nat → Int32) (qn : Int32) (kind : Int32) (w : Int32) (h : Int32) (of : Nat → Int64) : Nat → Int64 := if kind < 0 ∨ ¬ kind < 4 then (of) else (if w.toInt64 < 1 ∨ ¬ w.toInt64 ≤ 100000 then (of) else (if h.toInt64 < 1 ∨ ¬ h.toInt64 ≤ 100000 then (of) else (vp_updL of (0 : Int32).toNatClampNeg ((fN_keeps rf xf yf qn kind w h).toInt64))))
set_option maxHeartbeats 4000000 in
set_option maxRecDepth 100000 in
theorem cL_keeps (l : Launch) {s0 : State} {dC : Nat → ClassId} {dI : Nat → Nat → Nat} {cI cC cL cO : ClassId} (E : xb_Env l s0 dC dI (xtys cI cC cL cO)) (sz : Nat) (h0 : Nat) (ra : Nat) (qx : Nat) (qy : Nat) (oa : Nat) (ta : Nat) (wet : Int32) (less : Int32) (px : Nat) (py : Nat) (pn : Int32) (qn : Int32) (ml : Nat) (rf : Nat → Int32) (xf : Nat → Int32) (yf : Nat → Int32) (of : Nat → Int64) (kind : Int32) (w : Int32) (h : Int32) (hq : qn ≤ 32) : Met l yL_keeps [.codeWith yL_keeps bL_keeps 6 (some (.int)) [(0, 12, 15, 13), (0, 12, 19, 19)]] ({ frames := 8, cells := 1, slots := 6, locals := 132 }) (va_Pc [.ref h0, .int kind, .int w, .int h, .ref oa] (fun U => xb_At s0 U ∧ U.heap.size = sz ∧ va_P (dC, dI) classes [(h0, .inr (0, [.ref ta, .ref ra, .int wet, .int less, .ref px, .ref py, .int pn, .ref qx, .ref qy, .int qn, .ref ml])), (ra, .inl (cI, 28, .inl rf)), (qx, .inl (cI, 32, .inl xf)), (qy, .inl (cI, 32, .inl yf)), (oa, .inl (cL, 1, .inr (.inl of)))] U.heap ∧ va_D (fun q => s0.heap.size ≤ q) [(h0, .inr (0, [.ref ta, .ref ra, .int wet, .int less, .ref px, .ref py, .int pn, .ref qx, .ref qy, .int qn, .ref ml])), (ra, .inl (cI, 28, .inl rf)), (qx, .inl (cI, 32, .inl xf)), (qy, .inl (cI, 32, .inl yf)), (oa, .inl (cL, 1, .inr (.inl of)))])) (xb_W (dC, dI) (fun v9 w9 => v9 = some (.int (gL_keeps rf xf yf qn kind w h of)) ∧ w9 = [(h0, .inr (0, [.ref ta, .ref ra, .int wet, .int less, .ref px, .ref py, .int pn, .ref qx, .ref qy, .int qn, .ref ml])), (ra, .inl (cI, 28, .inl rf)), (qx, .inl (cI, 32, .inl xf)), (qy, .inl (cI, 32, .inl yf)), (oa, .inl (cL, 1, .inr (.inl (gL_keeps_f rf xf yf qn kind w h of))))]) (va_A [(h0, .inr (0, [.ref ta, .ref ra, .int wet, .int less, .ref px, .ref py, .int pn, .ref qx, .ref qy, .int qn, .ref ml])), (ra, .inl (cI, 28, .inl rf)), (qx, .inl (cI, 32, .inl xf)), (qy, .inl (cI, 32, .inl yf)), (oa, .inl (cL, 1, .inr (.inl of)))] sz)) 1 6 (va_A [(h0, .inr (0, [.ref ta, .ref ra, .int wet, .int less, .ref px, .ref py, .int pn, .ref qx, .ref qy, .int qn, .ref ml])), (ra, .inl (cI, 28, .inl rf)), (qx, .inl (cI, 32, .inl xf)), (qy, .inl (cI, 32, .inl yf)), (oa, .inl (cL, 1, .inr (.inl of)))] sz) := by
  refine xw_ofW (cc := bL_keeps) (maxL := 6) (ret := (some (.int))) (hs := [(0, 12, 15, 13), (0, 12, 19, 19)]) (by decide) rfl ?_
  intro p e s m args below meth c s₁ B hml htab hv
  obtain ⟨rfl, hAt, hsz, hP, hD0⟩ := hv
  have hx := B.exec
  have hb := B.bytes
  have hr := B.returns
  have hts := xb_hts E hAt ([.ref h0, .int kind, .int w, .int h, .ref oa] : List Value).toArray
  have hown : s.vm.findClass "NailRulesLaw" = some m.cls := findClass_of_methodNamed B.named
  have hlocks := B.notSynchronized
  have hK := xb_K E hAt
  subst hsz
  have hA0 := xb_A0 hAt hD0
  have hD := hD0.self (sz := s.heap.size)
  generalize hAe : va_A [(h0, .inr (0, [.ref ta, .ref ra, .int wet, .int less, .ref px, .ref py, .int pn, .ref qx, .ref qy, .int qn, .ref ml])), (ra, .inl (cI, 28, .inl rf)), (qx, .inl (cI, 32, .inl xf)), (qy, .inl (cI, 32, .inl yf)), (oa, .inl (cL, 1, .inr (.inl of)))] s.heap.size = A at hD hA0 ⊢
  have hA : ∀ q : Nat, s.heap.size ≤ q → A q := fun q h => by rw [← hAe]; exact Or.inr h
  have hS : va_S A s.heap s.heap [] := va_S.rf
  have hl := lv_entry ([.ref h0, .int kind, .int w, .int h, .ref oa]) (n := 6) (Nat.le_of_ble_eq_true rfl)
  rw [lg_entry_eq]
  generalize (lg_sl ([.ref h0, .int kind, .int w, .int h, .ref oa]) ++ List.replicate (6 - (lg_sl ([.ref h0, .int kind, .int w, .int h, .ref oa])).length) Slot.unset).toArray = ls at hl ⊢
  have hl : lv_has ls 6 [(0, .ref h0), (1, .int kind), (2, .int w), (3, .int h), (4, .ref oa)] := hl
  refine lv_aload hx hb dL_keeps_0 (lv_at hl 4 rfl) ?_
  refine lv_iconst (v := 0) hx hb dL_keeps_2 (by decide) ?_
  refine lv_aload_n hx hb dL_keeps_3 rfl (lv_at hl 0 rfl) ?_
  refine lv_iload_n hx hb dL_keeps_4 rfl (lv_at hl 1 rfl) ?_
  refine lv_iload_n hx hb dL_keeps_5 rfl (lv_at hl 2 rfl) ?_
  refine lv_iload_n hx hb dL_keeps_6 rfl (lv_at hl 3 rfl) ?_
  by_cases c_1 : kind < 0 ∨ ¬ kind < 4
  · refine xw_c1 (xt_runV (Cr := "NailRules") (As := [.int kind, .int w, .int h]) (rest := [.int 0, .ref oa]) ⟨hx, hb, hml, hown, hts⟩ (cN_keeps_x1 l E h0 ([.ref ta, .ref ra, .int wet, .int less, .ref px, .ref py, .int pn, .ref qx, .ref qy, .int qn, .ref ml]) kind w h (c_1)) (cwV 3 hts (xb_gi (List.forall_mem_cons.mpr ⟨xk_484, List.forall_mem_cons.mpr ⟨xk_485, List.forall_mem_cons.mpr ⟨xk_486, List.forall_mem_cons.mpr ⟨xk_40, List.forall_mem_cons.mpr ⟨xk_487, fun _ h => absurd h List.not_mem_nil⟩⟩⟩⟩⟩)) rfl rfl rfl (by decide +kernel) ⟨Nat.le_of_ble_eq_true rfl, Nat.le_of_ble_eq_true rfl⟩) ⟨fun _ _ _ _ q => q, va_recv hK hP (ci := 0) (q0 := 0) rfl rfl, fun U hU hW => ⟨rfl, xb_atS hAt hS hA0 hU hW, by rw [hU]; exact hP.sub (ws' := [(h0, .inr (0, [.ref ta, .ref ra, .int wet, .int less, .ref px, .ref py, .int pn, .ref qx, .ref qy, .int qn, .ref ml]))]) [0] rfl⟩⟩ rfl rfl hl.1 rfl (lv_room (Nat.le_of_ble_eq_true rfl)) dL_keeps_7 ⟨Nat.le_of_ble_eq_true rfl, Nat.le_of_ble_eq_true rfl⟩) hown htab rfl (by decide) (hts _ xk_283) (va_Nw.use rfl (xa_cst E hAt xk_293)) (fun q9 H hz9 hk9 => ?_)
    have hP := xw_P hP hk9
    have hS := xw_S hS hz9 hk9
    refine W.widen (k := 1) (n := 6) (by omega) (by omega) ?_
    refine lv_astore (lv' := [(5, .ref q9), (0, .ref h0), (1, .int kind), (2, .int w), (3, .int h), (4, .ref oa)]) hx hb dL_keeps_15 hl (by decide) rfl (fun ls hl => ?_)
    refine lv_iconst (v := 1) hx hb dL_keeps_17 (by decide) ?_
    have e_0 : gL_keeps rf xf yf qn kind w h of = (1 : Int32) := (if_pos c_1).trans (rfl)
    have e_1 : gL_keeps_f rf xf yf qn kind w h of = of := (if_pos c_1).trans (rfl)
    have hP9 := hP.sub (ws' := [(h0, .inr (0, [.ref ta, .ref ra, .int wet, .int less, .ref px, .ref py, .int pn, .ref qx, .ref qy, .int qn, .ref ml])), (ra, .inl (cI, 28, .inl rf)), (qx, .inl (cI, 32, .inl xf)), (qy, .inl (cI, 32, .inl yf)), (oa, .inl (cL, 1, .inr (.inl of)))]) [0, 1, 2, 3, 4] rfl
    have hD9 := hD.sub (ws' := [(h0, .inr (0, [.ref ta, .ref ra, .int wet, .int less, .ref px, .ref py, .int pn, .ref qx, .ref qy, .int qn, .ref ml])), (ra, .inl (cI, 28, .inl rf)), (qx, .inl (cI, 32, .inl xf)), (qy, .inl (cI, 32, .inl yf)), (oa, .inl (cL, 1, .inr (.inl of)))]) [0, 1, 2, 3, 4] (by decide) rfl
    refine W.widen (k := 1) (n := 6) (by omega) (by omega) ?_
    exact W.iret (v := 1) hx hb hr (fun t ht hW => ⟨_, _, rfl, ⟨by rw [e_0]; try rfl, by rw [e_1]⟩, by rw [ht]; exact hP9, hD9, hS.F ht⟩) hS.2.2 dL_keeps_18
  by_cases c_2 : w.toInt64 < 1 ∨ ¬ w.toInt64 ≤ 100000
  · obtain ⟨c9, hc9, hno9⟩ := xc_nc_IA_IO E hAt
    refine xw_c2 (xt_runV (Cr := "NailRules") (As := [.int kind, .int w, .int h]) (rest := [.int 0, .ref oa]) ⟨hx, hb, hml, hown, hts⟩ (cN_keeps_x2 l E h0 ([.ref ta, .ref ra, .int wet, .int less, .ref px, .ref py, .int pn, .ref qx, .ref qy, .int qn, .ref ml]) kind w h (xh_1 c_1) (xh_2 c_1) (c_2)) (cwV 3 hts (xb_gi (List.forall_mem_cons.mpr ⟨xk_484, List.forall_mem_cons.mpr ⟨xk_485, List.forall_mem_cons.mpr ⟨xk_486, List.forall_mem_cons.mpr ⟨xk_40, List.forall_mem_cons.mpr ⟨xk_487, fun _ h => absurd h List.not_mem_nil⟩⟩⟩⟩⟩)) rfl rfl rfl (by decide +kernel) ⟨Nat.le_of_ble_eq_true rfl, Nat.le_of_ble_eq_true rfl⟩) ⟨fun _ _ _ _ q => q, va_recv hK hP (ci := 0) (q0 := 0) rfl rfl, fun U hU hW => ⟨rfl, xb_atS hAt hS hA0 hU hW, by rw [hU]; exact hP.sub (ws' := [(h0, .inr (0, [.ref ta, .ref ra, .int wet, .int less, .ref px, .ref py, .int pn, .ref qx, .ref qy, .int qn, .ref ml]))]) [0] rfl⟩⟩ rfl rfl hl.1 rfl (lv_room (Nat.le_of_ble_eq_true rfl)) dL_keeps_7 ⟨Nat.le_of_ble_eq_true rfl, Nat.le_of_ble_eq_true rfl⟩) hown htab rfl (by decide) rfl (by decide) (hts _ xk_283) (hts _ xk_365) hc9 hno9 (va_Nw.use rfl (xa_cst E hAt xk_376)) (fun q9 H hz9 hk9 => ?_)
    have hP := xw_P hP hk9
    have hS := xw_S hS hz9 hk9
    refine W.widen (k := 1) (n := 6) (by omega) (by omega) ?_
    refine lv_astore (lv' := [(5, .ref q9), (0, .ref h0), (1, .int kind), (2, .int w), (3, .int h), (4, .ref oa)]) hx hb dL_keeps_19 hl (by decide) rfl (fun ls hl => ?_)
    refine lv_iconst (v := 2) hx hb dL_keeps_21 (by decide) ?_
    have e_0 : gL_keeps rf xf yf qn kind w h of = (2 : Int32) := (if_neg c_1).trans ((if_pos c_2).trans (rfl))
    have e_1 : gL_keeps_f rf xf yf qn kind w h of = of := (if_neg c_1).trans ((if_pos c_2).trans (rfl))
    have hP9 := hP.sub (ws' := [(h0, .inr (0, [.ref ta, .ref ra, .int wet, .int less, .ref px, .ref py, .int pn, .ref qx, .ref qy, .int qn, .ref ml])), (ra, .inl (cI, 28, .inl rf)), (qx, .inl (cI, 32, .inl xf)), (qy, .inl (cI, 32, .inl yf)), (oa, .inl (cL, 1, .inr (.inl of)))]) [0, 1, 2, 3, 4] rfl
    have hD9 := hD.sub (ws' := [(h0, .inr (0, [.ref ta, .ref ra, .int wet, .int less, .ref px, .ref py, .int pn, .ref qx, .ref qy, .int qn, .ref ml])), (ra, .inl (cI, 28, .inl rf)), (qx, .inl (cI, 32, .inl xf)), (qy, .inl (cI, 32, .inl yf)), (oa, .inl (cL, 1, .inr (.inl of)))]) [0, 1, 2, 3, 4] (by decide) rfl
    refine W.widen (k := 1) (n := 6) (by omega) (by omega) ?_
    exact W.iret (v := 2) hx hb hr (fun t ht hW => ⟨_, _, rfl, ⟨by rw [e_0]; try rfl, by rw [e_1]⟩, by rw [ht]; exact hP9, hD9, hS.F ht⟩) hS.2.2 dL_keeps_22
  by_cases c_3 : h.toInt64 < 1 ∨ ¬ h.toInt64 ≤ 100000
  · obtain ⟨c9, hc9, hno9⟩ := xc_nc_IA_IO E hAt
    refine xw_c2 (xt_runV (Cr := "NailRules") (As := [.int kind, .int w, .int h]) (rest := [.int 0, .ref oa]) ⟨hx, hb, hml, hown, hts⟩ (cN_keeps_x3 l E h0 ([.ref ta, .ref ra, .int wet, .int less, .ref px, .ref py, .int pn, .ref qx, .ref qy, .int qn, .ref ml]) kind w h (xh_1 c_1) (xh_2 c_1) (xh_1 c_2) (xh_2 c_2) (c_3)) (cwV 3 hts (xb_gi (List.forall_mem_cons.mpr ⟨xk_484, List.forall_mem_cons.mpr ⟨xk_485, List.forall_mem_cons.mpr ⟨xk_486, List.forall_mem_cons.mpr ⟨xk_40, List.forall_mem_cons.mpr ⟨xk_487, fun _ h => absurd h List.not_mem_nil⟩⟩⟩⟩⟩)) rfl rfl rfl (by decide +kernel) ⟨Nat.le_of_ble_eq_true rfl, Nat.le_of_ble_eq_true rfl⟩) ⟨fun _ _ _ _ q => q, va_recv hK hP (ci := 0) (q0 := 0) rfl rfl, fun U hU hW => ⟨rfl, xb_atS hAt hS hA0 hU hW, by rw [hU]; exact hP.sub (ws' := [(h0, .inr (0, [.ref ta, .ref ra, .int wet, .int less, .ref px, .ref py, .int pn, .ref qx, .ref qy, .int qn, .ref ml]))]) [0] rfl⟩⟩ rfl rfl hl.1 rfl (lv_room (Nat.le_of_ble_eq_true rfl)) dL_keeps_7 ⟨Nat.le_of_ble_eq_true rfl, Nat.le_of_ble_eq_true rfl⟩) hown htab rfl (by decide) rfl (by decide) (hts _ xk_283) (hts _ xk_365) hc9 hno9 (va_Nw.use rfl (xa_cst E hAt xk_376)) (fun q9 H hz9 hk9 => ?_)
    have hP := xw_P hP hk9
    have hS := xw_S hS hz9 hk9
    refine W.widen (k := 1) (n := 6) (by omega) (by omega) ?_
    refine lv_astore (lv' := [(5, .ref q9), (0, .ref h0), (1, .int kind), (2, .int w), (3, .int h), (4, .ref oa)]) hx hb dL_keeps_19 hl (by decide) rfl (fun ls hl => ?_)
    refine lv_iconst (v := 2) hx hb dL_keeps_21 (by decide) ?_
    have e_0 : gL_keeps rf xf yf qn kind w h of = (2 : Int32) := (if_neg c_1).trans ((if_neg c_2).trans ((if_pos c_3).trans (rfl)))
    have e_1 : gL_keeps_f rf xf yf qn kind w h of = of := (if_neg c_1).trans ((if_neg c_2).trans ((if_pos c_3).trans (rfl)))
    have hP9 := hP.sub (ws' := [(h0, .inr (0, [.ref ta, .ref ra, .int wet, .int less, .ref px, .ref py, .int pn, .ref qx, .ref qy, .int qn, .ref ml])), (ra, .inl (cI, 28, .inl rf)), (qx, .inl (cI, 32, .inl xf)), (qy, .inl (cI, 32, .inl yf)), (oa, .inl (cL, 1, .inr (.inl of)))]) [0, 1, 2, 3, 4] rfl
    have hD9 := hD.sub (ws' := [(h0, .inr (0, [.ref ta, .ref ra, .int wet, .int less, .ref px, .ref py, .int pn, .ref qx, .ref qy, .int qn, .ref ml])), (ra, .inl (cI, 28, .inl rf)), (qx, .inl (cI, 32, .inl xf)), (qy, .inl (cI, 32, .inl yf)), (oa, .inl (cL, 1, .inr (.inl of)))]) [0, 1, 2, 3, 4] (by decide) rfl
    refine W.widen (k := 1) (n := 6) (by omega) (by omega) ?_
    exact W.iret (v := 2) hx hb hr (fun t ht hW => ⟨_, _, rfl, ⟨by rw [e_0]; try rfl, by rw [e_1]⟩, by rw [ht]; exact hP9, hD9, hS.F ht⟩) hS.2.2 dL_keeps_22
  refine xb_rd (W.runV (C := "NailRules") (As := [.int kind, .int w, .int h]) (rest := [.int 0, .ref oa]) ⟨hx, hb, hml, hown, hts⟩ (cN_keeps l E h0 ([.ref ta, .ref ra, .int wet, .int less, .ref px, .ref py, .int pn, .ref qx, .ref qy, .int qn, .ref ml]) ra rf qx xf qy yf qn kind w h rfl rfl rfl rfl (xh_1 c_1) (xh_2 c_1) (xh_1 c_2) (xh_2 c_2) (xh_1 c_3) (xh_2 c_3) (xh_v c_1 0 (by decide)) (xh_v c_1 2 (by decide)) (xh_v c_1 3 (by decide)) (xh_v c_1 4 (by decide)) (hq)) (cwV 3 hts (xb_gi (List.forall_mem_cons.mpr ⟨xk_484, List.forall_mem_cons.mpr ⟨xk_485, List.forall_mem_cons.mpr ⟨xk_486, List.forall_mem_cons.mpr ⟨xk_40, List.forall_mem_cons.mpr ⟨xk_487, fun _ h => absurd h List.not_mem_nil⟩⟩⟩⟩⟩)) rfl rfl rfl (by decide +kernel) ⟨Nat.le_of_ble_eq_true rfl, Nat.le_of_ble_eq_true rfl⟩) ⟨fun _ _ _ _ q => q, va_recv hK hP (ci := 0) (q0 := 0) rfl rfl, fun U hU hW => ⟨rfl, xb_atS hAt hS hA0 hU hW, by rw [hU]; exact hP.sub (ws' := [(h0, .inr (0, [.ref ta, .ref ra, .int wet, .int less, .ref px, .ref py, .int pn, .ref qx, .ref qy, .int qn, .ref ml])), (ra, .inl (cI, 28, .inl rf)), (qx, .inl (cI, 32, .inl xf)), (qy, .inl (cI, 32, .inl yf))]) [0, 1, 2, 3] rfl⟩⟩ rfl rfl hl.1 rfl (lv_room (Nat.le_of_ble_eq_true rfl)) dL_keeps_7 ⟨Nat.zero_le _, Nat.zero_le _⟩) ?_
  refine lv_i2l hx hb dL_keeps_10 rfl ?_
  have o_4 : vp_in (0 : Int32) 1 := by unfold vp_in; decide
  refine va_last hx hb hK hP hD hS 4 2 rfl rfl o_4 dL_keeps_11 (fun H locs hP hD hS => ?_)
  have hP : va_P (dC, dI) classes [(h0, .inr (0, [.ref ta, .ref ra, .int wet, .int less, .ref px, .ref py, .int pn, .ref qx, .ref qy, .int qn, .ref ml])), (ra, .inl (cI, 28, .inl rf)), (qx, .inl (cI, 32, .inl xf)), (qy, .inl (cI, 32, .inl yf)), (oa, .inl (cL, 1, .inr (.inl (vp_updL of (0 : Int32).toNatClampNeg ((fN_keeps rf xf yf qn kind w h).toInt64)))))] H := hP
  have hD : va_D A [(h0, .inr (0, [.ref ta, .ref ra, .int wet, .int less, .ref px, .ref py, .int pn, .ref qx, .ref qy, .int qn, .ref ml])), (ra, .inl (cI, 28, .inl rf)), (qx, .inl (cI, 32, .inl xf)), (qy, .inl (cI, 32, .inl yf)), (oa, .inl (cL, 1, .inr (.inl (vp_updL of (0 : Int32).toNatClampNeg ((fN_keeps rf xf yf qn kind w h).toInt64)))))] := hD
  refine lv_goto (tgt := 23) hx hb dL_keeps_12 (by decide) ?_
  refine lv_iconst (v := 0) hx hb dL_keeps_23 (by decide) ?_
  have e_0 : gL_keeps rf xf yf qn kind w h of = (0 : Int32) := (if_neg c_1).trans ((if_neg c_2).trans ((if_neg c_3).trans (rfl)))
  have e_1 : gL_keeps_f rf xf yf qn kind w h of = (vp_updL of (0 : Int32).toNatClampNeg ((fN_keeps rf xf yf qn kind w h).toInt64)) := (if_neg c_1).trans ((if_neg c_2).trans ((if_neg c_3).trans (rfl)))
  have hP9 := hP.sub (ws' := [(h0, .inr (0, [.ref ta, .ref ra, .int wet, .int less, .ref px, .ref py, .int pn, .ref qx, .ref qy, .int qn, .ref ml])), (ra, .inl (cI, 28, .inl rf)), (qx, .inl (cI, 32, .inl xf)), (qy, .inl (cI, 32, .inl yf)), (oa, .inl (cL, 1, .inr (.inl (vp_updL of (0 : Int32).toNatClampNeg ((fN_keeps rf xf yf qn kind w h).toInt64)))))]) [0, 1, 2, 3, 4] rfl
  have hD9 := hD.sub (ws' := [(h0, .inr (0, [.ref ta, .ref ra, .int wet, .int less, .ref px, .ref py, .int pn, .ref qx, .ref qy, .int qn, .ref ml])), (ra, .inl (cI, 28, .inl rf)), (qx, .inl (cI, 32, .inl xf)), (qy, .inl (cI, 32, .inl yf)), (oa, .inl (cL, 1, .inr (.inl (vp_updL of (0 : Int32).toNatClampNeg ((fN_keeps rf xf yf qn kind w h).toInt64)))))]) [0, 1, 2, 3, 4] (by decide) rfl
  refine W.widen (k := 1) (n := 6) (by omega) (by omega) ?_
  exact W.iret (v := 0) hx hb hr (fun t ht hW => ⟨_, _, rfl, ⟨by rw [e_0]; try rfl, by rw [e_1]⟩, by rw [ht]; exact hP9, hD9, hS.F ht⟩) hS.2.2 dL_keeps_24

def gL_member_b (sn : Int32) (x0 : Int32) (y0 : Int32) (x1 : Int32) (y1 : Int32) (wd : Int32) (of : Nat → Int64) : Int32 := if x0.toInt64 < (-10000) ∨ ¬ x0.toInt64 ≤ 10000 then ((1)) else (if y0.toInt64 < (-10000) ∨ ¬ y0.toInt64 ≤ 10000 then ((1)) else (if x1.toInt64 < (-10000) ∨ ¬ x1.toInt64 ≤ 10000 then ((1)) else (if y1.toInt64 < (-10000) ∨ ¬ y1.toInt64 ≤ 10000 then ((1)) else (if x0 = x1 ∧ y0 = y1 then ((1)) else (if wd.toInt64 < 1 ∨ ¬ wd.toInt64 ≤ 10000 then ((1)) else ((2)))))))
def gL_member_b_f (sn : Int32) (x0 : Int32) (y0 : Int32) (x1 : Int32) (y1 : Int32) (wd : Int32) (of : Nat → Int64) : Nat → Int64 := if x0.toInt64 < (-10000) ∨ ¬ x0.toInt64 ≤ 10000 then (of) else (if y0.toInt64 < (-10000) ∨ ¬ y0.toInt64 ≤ 10000 then (of) else (if x1.toInt64 < (-10000) ∨ ¬ x1.toInt64 ≤ 10000 then (of) else (if y1.toInt64 < (-10000) ∨ ¬ y1.toInt64 ≤ 10000 then (of) else (if x0 = x1 ∧ y0 = y1 then (of) else (if wd.toInt64 < 1 ∨ ¬ wd.toInt64 ≤ 10000 then (of) else (of))))))
set_option maxHeartbeats 4000000 in
set_option maxRecDepth 100000 in
theorem cL_member_b (l : Launch) {s0 : State} {dC : Nat → ClassId} {dI : Nat → Nat → Nat} {cI cC cL cO : ClassId} (E : xb_Env l s0 dC dI (xtys cI cC cL cO)) (sz : Nat) (h0 : Nat) (ml : Nat) (oa : Nat) (ta : Nat) (ra : Nat) (wet : Int32) (less : Int32) (px : Nat) (py : Nat) (pn : Int32) (qx : Nat) (qy : Nat) (qn : Int32) (ed : Nat) (sn : Int32) (mo : Int32) (of : Nat → Int64) (x0 : Int32) (y0 : Int32) (x1 : Int32) (y1 : Int32) (wd : Int32) (hbad : (x0.toInt64 < (-10000) ∨ ¬ x0.toInt64 ≤ 10000) ∨ (y0.toInt64 < (-10000) ∨ ¬ y0.toInt64 ≤ 10000) ∨ (x1.toInt64 < (-10000) ∨ ¬ x1.toInt64 ≤ 10000) ∨ (y1.toInt64 < (-10000) ∨ ¬ y1.toInt64 ≤ 10000) ∨ (x0 = x1 ∧ y0 = y1) ∨ (wd.toInt64 < 1 ∨ ¬ wd.toInt64 ≤ 10000) ∨ (¬ fA_size sn < 6)) : Met l yL_member [.codeWith yL_member bL_member 8 (some (.int)) [(0, 16, 19, 19), (0, 16, 23, 40)]] ({ frames := 8, cells := 1, slots := 6, locals := 132 }) (va_Pc [.ref h0, .int x0, .int y0, .int x1, .int y1, .int wd, .ref oa] (fun U => xb_At s0 U ∧ U.heap.size = sz ∧ va_P (dC, dI) classes [(h0, .inr (0, [.ref ta, .ref ra, .int wet, .int less, .ref px, .ref py, .int pn, .ref qx, .ref qy, .int qn, .ref ml])), (ml, .inr (4, [.ref ed, .int sn, .int mo])), (oa, .inl (cL, 1, .inr (.inl of)))] U.heap ∧ va_D (fun q => s0.heap.size ≤ q) [(h0, .inr (0, [.ref ta, .ref ra, .int wet, .int less, .ref px, .ref py, .int pn, .ref qx, .ref qy, .int qn, .ref ml])), (ml, .inr (4, [.ref ed, .int sn, .int mo])), (oa, .inl (cL, 1, .inr (.inl of)))])) (xb_W (dC, dI) (fun v9 w9 => v9 = some (.int (gL_member_b sn x0 y0 x1 y1 wd of)) ∧ w9 = [(h0, .inr (0, [.ref ta, .ref ra, .int wet, .int less, .ref px, .ref py, .int pn, .ref qx, .ref qy, .int qn, .ref ml])), (ml, .inr (4, [.ref ed, .int sn, .int mo])), (oa, .inl (cL, 1, .inr (.inl (gL_member_b_f sn x0 y0 x1 y1 wd of))))]) (va_A [(h0, .inr (0, [.ref ta, .ref ra, .int wet, .int less, .ref px, .ref py, .int pn, .ref qx, .ref qy, .int qn, .ref ml])), (ml, .inr (4, [.ref ed, .int sn, .int mo])), (oa, .inl (cL, 1, .inr (.inl of)))] sz)) 1 6 (va_A [(h0, .inr (0, [.ref ta, .ref ra, .int wet, .int less, .ref px, .ref py, .int pn, .ref qx, .ref qy, .int qn, .ref ml])), (ml, .inr (4, [.ref ed, .int sn, .int mo])), (oa, .inl (cL, 1, .inr (.inl of)))] sz) := by
  refine xw_ofW (cc := bL_member) (maxL := 8) (ret := (some (.int))) (hs := [(0, 16, 19, 19), (0, 16, 23, 40)]) (by decide) rfl ?_
  intro p e s m args below meth c s₁ B hml htab hv
  obtain ⟨rfl, hAt, hsz, hP, hD0⟩ := hv
  have hx := B.exec
  have hb := B.bytes
  have hr := B.returns
  have hts := xb_hts E hAt ([.ref h0, .int x0, .int y0, .int x1, .int y1, .int wd, .ref oa] : List Value).toArray
  have hown : s.vm.findClass "NailRulesLaw" = some m.cls := findClass_of_methodNamed B.named
  have hlocks := B.notSynchronized
  have hK := xb_K E hAt
  subst hsz
  have hA0 := xb_A0 hAt hD0
  have hD := hD0.self (sz := s.heap.size)
  generalize hAe : va_A [(h0, .inr (0, [.ref ta, .ref ra, .int wet, .int less, .ref px, .ref py, .int pn, .ref qx, .ref qy, .int qn, .ref ml])), (ml, .inr (4, [.ref ed, .int sn, .int mo])), (oa, .inl (cL, 1, .inr (.inl of)))] s.heap.size = A at hD hA0 ⊢
  have hA : ∀ q : Nat, s.heap.size ≤ q → A q := fun q h => by rw [← hAe]; exact Or.inr h
  have hS : va_S A s.heap s.heap [] := va_S.rf
  have hl := lv_entry ([.ref h0, .int x0, .int y0, .int x1, .int y1, .int wd, .ref oa]) (n := 8) (Nat.le_of_ble_eq_true rfl)
  rw [lg_entry_eq]
  generalize (lg_sl ([.ref h0, .int x0, .int y0, .int x1, .int y1, .int wd, .ref oa]) ++ List.replicate (8 - (lg_sl ([.ref h0, .int x0, .int y0, .int x1, .int y1, .int wd, .ref oa])).length) Slot.unset).toArray = ls at hl ⊢
  have hl : lv_has ls 8 [(0, .ref h0), (1, .int x0), (2, .int y0), (3, .int x1), (4, .int y1), (5, .int wd), (6, .ref oa)] := hl
  refine lv_aload hx hb dL_member_0 (lv_at hl 6 rfl) ?_
  refine lv_iconst (v := 0) hx hb dL_member_2 (by decide) ?_
  refine lv_aload_n hx hb dL_member_3 rfl (lv_at hl 0 rfl) ?_
  refine lv_iload_n hx hb dL_member_4 rfl (lv_at hl 1 rfl) ?_
  refine lv_iload_n hx hb dL_member_5 rfl (lv_at hl 2 rfl) ?_
  refine lv_iload_n hx hb dL_member_6 rfl (lv_at hl 3 rfl) ?_
  refine lv_iload hx hb dL_member_7 (lv_at hl 4 rfl) ?_
  refine lv_iload hx hb dL_member_9 (lv_at hl 5 rfl) ?_
  by_cases c_1 : x0.toInt64 < (-10000) ∨ ¬ x0.toInt64 ≤ 10000
  · refine xw_c1 (xt_runV (Cr := "NailRules") (As := [.int x0, .int y0, .int x1, .int y1, .int wd]) (rest := [.int 0, .ref oa]) ⟨hx, hb, hml, hown, hts⟩ (cN_member_x1 l E h0 ([.ref ta, .ref ra, .int wet, .int less, .ref px, .ref py, .int pn, .ref qx, .ref qy, .int qn, .ref ml]) x0 y0 x1 y1 wd (c_1)) (cwV 5 hts (xb_gi (List.forall_mem_cons.mpr ⟨xk_506, List.forall_mem_cons.mpr ⟨xk_507, List.forall_mem_cons.mpr ⟨xk_508, List.forall_mem_cons.mpr ⟨xk_40, List.forall_mem_cons.mpr ⟨xk_509, fun _ h => absurd h List.not_mem_nil⟩⟩⟩⟩⟩)) rfl rfl rfl (by decide +kernel) ⟨Nat.le_of_ble_eq_true rfl, Nat.le_of_ble_eq_true rfl⟩) ⟨fun _ _ _ _ q => q, va_recv hK hP (ci := 0) (q0 := 0) rfl rfl, fun U hU hW => ⟨rfl, xb_atS hAt hS hA0 hU hW, by rw [hU]; exact hP.sub (ws' := [(h0, .inr (0, [.ref ta, .ref ra, .int wet, .int less, .ref px, .ref py, .int pn, .ref qx, .ref qy, .int qn, .ref ml]))]) [0] rfl⟩⟩ rfl rfl hl.1 rfl (lv_room (Nat.le_of_ble_eq_true rfl)) dL_member_11 ⟨Nat.le_of_ble_eq_true rfl, Nat.le_of_ble_eq_true rfl⟩) hown htab rfl (by decide) (hts _ xk_365) (va_Nw.use rfl (xa_cst E hAt xk_376)) (fun q9 H hz9 hk9 => ?_)
    have hP := xw_P hP hk9
    have hS := xw_S hS hz9 hk9
    refine W.widen (k := 1) (n := 6) (by omega) (by omega) ?_
    refine lv_astore (lv' := [(7, .ref q9), (0, .ref h0), (1, .int x0), (2, .int y0), (3, .int x1), (4, .int y1), (5, .int wd), (6, .ref oa)]) hx hb dL_member_19 hl (by decide) rfl (fun ls hl => ?_)
    refine lv_iconst (v := 1) hx hb dL_member_21 (by decide) ?_
    have e_0 : gL_member_b sn x0 y0 x1 y1 wd of = (1 : Int32) := (if_pos c_1).trans (rfl)
    have e_1 : gL_member_b_f sn x0 y0 x1 y1 wd of = of := (if_pos c_1).trans (rfl)
    have hP9 := hP.sub (ws' := [(h0, .inr (0, [.ref ta, .ref ra, .int wet, .int less, .ref px, .ref py, .int pn, .ref qx, .ref qy, .int qn, .ref ml])), (ml, .inr (4, [.ref ed, .int sn, .int mo])), (oa, .inl (cL, 1, .inr (.inl of)))]) [0, 1, 2] rfl
    have hD9 := hD.sub (ws' := [(h0, .inr (0, [.ref ta, .ref ra, .int wet, .int less, .ref px, .ref py, .int pn, .ref qx, .ref qy, .int qn, .ref ml])), (ml, .inr (4, [.ref ed, .int sn, .int mo])), (oa, .inl (cL, 1, .inr (.inl of)))]) [0, 1, 2] (by decide) rfl
    refine W.widen (k := 1) (n := 6) (by omega) (by omega) ?_
    exact W.iret (v := 1) hx hb hr (fun t ht hW => ⟨_, _, rfl, ⟨by rw [e_0]; try rfl, by rw [e_1]⟩, by rw [ht]; exact hP9, hD9, hS.F ht⟩) hS.2.2 dL_member_22
  by_cases c_2 : y0.toInt64 < (-10000) ∨ ¬ y0.toInt64 ≤ 10000
  · refine xw_c1 (xt_runV (Cr := "NailRules") (As := [.int x0, .int y0, .int x1, .int y1, .int wd]) (rest := [.int 0, .ref oa]) ⟨hx, hb, hml, hown, hts⟩ (cN_member_x2 l E h0 ([.ref ta, .ref ra, .int wet, .int less, .ref px, .ref py, .int pn, .ref qx, .ref qy, .int qn, .ref ml]) x0 y0 x1 y1 wd (xh_1 c_1) (xh_2 c_1) (c_2)) (cwV 5 hts (xb_gi (List.forall_mem_cons.mpr ⟨xk_506, List.forall_mem_cons.mpr ⟨xk_507, List.forall_mem_cons.mpr ⟨xk_508, List.forall_mem_cons.mpr ⟨xk_40, List.forall_mem_cons.mpr ⟨xk_509, fun _ h => absurd h List.not_mem_nil⟩⟩⟩⟩⟩)) rfl rfl rfl (by decide +kernel) ⟨Nat.le_of_ble_eq_true rfl, Nat.le_of_ble_eq_true rfl⟩) ⟨fun _ _ _ _ q => q, va_recv hK hP (ci := 0) (q0 := 0) rfl rfl, fun U hU hW => ⟨rfl, xb_atS hAt hS hA0 hU hW, by rw [hU]; exact hP.sub (ws' := [(h0, .inr (0, [.ref ta, .ref ra, .int wet, .int less, .ref px, .ref py, .int pn, .ref qx, .ref qy, .int qn, .ref ml]))]) [0] rfl⟩⟩ rfl rfl hl.1 rfl (lv_room (Nat.le_of_ble_eq_true rfl)) dL_member_11 ⟨Nat.le_of_ble_eq_true rfl, Nat.le_of_ble_eq_true rfl⟩) hown htab rfl (by decide) (hts _ xk_365) (va_Nw.use rfl (xa_cst E hAt xk_376)) (fun q9 H hz9 hk9 => ?_)
    have hP := xw_P hP hk9
    have hS := xw_S hS hz9 hk9
    refine W.widen (k := 1) (n := 6) (by omega) (by omega) ?_
    refine lv_astore (lv' := [(7, .ref q9), (0, .ref h0), (1, .int x0), (2, .int y0), (3, .int x1), (4, .int y1), (5, .int wd), (6, .ref oa)]) hx hb dL_member_19 hl (by decide) rfl (fun ls hl => ?_)
    refine lv_iconst (v := 1) hx hb dL_member_21 (by decide) ?_
    have e_0 : gL_member_b sn x0 y0 x1 y1 wd of = (1 : Int32) := (if_neg c_1).trans ((if_pos c_2).trans (rfl))
    have e_1 : gL_member_b_f sn x0 y0 x1 y1 wd of = of := (if_neg c_1).trans ((if_pos c_2).trans (rfl))
    have hP9 := hP.sub (ws' := [(h0, .inr (0, [.ref ta, .ref ra, .int wet, .int less, .ref px, .ref py, .int pn, .ref qx, .ref qy, .int qn, .ref ml])), (ml, .inr (4, [.ref ed, .int sn, .int mo])), (oa, .inl (cL, 1, .inr (.inl of)))]) [0, 1, 2] rfl
    have hD9 := hD.sub (ws' := [(h0, .inr (0, [.ref ta, .ref ra, .int wet, .int less, .ref px, .ref py, .int pn, .ref qx, .ref qy, .int qn, .ref ml])), (ml, .inr (4, [.ref ed, .int sn, .int mo])), (oa, .inl (cL, 1, .inr (.inl of)))]) [0, 1, 2] (by decide) rfl
    refine W.widen (k := 1) (n := 6) (by omega) (by omega) ?_
    exact W.iret (v := 1) hx hb hr (fun t ht hW => ⟨_, _, rfl, ⟨by rw [e_0]; try rfl, by rw [e_1]⟩, by rw [ht]; exact hP9, hD9, hS.F ht⟩) hS.2.2 dL_member_22
  by_cases c_3 : x1.toInt64 < (-10000) ∨ ¬ x1.toInt64 ≤ 10000
  · refine xw_c1 (xt_runV (Cr := "NailRules") (As := [.int x0, .int y0, .int x1, .int y1, .int wd]) (rest := [.int 0, .ref oa]) ⟨hx, hb, hml, hown, hts⟩ (cN_member_x3 l E h0 ([.ref ta, .ref ra, .int wet, .int less, .ref px, .ref py, .int pn, .ref qx, .ref qy, .int qn, .ref ml]) x0 y0 x1 y1 wd (xh_1 c_1) (xh_2 c_1) (xh_1 c_2) (xh_2 c_2) (c_3)) (cwV 5 hts (xb_gi (List.forall_mem_cons.mpr ⟨xk_506, List.forall_mem_cons.mpr ⟨xk_507, List.forall_mem_cons.mpr ⟨xk_508, List.forall_mem_cons.mpr ⟨xk_40, List.forall_mem_cons.mpr ⟨xk_509, fun _ h => absurd h List.not_mem_nil⟩⟩⟩⟩⟩)) rfl rfl rfl (by decide +kernel) ⟨Nat.le_of_ble_eq_true rfl, Nat.le_of_ble_eq_true rfl⟩) ⟨fun _ _ _ _ q => q, va_recv hK hP (ci := 0) (q0 := 0) rfl rfl, fun U hU hW => ⟨rfl, xb_atS hAt hS hA0 hU hW, by rw [hU]; exact hP.sub (ws' := [(h0, .inr (0, [.ref ta, .ref ra, .int wet, .int less, .ref px, .ref py, .int pn, .ref qx, .ref qy, .int qn, .ref ml]))]) [0] rfl⟩⟩ rfl rfl hl.1 rfl (lv_room (Nat.le_of_ble_eq_true rfl)) dL_member_11 ⟨Nat.le_of_ble_eq_true rfl, Nat.le_of_ble_eq_true rfl⟩) hown htab rfl (by decide) (hts _ xk_365) (va_Nw.use rfl (xa_cst E hAt xk_376)) (fun q9 H hz9 hk9 => ?_)
    have hP := xw_P hP hk9
    have hS := xw_S hS hz9 hk9
    refine W.widen (k := 1) (n := 6) (by omega) (by omega) ?_
    refine lv_astore (lv' := [(7, .ref q9), (0, .ref h0), (1, .int x0), (2, .int y0), (3, .int x1), (4, .int y1), (5, .int wd), (6, .ref oa)]) hx hb dL_member_19 hl (by decide) rfl (fun ls hl => ?_)
    refine lv_iconst (v := 1) hx hb dL_member_21 (by decide) ?_
    have e_0 : gL_member_b sn x0 y0 x1 y1 wd of = (1 : Int32) := (if_neg c_1).trans ((if_neg c_2).trans ((if_pos c_3).trans (rfl)))
    have e_1 : gL_member_b_f sn x0 y0 x1 y1 wd of = of := (if_neg c_1).trans ((if_neg c_2).trans ((if_pos c_3).trans (rfl)))
    have hP9 := hP.sub (ws' := [(h0, .inr (0, [.ref ta, .ref ra, .int wet, .int less, .ref px, .ref py, .int pn, .ref qx, .ref qy, .int qn, .ref ml])), (ml, .inr (4, [.ref ed, .int sn, .int mo])), (oa, .inl (cL, 1, .inr (.inl of)))]) [0, 1, 2] rfl
    have hD9 := hD.sub (ws' := [(h0, .inr (0, [.ref ta, .ref ra, .int wet, .int less, .ref px, .ref py, .int pn, .ref qx, .ref qy, .int qn, .ref ml])), (ml, .inr (4, [.ref ed, .int sn, .int mo])), (oa, .inl (cL, 1, .inr (.inl of)))]) [0, 1, 2] (by decide) rfl
    refine W.widen (k := 1) (n := 6) (by omega) (by omega) ?_
    exact W.iret (v := 1) hx hb hr (fun t ht hW => ⟨_, _, rfl, ⟨by rw [e_0]; try rfl, by rw [e_1]⟩, by rw [ht]; exact hP9, hD9, hS.F ht⟩) hS.2.2 dL_member_22
  by_cases c_4 : y1.toInt64 < (-10000) ∨ ¬ y1.toInt64 ≤ 10000
  · refine xw_c1 (xt_runV (Cr := "NailRules") (As := [.int x0, .int y0, .int x1, .int y1, .int wd]) (rest := [.int 0, .ref oa]) ⟨hx, hb, hml, hown, hts⟩ (cN_member_x4 l E h0 ([.ref ta, .ref ra, .int wet, .int less, .ref px, .ref py, .int pn, .ref qx, .ref qy, .int qn, .ref ml]) x0 y0 x1 y1 wd (xh_1 c_1) (xh_2 c_1) (xh_1 c_2) (xh_2 c_2) (xh_1 c_3) (xh_2 c_3) (c_4)) (cwV 5 hts (xb_gi (List.forall_mem_cons.mpr ⟨xk_506, List.forall_mem_cons.mpr ⟨xk_507, List.forall_mem_cons.mpr ⟨xk_508, List.forall_mem_cons.mpr ⟨xk_40, List.forall_mem_cons.mpr ⟨xk_509, fun _ h => absurd h List.not_mem_nil⟩⟩⟩⟩⟩)) rfl rfl rfl (by decide +kernel) ⟨Nat.le_of_ble_eq_true rfl, Nat.le_of_ble_eq_true rfl⟩) ⟨fun _ _ _ _ q => q, va_recv hK hP (ci := 0) (q0 := 0) rfl rfl, fun U hU hW => ⟨rfl, xb_atS hAt hS hA0 hU hW, by rw [hU]; exact hP.sub (ws' := [(h0, .inr (0, [.ref ta, .ref ra, .int wet, .int less, .ref px, .ref py, .int pn, .ref qx, .ref qy, .int qn, .ref ml]))]) [0] rfl⟩⟩ rfl rfl hl.1 rfl (lv_room (Nat.le_of_ble_eq_true rfl)) dL_member_11 ⟨Nat.le_of_ble_eq_true rfl, Nat.le_of_ble_eq_true rfl⟩) hown htab rfl (by decide) (hts _ xk_365) (va_Nw.use rfl (xa_cst E hAt xk_376)) (fun q9 H hz9 hk9 => ?_)
    have hP := xw_P hP hk9
    have hS := xw_S hS hz9 hk9
    refine W.widen (k := 1) (n := 6) (by omega) (by omega) ?_
    refine lv_astore (lv' := [(7, .ref q9), (0, .ref h0), (1, .int x0), (2, .int y0), (3, .int x1), (4, .int y1), (5, .int wd), (6, .ref oa)]) hx hb dL_member_19 hl (by decide) rfl (fun ls hl => ?_)
    refine lv_iconst (v := 1) hx hb dL_member_21 (by decide) ?_
    have e_0 : gL_member_b sn x0 y0 x1 y1 wd of = (1 : Int32) := (if_neg c_1).trans ((if_neg c_2).trans ((if_neg c_3).trans ((if_pos c_4).trans (rfl))))
    have e_1 : gL_member_b_f sn x0 y0 x1 y1 wd of = of := (if_neg c_1).trans ((if_neg c_2).trans ((if_neg c_3).trans ((if_pos c_4).trans (rfl))))
    have hP9 := hP.sub (ws' := [(h0, .inr (0, [.ref ta, .ref ra, .int wet, .int less, .ref px, .ref py, .int pn, .ref qx, .ref qy, .int qn, .ref ml])), (ml, .inr (4, [.ref ed, .int sn, .int mo])), (oa, .inl (cL, 1, .inr (.inl of)))]) [0, 1, 2] rfl
    have hD9 := hD.sub (ws' := [(h0, .inr (0, [.ref ta, .ref ra, .int wet, .int less, .ref px, .ref py, .int pn, .ref qx, .ref qy, .int qn, .ref ml])), (ml, .inr (4, [.ref ed, .int sn, .int mo])), (oa, .inl (cL, 1, .inr (.inl of)))]) [0, 1, 2] (by decide) rfl
    refine W.widen (k := 1) (n := 6) (by omega) (by omega) ?_
    exact W.iret (v := 1) hx hb hr (fun t ht hW => ⟨_, _, rfl, ⟨by rw [e_0]; try rfl, by rw [e_1]⟩, by rw [ht]; exact hP9, hD9, hS.F ht⟩) hS.2.2 dL_member_22
  by_cases c_5 : x0 = x1 ∧ y0 = y1
  · refine xw_c1 (xt_runV (Cr := "NailRules") (As := [.int x0, .int y0, .int x1, .int y1, .int wd]) (rest := [.int 0, .ref oa]) ⟨hx, hb, hml, hown, hts⟩ (cN_member_x5 l E h0 ([.ref ta, .ref ra, .int wet, .int less, .ref px, .ref py, .int pn, .ref qx, .ref qy, .int qn, .ref ml]) x0 y0 x1 y1 wd (xh_1 c_1) (xh_2 c_1) (xh_1 c_2) (xh_2 c_2) (xh_1 c_3) (xh_2 c_3) (xh_1 c_4) (xh_2 c_4) (c_5)) (cwV 5 hts (xb_gi (List.forall_mem_cons.mpr ⟨xk_506, List.forall_mem_cons.mpr ⟨xk_507, List.forall_mem_cons.mpr ⟨xk_508, List.forall_mem_cons.mpr ⟨xk_40, List.forall_mem_cons.mpr ⟨xk_509, fun _ h => absurd h List.not_mem_nil⟩⟩⟩⟩⟩)) rfl rfl rfl (by decide +kernel) ⟨Nat.le_of_ble_eq_true rfl, Nat.le_of_ble_eq_true rfl⟩) ⟨fun _ _ _ _ q => q, va_recv hK hP (ci := 0) (q0 := 0) rfl rfl, fun U hU hW => ⟨rfl, xb_atS hAt hS hA0 hU hW, by rw [hU]; exact hP.sub (ws' := [(h0, .inr (0, [.ref ta, .ref ra, .int wet, .int less, .ref px, .ref py, .int pn, .ref qx, .ref qy, .int qn, .ref ml]))]) [0] rfl⟩⟩ rfl rfl hl.1 rfl (lv_room (Nat.le_of_ble_eq_true rfl)) dL_member_11 ⟨Nat.le_of_ble_eq_true rfl, Nat.le_of_ble_eq_true rfl⟩) hown htab rfl (by decide) (hts _ xk_365) (va_Nw.use rfl (xa_cst E hAt xk_376)) (fun q9 H hz9 hk9 => ?_)
    have hP := xw_P hP hk9
    have hS := xw_S hS hz9 hk9
    refine W.widen (k := 1) (n := 6) (by omega) (by omega) ?_
    refine lv_astore (lv' := [(7, .ref q9), (0, .ref h0), (1, .int x0), (2, .int y0), (3, .int x1), (4, .int y1), (5, .int wd), (6, .ref oa)]) hx hb dL_member_19 hl (by decide) rfl (fun ls hl => ?_)
    refine lv_iconst (v := 1) hx hb dL_member_21 (by decide) ?_
    have e_0 : gL_member_b sn x0 y0 x1 y1 wd of = (1 : Int32) := (if_neg c_1).trans ((if_neg c_2).trans ((if_neg c_3).trans ((if_neg c_4).trans ((if_pos c_5).trans (rfl)))))
    have e_1 : gL_member_b_f sn x0 y0 x1 y1 wd of = of := (if_neg c_1).trans ((if_neg c_2).trans ((if_neg c_3).trans ((if_neg c_4).trans ((if_pos c_5).trans (rfl)))))
    have hP9 := hP.sub (ws' := [(h0, .inr (0, [.ref ta, .ref ra, .int wet, .int less, .ref px, .ref py, .int pn, .ref qx, .ref qy, .int qn, .ref ml])), (ml, .inr (4, [.ref ed, .int sn, .int mo])), (oa, .inl (cL, 1, .inr (.inl of)))]) [0, 1, 2] rfl
    have hD9 := hD.sub (ws' := [(h0, .inr (0, [.ref ta, .ref ra, .int wet, .int less, .ref px, .ref py, .int pn, .ref qx, .ref qy, .int qn, .ref ml])), (ml, .inr (4, [.ref ed, .int sn, .int mo])), (oa, .inl (cL, 1, .inr (.inl of)))]) [0, 1, 2] (by decide) rfl
    refine W.widen (k := 1) (n := 6) (by omega) (by omega) ?_
    exact W.iret (v := 1) hx hb hr (fun t ht hW => ⟨_, _, rfl, ⟨by rw [e_0]; try rfl, by rw [e_1]⟩, by rw [ht]; exact hP9, hD9, hS.F ht⟩) hS.2.2 dL_member_22
  by_cases c_6 : wd.toInt64 < 1 ∨ ¬ wd.toInt64 ≤ 10000
  · refine xw_c1 (xt_runV (Cr := "NailRules") (As := [.int x0, .int y0, .int x1, .int y1, .int wd]) (rest := [.int 0, .ref oa]) ⟨hx, hb, hml, hown, hts⟩ (cN_member_x6 l E h0 ([.ref ta, .ref ra, .int wet, .int less, .ref px, .ref py, .int pn, .ref qx, .ref qy, .int qn, .ref ml]) x0 y0 x1 y1 wd (xh_1 c_1) (xh_2 c_1) (xh_1 c_2) (xh_2 c_2) (xh_1 c_3) (xh_2 c_3) (xh_1 c_4) (xh_2 c_4) (c_5) (c_6)) (cwV 5 hts (xb_gi (List.forall_mem_cons.mpr ⟨xk_506, List.forall_mem_cons.mpr ⟨xk_507, List.forall_mem_cons.mpr ⟨xk_508, List.forall_mem_cons.mpr ⟨xk_40, List.forall_mem_cons.mpr ⟨xk_509, fun _ h => absurd h List.not_mem_nil⟩⟩⟩⟩⟩)) rfl rfl rfl (by decide +kernel) ⟨Nat.le_of_ble_eq_true rfl, Nat.le_of_ble_eq_true rfl⟩) ⟨fun _ _ _ _ q => q, va_recv hK hP (ci := 0) (q0 := 0) rfl rfl, fun U hU hW => ⟨rfl, xb_atS hAt hS hA0 hU hW, by rw [hU]; exact hP.sub (ws' := [(h0, .inr (0, [.ref ta, .ref ra, .int wet, .int less, .ref px, .ref py, .int pn, .ref qx, .ref qy, .int qn, .ref ml]))]) [0] rfl⟩⟩ rfl rfl hl.1 rfl (lv_room (Nat.le_of_ble_eq_true rfl)) dL_member_11 ⟨Nat.le_of_ble_eq_true rfl, Nat.le_of_ble_eq_true rfl⟩) hown htab rfl (by decide) (hts _ xk_365) (va_Nw.use rfl (xa_cst E hAt xk_376)) (fun q9 H hz9 hk9 => ?_)
    have hP := xw_P hP hk9
    have hS := xw_S hS hz9 hk9
    refine W.widen (k := 1) (n := 6) (by omega) (by omega) ?_
    refine lv_astore (lv' := [(7, .ref q9), (0, .ref h0), (1, .int x0), (2, .int y0), (3, .int x1), (4, .int y1), (5, .int wd), (6, .ref oa)]) hx hb dL_member_19 hl (by decide) rfl (fun ls hl => ?_)
    refine lv_iconst (v := 1) hx hb dL_member_21 (by decide) ?_
    have e_0 : gL_member_b sn x0 y0 x1 y1 wd of = (1 : Int32) := (if_neg c_1).trans ((if_neg c_2).trans ((if_neg c_3).trans ((if_neg c_4).trans ((if_neg c_5).trans ((if_pos c_6).trans (rfl))))))
    have e_1 : gL_member_b_f sn x0 y0 x1 y1 wd of = of := (if_neg c_1).trans ((if_neg c_2).trans ((if_neg c_3).trans ((if_neg c_4).trans ((if_neg c_5).trans ((if_pos c_6).trans (rfl))))))
    have hP9 := hP.sub (ws' := [(h0, .inr (0, [.ref ta, .ref ra, .int wet, .int less, .ref px, .ref py, .int pn, .ref qx, .ref qy, .int qn, .ref ml])), (ml, .inr (4, [.ref ed, .int sn, .int mo])), (oa, .inl (cL, 1, .inr (.inl of)))]) [0, 1, 2] rfl
    have hD9 := hD.sub (ws' := [(h0, .inr (0, [.ref ta, .ref ra, .int wet, .int less, .ref px, .ref py, .int pn, .ref qx, .ref qy, .int qn, .ref ml])), (ml, .inr (4, [.ref ed, .int sn, .int mo])), (oa, .inl (cL, 1, .inr (.inl of)))]) [0, 1, 2] (by decide) rfl
    refine W.widen (k := 1) (n := 6) (by omega) (by omega) ?_
    exact W.iret (v := 1) hx hb hr (fun t ht hW => ⟨_, _, rfl, ⟨by rw [e_0]; try rfl, by rw [e_1]⟩, by rw [ht]; exact hP9, hD9, hS.F ht⟩) hS.2.2 dL_member_22
  by_cases c_7 : ¬ fA_size sn < 6
  · obtain ⟨c9, hc9, hno9⟩ := xc_nc_IS_IA E hAt
    refine xw_c2 (xt_runV (Cr := "NailRules") (As := [.int x0, .int y0, .int x1, .int y1, .int wd]) (rest := [.int 0, .ref oa]) ⟨hx, hb, hml, hown, hts⟩ (cN_member_x7 l E h0 ([.ref ta, .ref ra, .int wet, .int less, .ref px, .ref py, .int pn, .ref qx, .ref qy, .int qn, .ref ml]) ml ([.ref ed, .int sn, .int mo]) sn x0 y0 x1 y1 wd rfl rfl (xh_1 c_1) (xh_2 c_1) (xh_1 c_2) (xh_2 c_2) (xh_1 c_3) (xh_2 c_3) (xh_1 c_4) (xh_2 c_4) (c_5) (xh_1 c_6) (xh_2 c_6) (c_7)) (cwV 5 hts (xb_gi (List.forall_mem_cons.mpr ⟨xk_506, List.forall_mem_cons.mpr ⟨xk_507, List.forall_mem_cons.mpr ⟨xk_508, List.forall_mem_cons.mpr ⟨xk_40, List.forall_mem_cons.mpr ⟨xk_509, fun _ h => absurd h List.not_mem_nil⟩⟩⟩⟩⟩)) rfl rfl rfl (by decide +kernel) ⟨Nat.le_of_ble_eq_true rfl, Nat.le_of_ble_eq_true rfl⟩) ⟨fun _ _ _ _ q => q, va_recv hK hP (ci := 0) (q0 := 0) rfl rfl, fun U hU hW => ⟨rfl, xb_atS hAt hS hA0 hU hW, by rw [hU]; exact hP.sub (ws' := [(h0, .inr (0, [.ref ta, .ref ra, .int wet, .int less, .ref px, .ref py, .int pn, .ref qx, .ref qy, .int qn, .ref ml])), (ml, .inr (4, [.ref ed, .int sn, .int mo]))]) [0, 1] rfl⟩⟩ rfl rfl hl.1 rfl (lv_room (Nat.le_of_ble_eq_true rfl)) dL_member_11 ⟨Nat.le_of_ble_eq_true rfl, Nat.le_of_ble_eq_true rfl⟩) hown htab rfl (by decide) rfl (by decide) (hts _ xk_365) (hts _ xk_452) hc9 hno9 (va_Nw.use rfl (xa_cst E hAt xk_459)) (fun q9 H hz9 hk9 => ?_)
    have hP := xw_P hP hk9
    have hS := xw_S hS hz9 hk9
    refine W.widen (k := 1) (n := 6) (by omega) (by omega) ?_
    refine lv_astore (lv' := [(7, .ref q9), (0, .ref h0), (1, .int x0), (2, .int y0), (3, .int x1), (4, .int y1), (5, .int wd), (6, .ref oa)]) hx hb dL_member_23 hl (by decide) rfl (fun ls hl => ?_)
    refine lv_iconst (v := 2) hx hb dL_member_25 (by decide) ?_
    have e_0 : gL_member_b sn x0 y0 x1 y1 wd of = (2 : Int32) := (if_neg c_1).trans ((if_neg c_2).trans ((if_neg c_3).trans ((if_neg c_4).trans ((if_neg c_5).trans ((if_neg c_6).trans (rfl))))))
    have e_1 : gL_member_b_f sn x0 y0 x1 y1 wd of = of := (if_neg c_1).trans ((if_neg c_2).trans ((if_neg c_3).trans ((if_neg c_4).trans ((if_neg c_5).trans ((if_neg c_6).trans (rfl))))))
    have hP9 := hP.sub (ws' := [(h0, .inr (0, [.ref ta, .ref ra, .int wet, .int less, .ref px, .ref py, .int pn, .ref qx, .ref qy, .int qn, .ref ml])), (ml, .inr (4, [.ref ed, .int sn, .int mo])), (oa, .inl (cL, 1, .inr (.inl of)))]) [0, 1, 2] rfl
    have hD9 := hD.sub (ws' := [(h0, .inr (0, [.ref ta, .ref ra, .int wet, .int less, .ref px, .ref py, .int pn, .ref qx, .ref qy, .int qn, .ref ml])), (ml, .inr (4, [.ref ed, .int sn, .int mo])), (oa, .inl (cL, 1, .inr (.inl of)))]) [0, 1, 2] (by decide) rfl
    refine W.widen (k := 1) (n := 6) (by omega) (by omega) ?_
    exact W.iret (v := 2) hx hb hr (fun t ht hW => ⟨_, _, rfl, ⟨by rw [e_0]; try rfl, by rw [e_1]⟩, by rw [ht]; exact hP9, hD9, hS.F ht⟩) hS.2.2 dL_member_26
  exact absurd hbad (by rintro (h9 | h9 | h9 | h9 | h9 | h9 | h9) <;> contradiction)

def gL_member_f (x0 : Int32) (y0 : Int32) (x1 : Int32) (y1 : Int32) (wd : Int32) (of : Nat → Int64) : Int32 := (0)
def gL_member_f_f (x0 : Int32) (y0 : Int32) (x1 : Int32) (y1 : Int32) (wd : Int32) (of : Nat → Int64) : Nat → Int64 := vp_updL of (0 : Int32).toNatClampNeg ((gN_member_f x0 y0 x1 y1 wd).toInt64)
set_option maxHeartbeats 4000000 in
set_option maxRecDepth 100000 in
theorem cL_member_f (l : Launch) {s0 : State} {dC : Nat → ClassId} {dI : Nat → Nat → Nat} {cI cC cL cO : ClassId} (E : xb_Env l s0 dC dI (xtys cI cC cL cO)) {d0 : Nat} (sz : Nat) (h0 : Nat) (ml : Nat) (oa : Nat) (ta : Nat) (ra : Nat) (wet : Int32) (less : Int32) (px : Nat) (py : Nat) (pn : Int32) (qx : Nat) (qy : Nat) (qn : Int32) (mo : Int32) (of : Nat → Int64) (x0 : Int32) (y0 : Int32) (x1 : Int32) (y1 : Int32) (wd : Int32) (ua : ¬ x0.toInt64 < (-10000)) (ub : x0.toInt64 ≤ 10000) (wa : ¬ y0.toInt64 < (-10000)) (wb : y0.toInt64 ≤ 10000) (ga : ¬ x1.toInt64 < (-10000)) (gb : x1.toInt64 ≤ 10000) (qa : ¬ y1.toInt64 < (-10000)) (qb : y1.toInt64 ≤ 10000) (hne : ¬ (x0 = x1 ∧ y0 = y1)) (va : ¬ wd.toInt64 < 1) (vb : wd.toInt64 ≤ 10000) (hZ : xa_D s0 d0) : Met l yL_member [.codeWith yL_member bL_member 8 (some (.int)) [(0, 16, 19, 19), (0, 16, 23, 40)]] ({ frames := 6, cells := 2, slots := 15, locals := 126 }) (va_Pc [.ref h0, .int x0, .int y0, .int x1, .int y1, .int wd, .ref oa] (fun U => xb_At s0 U ∧ U.heap.size = sz ∧ va_P (dC, dI) classes [(h0, .inr (0, [.ref ta, .ref ra, .int wet, .int less, .ref px, .ref py, .int pn, .ref qx, .ref qy, .int qn, .ref ml])), (ml, .inr (4, [.ref d0, .int 0, .int mo])), (oa, .inl (cL, 1, .inr (.inl of)))] U.heap ∧ va_D (fun q => s0.heap.size ≤ q) [(h0, .inr (0, [.ref ta, .ref ra, .int wet, .int less, .ref px, .ref py, .int pn, .ref qx, .ref qy, .int qn, .ref ml])), (ml, .inr (4, [.ref d0, .int 0, .int mo])), (oa, .inl (cL, 1, .inr (.inl of)))])) (xb_W (dC, dI) (fun v9 w9 => ∃ q_1 q_2 : Nat, v9 = some (.int (gL_member_f x0 y0 x1 y1 wd of)) ∧ w9 = [(h0, .inr (0, [.ref ta, .ref ra, .int wet, .int less, .ref px, .ref py, .int pn, .ref qx, .ref qy, .int qn, .ref ml])), (ml, .inr (4, [.ref q_2, .int 1, .int (mo + 1)])), (q_2, .inl (cO, 10, .inr (.inr (.inr (.inr (va_up (fun _ => none) (0 : Int32).toNatClampNeg (some q_1))))))), (q_1, .inr (2, [.long x0.toInt64, .long y0.toInt64, .long ((x1 - x0).toInt64), .long ((y1 - y0).toInt64), .long wd.toInt64])), (oa, .inl (cL, 1, .inr (.inl (gL_member_f_f x0 y0 x1 y1 wd of))))]) (va_A [(h0, .inr (0, [.ref ta, .ref ra, .int wet, .int less, .ref px, .ref py, .int pn, .ref qx, .ref qy, .int qn, .ref ml])), (ml, .inr (4, [.ref d0, .int 0, .int mo])), (oa, .inl (cL, 1, .inr (.inl of)))] sz)) 2 15 (va_A [(h0, .inr (0, [.ref ta, .ref ra, .int wet, .int less, .ref px, .ref py, .int pn, .ref qx, .ref qy, .int qn, .ref ml])), (ml, .inr (4, [.ref d0, .int 0, .int mo])), (oa, .inl (cL, 1, .inr (.inl of)))] sz) := by
  refine xw_ofW (cc := bL_member) (maxL := 8) (ret := (some (.int))) (hs := [(0, 16, 19, 19), (0, 16, 23, 40)]) (by decide) rfl ?_
  intro p e s m args below meth c s₁ B hml htab hv
  obtain ⟨rfl, hAt, hsz, hP, hD0⟩ := hv
  have hx := B.exec
  have hb := B.bytes
  have hr := B.returns
  have hts := xb_hts E hAt ([.ref h0, .int x0, .int y0, .int x1, .int y1, .int wd, .ref oa] : List Value).toArray
  have hown : s.vm.findClass "NailRulesLaw" = some m.cls := findClass_of_methodNamed B.named
  have hlocks := B.notSynchronized
  have hK := xb_K E hAt
  subst hsz
  have hA0 := xb_A0 hAt hD0
  have hD := hD0.self (sz := s.heap.size)
  generalize hAe : va_A [(h0, .inr (0, [.ref ta, .ref ra, .int wet, .int less, .ref px, .ref py, .int pn, .ref qx, .ref qy, .int qn, .ref ml])), (ml, .inr (4, [.ref d0, .int 0, .int mo])), (oa, .inl (cL, 1, .inr (.inl of)))] s.heap.size = A at hD hA0 ⊢
  have hA : ∀ q : Nat, s.heap.size ≤ q → A q := fun q h => by rw [← hAe]; exact Or.inr h
  have hS : va_S A s.heap s.heap [] := va_S.rf
  have hl := lv_entry ([.ref h0, .int x0, .int y0, .int x1, .int y1, .int wd, .ref oa]) (n := 8) (Nat.le_of_ble_eq_true rfl)
  rw [lg_entry_eq]
  generalize (lg_sl ([.ref h0, .int x0, .int y0, .int x1, .int y1, .int wd, .ref oa]) ++ List.replicate (8 - (lg_sl ([.ref h0, .int x0, .int y0, .int x1, .int y1, .int wd, .ref oa])).length) Slot.unset).toArray = ls at hl ⊢
  have hl : lv_has ls 8 [(0, .ref h0), (1, .int x0), (2, .int y0), (3, .int x1), (4, .int y1), (5, .int wd), (6, .ref oa)] := hl
  refine lv_aload hx hb dL_member_0 (lv_at hl 6 rfl) ?_
  refine lv_iconst (v := 0) hx hb dL_member_2 (by decide) ?_
  refine lv_aload_n hx hb dL_member_3 rfl (lv_at hl 0 rfl) ?_
  refine lv_iload_n hx hb dL_member_4 rfl (lv_at hl 1 rfl) ?_
  refine lv_iload_n hx hb dL_member_5 rfl (lv_at hl 2 rfl) ?_
  refine lv_iload_n hx hb dL_member_6 rfl (lv_at hl 3 rfl) ?_
  refine lv_iload hx hb dL_member_7 (lv_at hl 4 rfl) ?_
  refine lv_iload hx hb dL_member_9 (lv_at hl 5 rfl) ?_
  refine xb_wr (wr := [(oa, .inl (cL, 1, .inr (.inl of)))]) (va_runV (C := "NailRules") (As := [.int x0, .int y0, .int x1, .int y1, .int wd]) (rest := [.int 0, .ref oa]) ⟨hx, hb, hml, hown, hts⟩ (cN_member_f l E _ h0 ml ta ra wet less px py pn qx qy qn mo x0 y0 x1 y1 wd (ua) (ub) (wa) (wb) (ga) (gb) (qa) (qb) (hne) (va) (vb) (hZ)) (cwV 5 hts (xb_gi (List.forall_mem_cons.mpr ⟨xk_506, List.forall_mem_cons.mpr ⟨xk_507, List.forall_mem_cons.mpr ⟨xk_508, List.forall_mem_cons.mpr ⟨xk_40, List.forall_mem_cons.mpr ⟨xk_509, fun _ h => absurd h List.not_mem_nil⟩⟩⟩⟩⟩)) rfl rfl rfl (by decide +kernel) ⟨Nat.le_of_ble_eq_true rfl, Nat.le_of_ble_eq_true rfl⟩) ⟨fun _ _ _ _ q => q, va_recv hK hP (ci := 0) (q0 := 0) rfl rfl, fun U hU hW => ⟨rfl, xb_atS hAt hS hA0 hU hW, by rw [hU], by rw [hU]; exact hP.sub (ws' := [(h0, .inr (0, [.ref ta, .ref ra, .int wet, .int less, .ref px, .ref py, .int pn, .ref qx, .ref qy, .int qn, .ref ml])), (ml, .inr (4, [.ref d0, .int 0, .int mo]))]) [0, 1] rfl, (hD.sub (ws' := [(h0, .inr (0, [.ref ta, .ref ra, .int wet, .int less, .ref px, .ref py, .int pn, .ref qx, .ref qy, .int qn, .ref ml])), (ml, .inr (4, [.ref d0, .int 0, .int mo]))]) [0, 1] (by decide) rfl).weaken (fun _ q _ h => hA0 q.1 h)⟩⟩ rfl rfl hl.1 rfl (lv_room (Nat.le_of_ble_eq_true rfl)) dL_member_11 ⟨Nat.le_of_ble_eq_true rfl, Nat.le_of_ble_eq_true rfl⟩) hP hD hS hA [0, 1] [2] rfl rfl (by decide) (by decide) ?_
  rintro _ _ H locs ⟨q_1, q_2, rfl, rfl⟩ hP hD hS
  have hP : va_P (dC, dI) classes [(oa, .inl (cL, 1, .inr (.inl of))), (h0, .inr (0, [.ref ta, .ref ra, .int wet, .int less, .ref px, .ref py, .int pn, .ref qx, .ref qy, .int qn, .ref ml])), (ml, .inr (4, [.ref q_2, .int 1, .int (mo + 1)])), (q_2, .inl (cO, 10, .inr (.inr (.inr (.inr (va_up (fun _ => none) (0 : Int32).toNatClampNeg (some q_1))))))), (q_1, .inr (2, [.long x0.toInt64, .long y0.toInt64, .long ((x1 - x0).toInt64), .long ((y1 - y0).toInt64), .long wd.toInt64]))] H := hP
  have hD : va_D A [(oa, .inl (cL, 1, .inr (.inl of))), (h0, .inr (0, [.ref ta, .ref ra, .int wet, .int less, .ref px, .ref py, .int pn, .ref qx, .ref qy, .int qn, .ref ml])), (ml, .inr (4, [.ref q_2, .int 1, .int (mo + 1)])), (q_2, .inl (cO, 10, .inr (.inr (.inr (.inr (va_up (fun _ => none) (0 : Int32).toNatClampNeg (some q_1))))))), (q_1, .inr (2, [.long x0.toInt64, .long y0.toInt64, .long ((x1 - x0).toInt64), .long ((y1 - y0).toInt64), .long wd.toInt64]))] := hD
  refine W.widen (k := 2) (n := 15) (by omega) (by omega) ?_
  refine lv_i2l hx hb dL_member_14 rfl ?_
  have o_1 : vp_in (0 : Int32) 1 := by unfold vp_in; decide
  refine va_last hx hb hK hP hD hS 0 2 rfl rfl o_1 dL_member_15 (fun H locs hP hD hS => ?_)
  have hP : va_P (dC, dI) classes [(oa, .inl (cL, 1, .inr (.inl (vp_updL of (0 : Int32).toNatClampNeg ((gN_member_f x0 y0 x1 y1 wd).toInt64))))), (h0, .inr (0, [.ref ta, .ref ra, .int wet, .int less, .ref px, .ref py, .int pn, .ref qx, .ref qy, .int qn, .ref ml])), (ml, .inr (4, [.ref q_2, .int 1, .int (mo + 1)])), (q_2, .inl (cO, 10, .inr (.inr (.inr (.inr (va_up (fun _ => none) (0 : Int32).toNatClampNeg (some q_1))))))), (q_1, .inr (2, [.long x0.toInt64, .long y0.toInt64, .long ((x1 - x0).toInt64), .long ((y1 - y0).toInt64), .long wd.toInt64]))] H := hP
  have hD : va_D A [(oa, .inl (cL, 1, .inr (.inl (vp_updL of (0 : Int32).toNatClampNeg ((gN_member_f x0 y0 x1 y1 wd).toInt64))))), (h0, .inr (0, [.ref ta, .ref ra, .int wet, .int less, .ref px, .ref py, .int pn, .ref qx, .ref qy, .int qn, .ref ml])), (ml, .inr (4, [.ref q_2, .int 1, .int (mo + 1)])), (q_2, .inl (cO, 10, .inr (.inr (.inr (.inr (va_up (fun _ => none) (0 : Int32).toNatClampNeg (some q_1))))))), (q_1, .inr (2, [.long x0.toInt64, .long y0.toInt64, .long ((x1 - x0).toInt64), .long ((y1 - y0).toInt64), .long wd.toInt64]))] := hD
  refine lv_goto (tgt := 27) hx hb dL_member_16 (by decide) ?_
  refine lv_iconst (v := 0) hx hb dL_member_27 (by decide) ?_
  have e_0 : gL_member_f x0 y0 x1 y1 wd of = (0 : Int32) := rfl
  have e_1 : gL_member_f_f x0 y0 x1 y1 wd of = (vp_updL of (0 : Int32).toNatClampNeg ((gN_member_f x0 y0 x1 y1 wd).toInt64)) := rfl
  have hP9 := hP.sub (ws' := [(h0, .inr (0, [.ref ta, .ref ra, .int wet, .int less, .ref px, .ref py, .int pn, .ref qx, .ref qy, .int qn, .ref ml])), (ml, .inr (4, [.ref q_2, .int 1, .int (mo + 1)])), (q_2, .inl (cO, 10, .inr (.inr (.inr (.inr (va_up (fun _ => none) (0 : Int32).toNatClampNeg (some q_1))))))), (q_1, .inr (2, [.long x0.toInt64, .long y0.toInt64, .long ((x1 - x0).toInt64), .long ((y1 - y0).toInt64), .long wd.toInt64])), (oa, .inl (cL, 1, .inr (.inl (vp_updL of (0 : Int32).toNatClampNeg ((gN_member_f x0 y0 x1 y1 wd).toInt64)))))]) [1, 2, 3, 4, 0] rfl
  have hD9 := hD.sub (ws' := [(h0, .inr (0, [.ref ta, .ref ra, .int wet, .int less, .ref px, .ref py, .int pn, .ref qx, .ref qy, .int qn, .ref ml])), (ml, .inr (4, [.ref q_2, .int 1, .int (mo + 1)])), (q_2, .inl (cO, 10, .inr (.inr (.inr (.inr (va_up (fun _ => none) (0 : Int32).toNatClampNeg (some q_1))))))), (q_1, .inr (2, [.long x0.toInt64, .long y0.toInt64, .long ((x1 - x0).toInt64), .long ((y1 - y0).toInt64), .long wd.toInt64])), (oa, .inl (cL, 1, .inr (.inl (vp_updL of (0 : Int32).toNatClampNeg ((gN_member_f x0 y0 x1 y1 wd).toInt64)))))]) [1, 2, 3, 4, 0] (by decide) rfl
  refine W.widen (k := 2) (n := 15) (by omega) (by omega) ?_
  exact W.iret (v := 0) hx hb hr (fun t ht hW => ⟨_, _, rfl, ⟨q_1, q_2, by rw [e_0]; try rfl, by rw [e_1]⟩, by rw [ht]; exact hP9, hD9, hS.F ht⟩) hS.2.2 dL_member_28

def gL_member_m (sn : Int32) (x0 : Int32) (y0 : Int32) (x1 : Int32) (y1 : Int32) (wd : Int32) (of : Nat → Int64) : Int32 := (0)
def gL_member_m_f (sn : Int32) (x0 : Int32) (y0 : Int32) (x1 : Int32) (y1 : Int32) (wd : Int32) (of : Nat → Int64) : Nat → Int64 := vp_updL of (0 : Int32).toNatClampNeg ((gN_member_m sn x0 y0 x1 y1 wd).toInt64)
set_option maxHeartbeats 4000000 in
set_option maxRecDepth 100000 in
theorem cL_member_m (l : Launch) {s0 : State} {dC : Nat → ClassId} {dI : Nat → Nat → Nat} {cI cC cL cO : ClassId} (E : xb_Env l s0 dC dI (xtys cI cC cL cO)) (sz : Nat) (h0 : Nat) (ml : Nat) (ed : Nat) (oa : Nat) (ta : Nat) (ra : Nat) (wet : Int32) (less : Int32) (px : Nat) (py : Nat) (pn : Int32) (qx : Nat) (qy : Nat) (qn : Int32) (sn : Int32) (mo : Int32) (ef : Nat → Option Nat) (of : Nat → Int64) (x0 : Int32) (y0 : Int32) (x1 : Int32) (y1 : Int32) (wd : Int32) (ua : ¬ x0.toInt64 < (-10000)) (ub : x0.toInt64 ≤ 10000) (wa : ¬ y0.toInt64 < (-10000)) (wb : y0.toInt64 ≤ 10000) (ga : ¬ x1.toInt64 < (-10000)) (gb : x1.toInt64 ≤ 10000) (qa : ¬ y1.toInt64 < (-10000)) (qb : y1.toInt64 ≤ 10000) (hne : ¬ (x0 = x1 ∧ y0 = y1)) (va : ¬ wd.toInt64 < 1) (vb : wd.toInt64 ≤ 10000) (hs6 : fA_size sn < 6) (hs : vp_in sn 10) : Met l yL_member [.codeWith yL_member bL_member 8 (some (.int)) [(0, 16, 19, 19), (0, 16, 23, 40)]] ({ frames := 3, cells := 1, slots := 5, locals := 69 }) (va_Pc [.ref h0, .int x0, .int y0, .int x1, .int y1, .int wd, .ref oa] (fun U => xb_At s0 U ∧ U.heap.size = sz ∧ va_P (dC, dI) classes [(h0, .inr (0, [.ref ta, .ref ra, .int wet, .int less, .ref px, .ref py, .int pn, .ref qx, .ref qy, .int qn, .ref ml])), (ml, .inr (4, [.ref ed, .int sn, .int mo])), (ed, .inl (cO, 10, .inr (.inr (.inr (.inr ef))))), (oa, .inl (cL, 1, .inr (.inl of)))] U.heap ∧ va_D (fun q => s0.heap.size ≤ q) [(h0, .inr (0, [.ref ta, .ref ra, .int wet, .int less, .ref px, .ref py, .int pn, .ref qx, .ref qy, .int qn, .ref ml])), (ml, .inr (4, [.ref ed, .int sn, .int mo])), (ed, .inl (cO, 10, .inr (.inr (.inr (.inr ef))))), (oa, .inl (cL, 1, .inr (.inl of)))])) (xb_W (dC, dI) (fun v9 w9 => ∃ q_1 : Nat, v9 = some (.int (gL_member_m sn x0 y0 x1 y1 wd of)) ∧ w9 = [(h0, .inr (0, [.ref ta, .ref ra, .int wet, .int less, .ref px, .ref py, .int pn, .ref qx, .ref qy, .int qn, .ref ml])), (ml, .inr (4, [.ref ed, .int (sn + 1), .int (mo + 1)])), (ed, .inl (cO, 10, .inr (.inr (.inr (.inr (va_up ef sn.toNatClampNeg (some q_1))))))), (q_1, .inr (2, [.long x0.toInt64, .long y0.toInt64, .long ((x1 - x0).toInt64), .long ((y1 - y0).toInt64), .long wd.toInt64])), (oa, .inl (cL, 1, .inr (.inl (gL_member_m_f sn x0 y0 x1 y1 wd of))))]) (va_A [(h0, .inr (0, [.ref ta, .ref ra, .int wet, .int less, .ref px, .ref py, .int pn, .ref qx, .ref qy, .int qn, .ref ml])), (ml, .inr (4, [.ref ed, .int sn, .int mo])), (ed, .inl (cO, 10, .inr (.inr (.inr (.inr ef))))), (oa, .inl (cL, 1, .inr (.inl of)))] sz)) 1 5 (va_A [(h0, .inr (0, [.ref ta, .ref ra, .int wet, .int less, .ref px, .ref py, .int pn, .ref qx, .ref qy, .int qn, .ref ml])), (ml, .inr (4, [.ref ed, .int sn, .int mo])), (ed, .inl (cO, 10, .inr (.inr (.inr (.inr ef))))), (oa, .inl (cL, 1, .inr (.inl of)))] sz) := by
  refine xw_ofW (cc := bL_member) (maxL := 8) (ret := (some (.int))) (hs := [(0, 16, 19, 19), (0, 16, 23, 40)]) (by decide) rfl ?_
  intro p e s m args below meth c s₁ B hml htab hv
  obtain ⟨rfl, hAt, hsz, hP, hD0⟩ := hv
  have hx := B.exec
  have hb := B.bytes
  have hr := B.returns
  have hts := xb_hts E hAt ([.ref h0, .int x0, .int y0, .int x1, .int y1, .int wd, .ref oa] : List Value).toArray
  have hown : s.vm.findClass "NailRulesLaw" = some m.cls := findClass_of_methodNamed B.named
  have hlocks := B.notSynchronized
  have hK := xb_K E hAt
  subst hsz
  have hA0 := xb_A0 hAt hD0
  have hD := hD0.self (sz := s.heap.size)
  generalize hAe : va_A [(h0, .inr (0, [.ref ta, .ref ra, .int wet, .int less, .ref px, .ref py, .int pn, .ref qx, .ref qy, .int qn, .ref ml])), (ml, .inr (4, [.ref ed, .int sn, .int mo])), (ed, .inl (cO, 10, .inr (.inr (.inr (.inr ef))))), (oa, .inl (cL, 1, .inr (.inl of)))] s.heap.size = A at hD hA0 ⊢
  have hA : ∀ q : Nat, s.heap.size ≤ q → A q := fun q h => by rw [← hAe]; exact Or.inr h
  have hS : va_S A s.heap s.heap [] := va_S.rf
  have hl := lv_entry ([.ref h0, .int x0, .int y0, .int x1, .int y1, .int wd, .ref oa]) (n := 8) (Nat.le_of_ble_eq_true rfl)
  rw [lg_entry_eq]
  generalize (lg_sl ([.ref h0, .int x0, .int y0, .int x1, .int y1, .int wd, .ref oa]) ++ List.replicate (8 - (lg_sl ([.ref h0, .int x0, .int y0, .int x1, .int y1, .int wd, .ref oa])).length) Slot.unset).toArray = ls at hl ⊢
  have hl : lv_has ls 8 [(0, .ref h0), (1, .int x0), (2, .int y0), (3, .int x1), (4, .int y1), (5, .int wd), (6, .ref oa)] := hl
  refine lv_aload hx hb dL_member_0 (lv_at hl 6 rfl) ?_
  refine lv_iconst (v := 0) hx hb dL_member_2 (by decide) ?_
  refine lv_aload_n hx hb dL_member_3 rfl (lv_at hl 0 rfl) ?_
  refine lv_iload_n hx hb dL_member_4 rfl (lv_at hl 1 rfl) ?_
  refine lv_iload_n hx hb dL_member_5 rfl (lv_at hl 2 rfl) ?_
  refine lv_iload_n hx hb dL_member_6 rfl (lv_at hl 3 rfl) ?_
  refine lv_iload hx hb dL_member_7 (lv_at hl 4 rfl) ?_
  refine lv_iload hx hb dL_member_9 (lv_at hl 5 rfl) ?_
  refine xb_wr (wr := [(oa, .inl (cL, 1, .inr (.inl of)))]) (va_runV (C := "NailRules") (As := [.int x0, .int y0, .int x1, .int y1, .int wd]) (rest := [.int 0, .ref oa]) ⟨hx, hb, hml, hown, hts⟩ (cN_member_m l E _ h0 ml ed ta ra wet less px py pn qx qy qn sn mo ef x0 y0 x1 y1 wd (ua) (ub) (wa) (wb) (ga) (gb) (qa) (qb) (hne) (va) (vb) (hs6) (hs)) (cwV 5 hts (xb_gi (List.forall_mem_cons.mpr ⟨xk_506, List.forall_mem_cons.mpr ⟨xk_507, List.forall_mem_cons.mpr ⟨xk_508, List.forall_mem_cons.mpr ⟨xk_40, List.forall_mem_cons.mpr ⟨xk_509, fun _ h => absurd h List.not_mem_nil⟩⟩⟩⟩⟩)) rfl rfl rfl (by decide +kernel) ⟨Nat.le_of_ble_eq_true rfl, Nat.le_of_ble_eq_true rfl⟩) ⟨fun _ _ _ _ q => q, va_recv hK hP (ci := 0) (q0 := 0) rfl rfl, fun U hU hW => ⟨rfl, xb_atS hAt hS hA0 hU hW, by rw [hU], by rw [hU]; exact hP.sub (ws' := [(h0, .inr (0, [.ref ta, .ref ra, .int wet, .int less, .ref px, .ref py, .int pn, .ref qx, .ref qy, .int qn, .ref ml])), (ml, .inr (4, [.ref ed, .int sn, .int mo])), (ed, .inl (cO, 10, .inr (.inr (.inr (.inr ef)))))]) [0, 1, 2] rfl, (hD.sub (ws' := [(h0, .inr (0, [.ref ta, .ref ra, .int wet, .int less, .ref px, .ref py, .int pn, .ref qx, .ref qy, .int qn, .ref ml])), (ml, .inr (4, [.ref ed, .int sn, .int mo])), (ed, .inl (cO, 10, .inr (.inr (.inr (.inr ef)))))]) [0, 1, 2] (by decide) rfl).weaken (fun _ q _ h => hA0 q.1 h)⟩⟩ rfl rfl hl.1 rfl (lv_room (Nat.le_of_ble_eq_true rfl)) dL_member_11 ⟨Nat.le_of_ble_eq_true rfl, Nat.le_of_ble_eq_true rfl⟩) hP hD hS hA [0, 1, 2] [3] rfl rfl (by decide) (by decide) ?_
  rintro _ _ H locs ⟨q_1, rfl, rfl⟩ hP hD hS
  have hP : va_P (dC, dI) classes [(oa, .inl (cL, 1, .inr (.inl of))), (h0, .inr (0, [.ref ta, .ref ra, .int wet, .int less, .ref px, .ref py, .int pn, .ref qx, .ref qy, .int qn, .ref ml])), (ml, .inr (4, [.ref ed, .int (sn + 1), .int (mo + 1)])), (ed, .inl (cO, 10, .inr (.inr (.inr (.inr (va_up ef sn.toNatClampNeg (some q_1))))))), (q_1, .inr (2, [.long x0.toInt64, .long y0.toInt64, .long ((x1 - x0).toInt64), .long ((y1 - y0).toInt64), .long wd.toInt64]))] H := hP
  have hD : va_D A [(oa, .inl (cL, 1, .inr (.inl of))), (h0, .inr (0, [.ref ta, .ref ra, .int wet, .int less, .ref px, .ref py, .int pn, .ref qx, .ref qy, .int qn, .ref ml])), (ml, .inr (4, [.ref ed, .int (sn + 1), .int (mo + 1)])), (ed, .inl (cO, 10, .inr (.inr (.inr (.inr (va_up ef sn.toNatClampNeg (some q_1))))))), (q_1, .inr (2, [.long x0.toInt64, .long y0.toInt64, .long ((x1 - x0).toInt64), .long ((y1 - y0).toInt64), .long wd.toInt64]))] := hD
  refine W.widen (k := 1) (n := 5) (by omega) (by omega) ?_
  refine lv_i2l hx hb dL_member_14 rfl ?_
  have o_1 : vp_in (0 : Int32) 1 := by unfold vp_in; decide
  refine va_last hx hb hK hP hD hS 0 2 rfl rfl o_1 dL_member_15 (fun H locs hP hD hS => ?_)
  have hP : va_P (dC, dI) classes [(oa, .inl (cL, 1, .inr (.inl (vp_updL of (0 : Int32).toNatClampNeg ((gN_member_m sn x0 y0 x1 y1 wd).toInt64))))), (h0, .inr (0, [.ref ta, .ref ra, .int wet, .int less, .ref px, .ref py, .int pn, .ref qx, .ref qy, .int qn, .ref ml])), (ml, .inr (4, [.ref ed, .int (sn + 1), .int (mo + 1)])), (ed, .inl (cO, 10, .inr (.inr (.inr (.inr (va_up ef sn.toNatClampNeg (some q_1))))))), (q_1, .inr (2, [.long x0.toInt64, .long y0.toInt64, .long ((x1 - x0).toInt64), .long ((y1 - y0).toInt64), .long wd.toInt64]))] H := hP
  have hD : va_D A [(oa, .inl (cL, 1, .inr (.inl (vp_updL of (0 : Int32).toNatClampNeg ((gN_member_m sn x0 y0 x1 y1 wd).toInt64))))), (h0, .inr (0, [.ref ta, .ref ra, .int wet, .int less, .ref px, .ref py, .int pn, .ref qx, .ref qy, .int qn, .ref ml])), (ml, .inr (4, [.ref ed, .int (sn + 1), .int (mo + 1)])), (ed, .inl (cO, 10, .inr (.inr (.inr (.inr (va_up ef sn.toNatClampNeg (some q_1))))))), (q_1, .inr (2, [.long x0.toInt64, .long y0.toInt64, .long ((x1 - x0).toInt64), .long ((y1 - y0).toInt64), .long wd.toInt64]))] := hD
  refine lv_goto (tgt := 27) hx hb dL_member_16 (by decide) ?_
  refine lv_iconst (v := 0) hx hb dL_member_27 (by decide) ?_
  have e_0 : gL_member_m sn x0 y0 x1 y1 wd of = (0 : Int32) := rfl
  have e_1 : gL_member_m_f sn x0 y0 x1 y1 wd of = (vp_updL of (0 : Int32).toNatClampNeg ((gN_member_m sn x0 y0 x1 y1 wd).toInt64)) := rfl
  have hP9 := hP.sub (ws' := [(h0, .inr (0, [.ref ta, .ref ra, .int wet, .int less, .ref px, .ref py, .int pn, .ref qx, .ref qy, .int qn, .ref ml])), (ml, .inr (4, [.ref ed, .int (sn + 1), .int (mo + 1)])), (ed, .inl (cO, 10, .inr (.inr (.inr (.inr (va_up ef sn.toNatClampNeg (some q_1))))))), (q_1, .inr (2, [.long x0.toInt64, .long y0.toInt64, .long ((x1 - x0).toInt64), .long ((y1 - y0).toInt64), .long wd.toInt64])), (oa, .inl (cL, 1, .inr (.inl (vp_updL of (0 : Int32).toNatClampNeg ((gN_member_m sn x0 y0 x1 y1 wd).toInt64)))))]) [1, 2, 3, 4, 0] rfl
  have hD9 := hD.sub (ws' := [(h0, .inr (0, [.ref ta, .ref ra, .int wet, .int less, .ref px, .ref py, .int pn, .ref qx, .ref qy, .int qn, .ref ml])), (ml, .inr (4, [.ref ed, .int (sn + 1), .int (mo + 1)])), (ed, .inl (cO, 10, .inr (.inr (.inr (.inr (va_up ef sn.toNatClampNeg (some q_1))))))), (q_1, .inr (2, [.long x0.toInt64, .long y0.toInt64, .long ((x1 - x0).toInt64), .long ((y1 - y0).toInt64), .long wd.toInt64])), (oa, .inl (cL, 1, .inr (.inl (vp_updL of (0 : Int32).toNatClampNeg ((gN_member_m sn x0 y0 x1 y1 wd).toInt64)))))]) [1, 2, 3, 4, 0] (by decide) rfl
  refine W.widen (k := 1) (n := 5) (by omega) (by omega) ?_
  exact W.iret (v := 0) hx hb hr (fun t ht hW => ⟨_, _, rfl, ⟨q_1, by rw [e_0]; try rfl, by rw [e_1]⟩, by rw [ht]; exact hP9, hD9, hS.F ht⟩) hS.2.2 dL_member_28

def gL_in_b (sn : Int32) (mi : Int32) (x : Int32) (y : Int32) (of : Nat → Int64) : Int32 := if mi < 0 ∨ ¬ mi < fA_size sn then ((1)) else (if x.toInt64 < (-10000) ∨ ¬ x.toInt64 ≤ 10000 then ((2)) else ((2)))
def gL_in_b_f (sn : Int32) (mi : Int32) (x : Int32) (y : Int32) (of : Nat → Int64) : Nat → Int64 := if mi < 0 ∨ ¬ mi < fA_size sn then (of) else (if x.toInt64 < (-10000) ∨ ¬ x.toInt64 ≤ 10000 then (of) else (of))
set_option maxHeartbeats 4000000 in
set_option maxRecDepth 100000 in
theorem cL_in_b (l : Launch) {s0 : State} {dC : Nat → ClassId} {dI : Nat → Nat → Nat} {cI cC cL cO : ClassId} (E : xb_Env l s0 dC dI (xtys cI cC cL cO)) (sz : Nat) (h0 : Nat) (ml : Nat) (oa : Nat) (ta : Nat) (ra : Nat) (wet : Int32) (less : Int32) (px : Nat) (py : Nat) (pn : Int32) (qx : Nat) (qy : Nat) (qn : Int32) (ed : Nat) (sn : Int32) (mo : Int32) (of : Nat → Int64) (mi : Int32) (x : Int32) (y : Int32) (hbad : (mi < 0 ∨ ¬ mi < fA_size sn) ∨ (x.toInt64 < (-10000) ∨ ¬ x.toInt64 ≤ 10000) ∨ (y.toInt64 < (-10000) ∨ ¬ y.toInt64 ≤ 10000)) : Met l yL_in [.codeWith yL_in bL_in 6 (some (.int)) [(0, 19, 22, 13), (0, 19, 26, 19)]] ({ frames := 8, cells := 1, slots := 6, locals := 130 }) (va_Pc [.ref h0, .int mi, .int x, .int y, .ref oa] (fun U => xb_At s0 U ∧ U.heap.size = sz ∧ va_P (dC, dI) classes [(h0, .inr (0, [.ref ta, .ref ra, .int wet, .int less, .ref px, .ref py, .int pn, .ref qx, .ref qy, .int qn, .ref ml])), (ml, .inr (4, [.ref ed, .int sn, .int mo])), (oa, .inl (cL, 1, .inr (.inl of)))] U.heap ∧ va_D (fun q => s0.heap.size ≤ q) [(h0, .inr (0, [.ref ta, .ref ra, .int wet, .int less, .ref px, .ref py, .int pn, .ref qx, .ref qy, .int qn, .ref ml])), (ml, .inr (4, [.ref ed, .int sn, .int mo])), (oa, .inl (cL, 1, .inr (.inl of)))])) (xb_W (dC, dI) (fun v9 w9 => v9 = some (.int (gL_in_b sn mi x y of)) ∧ w9 = [(h0, .inr (0, [.ref ta, .ref ra, .int wet, .int less, .ref px, .ref py, .int pn, .ref qx, .ref qy, .int qn, .ref ml])), (ml, .inr (4, [.ref ed, .int sn, .int mo])), (oa, .inl (cL, 1, .inr (.inl (gL_in_b_f sn mi x y of))))]) (va_A [(h0, .inr (0, [.ref ta, .ref ra, .int wet, .int less, .ref px, .ref py, .int pn, .ref qx, .ref qy, .int qn, .ref ml])), (ml, .inr (4, [.ref ed, .int sn, .int mo])), (oa, .inl (cL, 1, .inr (.inl of)))] sz)) 1 6 (va_A [(h0, .inr (0, [.ref ta, .ref ra, .int wet, .int less, .ref px, .ref py, .int pn, .ref qx, .ref qy, .int qn, .ref ml])), (ml, .inr (4, [.ref ed, .int sn, .int mo])), (oa, .inl (cL, 1, .inr (.inl of)))] sz) := by
  refine xw_ofW (cc := bL_in) (maxL := 6) (ret := (some (.int))) (hs := [(0, 19, 22, 13), (0, 19, 26, 19)]) (by decide) rfl ?_
  intro p e s m args below meth c s₁ B hml htab hv
  obtain ⟨rfl, hAt, hsz, hP, hD0⟩ := hv
  have hx := B.exec
  have hb := B.bytes
  have hr := B.returns
  have hts := xb_hts E hAt ([.ref h0, .int mi, .int x, .int y, .ref oa] : List Value).toArray
  have hown : s.vm.findClass "NailRulesLaw" = some m.cls := findClass_of_methodNamed B.named
  have hlocks := B.notSynchronized
  have hK := xb_K E hAt
  subst hsz
  have hA0 := xb_A0 hAt hD0
  have hD := hD0.self (sz := s.heap.size)
  generalize hAe : va_A [(h0, .inr (0, [.ref ta, .ref ra, .int wet, .int less, .ref px, .ref py, .int pn, .ref qx, .ref qy, .int qn, .ref ml])), (ml, .inr (4, [.ref ed, .int sn, .int mo])), (oa, .inl (cL, 1, .inr (.inl of)))] s.heap.size = A at hD hA0 ⊢
  have hA : ∀ q : Nat, s.heap.size ≤ q → A q := fun q h => by rw [← hAe]; exact Or.inr h
  have hS : va_S A s.heap s.heap [] := va_S.rf
  have hl := lv_entry ([.ref h0, .int mi, .int x, .int y, .ref oa]) (n := 6) (Nat.le_of_ble_eq_true rfl)
  rw [lg_entry_eq]
  generalize (lg_sl ([.ref h0, .int mi, .int x, .int y, .ref oa]) ++ List.replicate (6 - (lg_sl ([.ref h0, .int mi, .int x, .int y, .ref oa])).length) Slot.unset).toArray = ls at hl ⊢
  have hl : lv_has ls 6 [(0, .ref h0), (1, .int mi), (2, .int x), (3, .int y), (4, .ref oa)] := hl
  refine lv_aload hx hb dL_in_0 (lv_at hl 4 rfl) ?_
  refine lv_iconst (v := 0) hx hb dL_in_2 (by decide) ?_
  refine lv_aload_n hx hb dL_in_3 rfl (lv_at hl 0 rfl) ?_
  refine lv_iload_n hx hb dL_in_4 rfl (lv_at hl 1 rfl) ?_
  refine lv_iload_n hx hb dL_in_5 rfl (lv_at hl 2 rfl) ?_
  refine lv_iload_n hx hb dL_in_6 rfl (lv_at hl 3 rfl) ?_
  by_cases c_1 : mi < 0 ∨ ¬ mi < fA_size sn
  · refine xw_c1 (xt_runV (Cr := "NailRules") (As := [.int mi, .int x, .int y]) (rest := [.int 0, .ref oa]) ⟨hx, hb, hml, hown, hts⟩ (cN_in_x1 l E h0 ([.ref ta, .ref ra, .int wet, .int less, .ref px, .ref py, .int pn, .ref qx, .ref qy, .int qn, .ref ml]) ml ([.ref ed, .int sn, .int mo]) sn mi x y rfl rfl (c_1)) (cwV 3 hts (xb_gi (List.forall_mem_cons.mpr ⟨xk_594, List.forall_mem_cons.mpr ⟨xk_595, List.forall_mem_cons.mpr ⟨xk_596, List.forall_mem_cons.mpr ⟨xk_40, List.forall_mem_cons.mpr ⟨xk_597, fun _ h => absurd h List.not_mem_nil⟩⟩⟩⟩⟩)) rfl rfl rfl (by decide +kernel) ⟨Nat.le_of_ble_eq_true rfl, Nat.le_of_ble_eq_true rfl⟩) ⟨fun _ _ _ _ q => q, va_recv hK hP (ci := 0) (q0 := 0) rfl rfl, fun U hU hW => ⟨rfl, xb_atS hAt hS hA0 hU hW, by rw [hU]; exact hP.sub (ws' := [(h0, .inr (0, [.ref ta, .ref ra, .int wet, .int less, .ref px, .ref py, .int pn, .ref qx, .ref qy, .int qn, .ref ml])), (ml, .inr (4, [.ref ed, .int sn, .int mo]))]) [0, 1] rfl⟩⟩ rfl rfl hl.1 rfl (lv_room (Nat.le_of_ble_eq_true rfl)) dL_in_7 ⟨Nat.le_of_ble_eq_true rfl, Nat.le_of_ble_eq_true rfl⟩) hown htab rfl (by decide) (hts _ xk_283) (va_Nw.use rfl (xa_cst E hAt xk_293)) (fun q9 H hz9 hk9 => ?_)
    have hP := xw_P hP hk9
    have hS := xw_S hS hz9 hk9
    refine W.widen (k := 1) (n := 6) (by omega) (by omega) ?_
    refine lv_astore (lv' := [(5, .ref q9), (0, .ref h0), (1, .int mi), (2, .int x), (3, .int y), (4, .ref oa)]) hx hb dL_in_22 hl (by decide) rfl (fun ls hl => ?_)
    refine lv_iconst (v := 1) hx hb dL_in_24 (by decide) ?_
    have e_0 : gL_in_b sn mi x y of = (1 : Int32) := (if_pos c_1).trans (rfl)
    have e_1 : gL_in_b_f sn mi x y of = of := (if_pos c_1).trans (rfl)
    have hP9 := hP.sub (ws' := [(h0, .inr (0, [.ref ta, .ref ra, .int wet, .int less, .ref px, .ref py, .int pn, .ref qx, .ref qy, .int qn, .ref ml])), (ml, .inr (4, [.ref ed, .int sn, .int mo])), (oa, .inl (cL, 1, .inr (.inl of)))]) [0, 1, 2] rfl
    have hD9 := hD.sub (ws' := [(h0, .inr (0, [.ref ta, .ref ra, .int wet, .int less, .ref px, .ref py, .int pn, .ref qx, .ref qy, .int qn, .ref ml])), (ml, .inr (4, [.ref ed, .int sn, .int mo])), (oa, .inl (cL, 1, .inr (.inl of)))]) [0, 1, 2] (by decide) rfl
    refine W.widen (k := 1) (n := 6) (by omega) (by omega) ?_
    exact W.iret (v := 1) hx hb hr (fun t ht hW => ⟨_, _, rfl, ⟨by rw [e_0]; try rfl, by rw [e_1]⟩, by rw [ht]; exact hP9, hD9, hS.F ht⟩) hS.2.2 dL_in_25
  by_cases c_2 : x.toInt64 < (-10000) ∨ ¬ x.toInt64 ≤ 10000
  · obtain ⟨c9, hc9, hno9⟩ := xc_nc_IA_IO E hAt
    refine xw_c2 (xt_runV (Cr := "NailRules") (As := [.int mi, .int x, .int y]) (rest := [.int 0, .ref oa]) ⟨hx, hb, hml, hown, hts⟩ (cN_in_x2 l E h0 ([.ref ta, .ref ra, .int wet, .int less, .ref px, .ref py, .int pn, .ref qx, .ref qy, .int qn, .ref ml]) ml ([.ref ed, .int sn, .int mo]) sn mi x y rfl rfl (xh_1 c_1) (xh_2 c_1) (c_2)) (cwV 3 hts (xb_gi (List.forall_mem_cons.mpr ⟨xk_594, List.forall_mem_cons.mpr ⟨xk_595, List.forall_mem_cons.mpr ⟨xk_596, List.forall_mem_cons.mpr ⟨xk_40, List.forall_mem_cons.mpr ⟨xk_597, fun _ h => absurd h List.not_mem_nil⟩⟩⟩⟩⟩)) rfl rfl rfl (by decide +kernel) ⟨Nat.le_of_ble_eq_true rfl, Nat.le_of_ble_eq_true rfl⟩) ⟨fun _ _ _ _ q => q, va_recv hK hP (ci := 0) (q0 := 0) rfl rfl, fun U hU hW => ⟨rfl, xb_atS hAt hS hA0 hU hW, by rw [hU]; exact hP.sub (ws' := [(h0, .inr (0, [.ref ta, .ref ra, .int wet, .int less, .ref px, .ref py, .int pn, .ref qx, .ref qy, .int qn, .ref ml])), (ml, .inr (4, [.ref ed, .int sn, .int mo]))]) [0, 1] rfl⟩⟩ rfl rfl hl.1 rfl (lv_room (Nat.le_of_ble_eq_true rfl)) dL_in_7 ⟨Nat.le_of_ble_eq_true rfl, Nat.le_of_ble_eq_true rfl⟩) hown htab rfl (by decide) rfl (by decide) (hts _ xk_283) (hts _ xk_365) hc9 hno9 (va_Nw.use rfl (xa_cst E hAt xk_376)) (fun q9 H hz9 hk9 => ?_)
    have hP := xw_P hP hk9
    have hS := xw_S hS hz9 hk9
    refine W.widen (k := 1) (n := 6) (by omega) (by omega) ?_
    refine lv_astore (lv' := [(5, .ref q9), (0, .ref h0), (1, .int mi), (2, .int x), (3, .int y), (4, .ref oa)]) hx hb dL_in_26 hl (by decide) rfl (fun ls hl => ?_)
    refine lv_iconst (v := 2) hx hb dL_in_28 (by decide) ?_
    have e_0 : gL_in_b sn mi x y of = (2 : Int32) := (if_neg c_1).trans ((if_pos c_2).trans (rfl))
    have e_1 : gL_in_b_f sn mi x y of = of := (if_neg c_1).trans ((if_pos c_2).trans (rfl))
    have hP9 := hP.sub (ws' := [(h0, .inr (0, [.ref ta, .ref ra, .int wet, .int less, .ref px, .ref py, .int pn, .ref qx, .ref qy, .int qn, .ref ml])), (ml, .inr (4, [.ref ed, .int sn, .int mo])), (oa, .inl (cL, 1, .inr (.inl of)))]) [0, 1, 2] rfl
    have hD9 := hD.sub (ws' := [(h0, .inr (0, [.ref ta, .ref ra, .int wet, .int less, .ref px, .ref py, .int pn, .ref qx, .ref qy, .int qn, .ref ml])), (ml, .inr (4, [.ref ed, .int sn, .int mo])), (oa, .inl (cL, 1, .inr (.inl of)))]) [0, 1, 2] (by decide) rfl
    refine W.widen (k := 1) (n := 6) (by omega) (by omega) ?_
    exact W.iret (v := 2) hx hb hr (fun t ht hW => ⟨_, _, rfl, ⟨by rw [e_0]; try rfl, by rw [e_1]⟩, by rw [ht]; exact hP9, hD9, hS.F ht⟩) hS.2.2 dL_in_29
  by_cases c_3 : y.toInt64 < (-10000) ∨ ¬ y.toInt64 ≤ 10000
  · obtain ⟨c9, hc9, hno9⟩ := xc_nc_IA_IO E hAt
    refine xw_c2 (xt_runV (Cr := "NailRules") (As := [.int mi, .int x, .int y]) (rest := [.int 0, .ref oa]) ⟨hx, hb, hml, hown, hts⟩ (cN_in_x3 l E h0 ([.ref ta, .ref ra, .int wet, .int less, .ref px, .ref py, .int pn, .ref qx, .ref qy, .int qn, .ref ml]) ml ([.ref ed, .int sn, .int mo]) sn mi x y rfl rfl (xh_1 c_1) (xh_2 c_1) (xh_1 c_2) (xh_2 c_2) (c_3)) (cwV 3 hts (xb_gi (List.forall_mem_cons.mpr ⟨xk_594, List.forall_mem_cons.mpr ⟨xk_595, List.forall_mem_cons.mpr ⟨xk_596, List.forall_mem_cons.mpr ⟨xk_40, List.forall_mem_cons.mpr ⟨xk_597, fun _ h => absurd h List.not_mem_nil⟩⟩⟩⟩⟩)) rfl rfl rfl (by decide +kernel) ⟨Nat.le_of_ble_eq_true rfl, Nat.le_of_ble_eq_true rfl⟩) ⟨fun _ _ _ _ q => q, va_recv hK hP (ci := 0) (q0 := 0) rfl rfl, fun U hU hW => ⟨rfl, xb_atS hAt hS hA0 hU hW, by rw [hU]; exact hP.sub (ws' := [(h0, .inr (0, [.ref ta, .ref ra, .int wet, .int less, .ref px, .ref py, .int pn, .ref qx, .ref qy, .int qn, .ref ml])), (ml, .inr (4, [.ref ed, .int sn, .int mo]))]) [0, 1] rfl⟩⟩ rfl rfl hl.1 rfl (lv_room (Nat.le_of_ble_eq_true rfl)) dL_in_7 ⟨Nat.le_of_ble_eq_true rfl, Nat.le_of_ble_eq_true rfl⟩) hown htab rfl (by decide) rfl (by decide) (hts _ xk_283) (hts _ xk_365) hc9 hno9 (va_Nw.use rfl (xa_cst E hAt xk_376)) (fun q9 H hz9 hk9 => ?_)
    have hP := xw_P hP hk9
    have hS := xw_S hS hz9 hk9
    refine W.widen (k := 1) (n := 6) (by omega) (by omega) ?_
    refine lv_astore (lv' := [(5, .ref q9), (0, .ref h0), (1, .int mi), (2, .int x), (3, .int y), (4, .ref oa)]) hx hb dL_in_26 hl (by decide) rfl (fun ls hl => ?_)
    refine lv_iconst (v := 2) hx hb dL_in_28 (by decide) ?_
    have e_0 : gL_in_b sn mi x y of = (2 : Int32) := (if_neg c_1).trans ((if_neg c_2).trans (rfl))
    have e_1 : gL_in_b_f sn mi x y of = of := (if_neg c_1).trans ((if_neg c_2).trans (rfl))
    have hP9 := hP.sub (ws' := [(h0, .inr (0, [.ref ta, .ref ra, .int wet, .int less, .ref px, .ref py, .int pn, .ref qx, .ref qy, .int qn, .ref ml])), (ml, .inr (4, [.ref ed, .int sn, .int mo])), (oa, .inl (cL, 1, .inr (.inl of)))]) [0, 1, 2] rfl
    have hD9 := hD.sub (ws' := [(h0, .inr (0, [.ref ta, .ref ra, .int wet, .int less, .ref px, .ref py, .int pn, .ref qx, .ref qy, .int qn, .ref ml])), (ml, .inr (4, [.ref ed, .int sn, .int mo])), (oa, .inl (cL, 1, .inr (.inl of)))]) [0, 1, 2] (by decide) rfl
    refine W.widen (k := 1) (n := 6) (by omega) (by omega) ?_
    exact W.iret (v := 2) hx hb hr (fun t ht hW => ⟨_, _, rfl, ⟨by rw [e_0]; try rfl, by rw [e_1]⟩, by rw [ht]; exact hP9, hD9, hS.F ht⟩) hS.2.2 dL_in_29
  exact absurd hbad (by rintro (h9 | h9 | h9) <;> contradiction)

def gL_in_g (m0 : Int64) (m1 : Int64) (m2 : Int64) (m3 : Int64) (m4 : Int64) (x : Int32) (y : Int32) (of : Nat → Int64) : Int32 := if (fN_in m0 m1 m2 m3 m4 x y) = true then ((0)) else ((0))
def gL_in_g_f (m0 : Int64) (m1 : Int64) (m2 : Int64) (m3 : Int64) (m4 : Int64) (x : Int32) (y : Int32) (of : Nat → Int64) : Nat → Int64 := if (fN_in m0 m1 m2 m3 m4 x y) = true then (vp_updL of (0 : Int32).toNatClampNeg 1) else (vp_updL of (0 : Int32).toNatClampNeg 0)
set_option maxHeartbeats 4000000 in
set_option maxRecDepth 100000 in
theorem cL_in_g (l : Launch) {s0 : State} {dC : Nat → ClassId} {dI : Nat → Nat → Nat} {cI cC cL cO : ClassId} (E : xb_Env l s0 dC dI (xtys cI cC cL cO)) (sz : Nat) (h0 : Nat) (ml : Nat) (ed : Nat) (qm : Nat) (oa : Nat) (ta : Nat) (ra : Nat) (wet : Int32) (less : Int32) (px : Nat) (py : Nat) (pn : Int32) (qx : Nat) (qy : Nat) (qn : Int32) (sn : Int32) (mo : Int32) (ef : Nat → Option Nat) (m0 : Int64) (m1 : Int64) (m2 : Int64) (m3 : Int64) (m4 : Int64) (of : Nat → Int64) (mi : Int32) (x : Int32) (y : Int32) (ka : ¬ mi < 0) (kb : mi < fA_size sn) (ua : ¬ x.toInt64 < (-10000)) (ub : x.toInt64 ≤ 10000) (wa : ¬ y.toInt64 < (-10000)) (wb : y.toInt64 ≤ 10000) (hi : vp_in mi 10) (hq : ef mi.toNatClampNeg = some qm) : Met l yL_in [.codeWith yL_in bL_in 6 (some (.int)) [(0, 19, 22, 13), (0, 19, 26, 19)]] ({ frames := 4, cells := 0, slots := 0, locals := 87 }) (va_Pc [.ref h0, .int mi, .int x, .int y, .ref oa] (fun U => xb_At s0 U ∧ U.heap.size = sz ∧ va_P (dC, dI) classes [(h0, .inr (0, [.ref ta, .ref ra, .int wet, .int less, .ref px, .ref py, .int pn, .ref qx, .ref qy, .int qn, .ref ml])), (ml, .inr (4, [.ref ed, .int sn, .int mo])), (ed, .inl (cO, 10, .inr (.inr (.inr (.inr ef))))), (qm, .inr (2, [.long m0, .long m1, .long m2, .long m3, .long m4])), (oa, .inl (cL, 1, .inr (.inl of)))] U.heap ∧ va_D (fun q => s0.heap.size ≤ q) [(h0, .inr (0, [.ref ta, .ref ra, .int wet, .int less, .ref px, .ref py, .int pn, .ref qx, .ref qy, .int qn, .ref ml])), (ml, .inr (4, [.ref ed, .int sn, .int mo])), (ed, .inl (cO, 10, .inr (.inr (.inr (.inr ef))))), (qm, .inr (2, [.long m0, .long m1, .long m2, .long m3, .long m4])), (oa, .inl (cL, 1, .inr (.inl of)))])) (xb_W (dC, dI) (fun v9 w9 => v9 = some (.int (gL_in_g m0 m1 m2 m3 m4 x y of)) ∧ w9 = [(h0, .inr (0, [.ref ta, .ref ra, .int wet, .int less, .ref px, .ref py, .int pn, .ref qx, .ref qy, .int qn, .ref ml])), (ml, .inr (4, [.ref ed, .int sn, .int mo])), (ed, .inl (cO, 10, .inr (.inr (.inr (.inr ef))))), (qm, .inr (2, [.long m0, .long m1, .long m2, .long m3, .long m4])), (oa, .inl (cL, 1, .inr (.inl (gL_in_g_f m0 m1 m2 m3 m4 x y of))))]) (va_A [(h0, .inr (0, [.ref ta, .ref ra, .int wet, .int less, .ref px, .ref py, .int pn, .ref qx, .ref qy, .int qn, .ref ml])), (ml, .inr (4, [.ref ed, .int sn, .int mo])), (ed, .inl (cO, 10, .inr (.inr (.inr (.inr ef))))), (qm, .inr (2, [.long m0, .long m1, .long m2, .long m3, .long m4])), (oa, .inl (cL, 1, .inr (.inl of)))] sz)) 0 0 (va_A [(h0, .inr (0, [.ref ta, .ref ra, .int wet, .int less, .ref px, .ref py, .int pn, .ref qx, .ref qy, .int qn, .ref ml])), (ml, .inr (4, [.ref ed, .int sn, .int mo])), (ed, .inl (cO, 10, .inr (.inr (.inr (.inr ef))))), (qm, .inr (2, [.long m0, .long m1, .long m2, .long m3, .long m4])), (oa, .inl (cL, 1, .inr (.inl of)))] sz) := by
  refine xw_ofW (cc := bL_in) (maxL := 6) (ret := (some (.int))) (hs := [(0, 19, 22, 13), (0, 19, 26, 19)]) (by decide) rfl ?_
  intro p e s m args below meth c s₁ B hml htab hv
  obtain ⟨rfl, hAt, hsz, hP, hD0⟩ := hv
  have hx := B.exec
  have hb := B.bytes
  have hr := B.returns
  have hts := xb_hts E hAt ([.ref h0, .int mi, .int x, .int y, .ref oa] : List Value).toArray
  have hown : s.vm.findClass "NailRulesLaw" = some m.cls := findClass_of_methodNamed B.named
  have hlocks := B.notSynchronized
  have hK := xb_K E hAt
  subst hsz
  have hA0 := xb_A0 hAt hD0
  have hD := hD0.self (sz := s.heap.size)
  generalize hAe : va_A [(h0, .inr (0, [.ref ta, .ref ra, .int wet, .int less, .ref px, .ref py, .int pn, .ref qx, .ref qy, .int qn, .ref ml])), (ml, .inr (4, [.ref ed, .int sn, .int mo])), (ed, .inl (cO, 10, .inr (.inr (.inr (.inr ef))))), (qm, .inr (2, [.long m0, .long m1, .long m2, .long m3, .long m4])), (oa, .inl (cL, 1, .inr (.inl of)))] s.heap.size = A at hD hA0 ⊢
  have hA : ∀ q : Nat, s.heap.size ≤ q → A q := fun q h => by rw [← hAe]; exact Or.inr h
  have hS : va_S A s.heap s.heap [] := va_S.rf
  have hl := lv_entry ([.ref h0, .int mi, .int x, .int y, .ref oa]) (n := 6) (Nat.le_of_ble_eq_true rfl)
  rw [lg_entry_eq]
  generalize (lg_sl ([.ref h0, .int mi, .int x, .int y, .ref oa]) ++ List.replicate (6 - (lg_sl ([.ref h0, .int mi, .int x, .int y, .ref oa])).length) Slot.unset).toArray = ls at hl ⊢
  have hl : lv_has ls 6 [(0, .ref h0), (1, .int mi), (2, .int x), (3, .int y), (4, .ref oa)] := hl
  refine lv_aload hx hb dL_in_0 (lv_at hl 4 rfl) ?_
  refine lv_iconst (v := 0) hx hb dL_in_2 (by decide) ?_
  refine lv_aload_n hx hb dL_in_3 rfl (lv_at hl 0 rfl) ?_
  refine lv_iload_n hx hb dL_in_4 rfl (lv_at hl 1 rfl) ?_
  refine lv_iload_n hx hb dL_in_5 rfl (lv_at hl 2 rfl) ?_
  refine lv_iload_n hx hb dL_in_6 rfl (lv_at hl 3 rfl) ?_
  refine xb_rd (W.runV (C := "NailRules") (As := [.int mi, .int x, .int y]) (rest := [.int 0, .ref oa]) ⟨hx, hb, hml, hown, hts⟩ (cN_in l E h0 ([.ref ta, .ref ra, .int wet, .int less, .ref px, .ref py, .int pn, .ref qx, .ref qy, .int qn, .ref ml]) ml ([.ref ed, .int sn, .int mo]) ed ef qm ([.long m0, .long m1, .long m2, .long m3, .long m4]) sn m0 m1 m2 m3 m4 mi x y rfl rfl rfl rfl rfl rfl rfl rfl (ka) (kb) (ua) (ub) (wa) (wb) (hi) (hq)) (cwV 3 hts (xb_gi (List.forall_mem_cons.mpr ⟨xk_594, List.forall_mem_cons.mpr ⟨xk_595, List.forall_mem_cons.mpr ⟨xk_596, List.forall_mem_cons.mpr ⟨xk_40, List.forall_mem_cons.mpr ⟨xk_597, fun _ h => absurd h List.not_mem_nil⟩⟩⟩⟩⟩)) rfl rfl rfl (by decide +kernel) ⟨Nat.le_of_ble_eq_true rfl, Nat.le_of_ble_eq_true rfl⟩) ⟨fun _ _ _ _ q => q, va_recv hK hP (ci := 0) (q0 := 0) rfl rfl, fun U hU hW => ⟨rfl, xb_atS hAt hS hA0 hU hW, by rw [hU]; exact hP.sub (ws' := [(h0, .inr (0, [.ref ta, .ref ra, .int wet, .int less, .ref px, .ref py, .int pn, .ref qx, .ref qy, .int qn, .ref ml])), (ml, .inr (4, [.ref ed, .int sn, .int mo])), (ed, .inl (cO, 10, .inr (.inr (.inr (.inr ef))))), (qm, .inr (2, [.long m0, .long m1, .long m2, .long m3, .long m4]))]) [0, 1, 2, 3] rfl⟩⟩ rfl rfl hl.1 rfl (lv_room (Nat.le_of_ble_eq_true rfl)) dL_in_7 ⟨Nat.zero_le _, Nat.zero_le _⟩) ?_
  refine lv_if_eq (tgt := 17) hx hb dL_in_10 (by decide) (fun c_1 => ?_) (fun c_1 => ?_)
  · have c_1 := xb_bi_f.mp c_1
    refine lv_lconst (v := 0) hx hb dL_in_17 (by decide) ?_
    have o_2 : vp_in (0 : Int32) 1 := by unfold vp_in; decide
    refine va_last hx hb hK hP hD hS 4 2 rfl rfl o_2 dL_in_18 (fun H locs hP hD hS => ?_)
    have hP : va_P (dC, dI) classes [(h0, .inr (0, [.ref ta, .ref ra, .int wet, .int less, .ref px, .ref py, .int pn, .ref qx, .ref qy, .int qn, .ref ml])), (ml, .inr (4, [.ref ed, .int sn, .int mo])), (ed, .inl (cO, 10, .inr (.inr (.inr (.inr ef))))), (qm, .inr (2, [.long m0, .long m1, .long m2, .long m3, .long m4])), (oa, .inl (cL, 1, .inr (.inl (vp_updL of (0 : Int32).toNatClampNeg 0))))] H := hP
    have hD : va_D A [(h0, .inr (0, [.ref ta, .ref ra, .int wet, .int less, .ref px, .ref py, .int pn, .ref qx, .ref qy, .int qn, .ref ml])), (ml, .inr (4, [.ref ed, .int sn, .int mo])), (ed, .inl (cO, 10, .inr (.inr (.inr (.inr ef))))), (qm, .inr (2, [.long m0, .long m1, .long m2, .long m3, .long m4])), (oa, .inl (cL, 1, .inr (.inl (vp_updL of (0 : Int32).toNatClampNeg 0))))] := hD
    refine lv_goto (tgt := 30) hx hb dL_in_19 (by decide) ?_
    refine lv_iconst (v := 0) hx hb dL_in_30 (by decide) ?_
    have e_0 : gL_in_g m0 m1 m2 m3 m4 x y of = (0 : Int32) := (if_neg c_1).trans (rfl)
    have e_1 : gL_in_g_f m0 m1 m2 m3 m4 x y of = (vp_updL of (0 : Int32).toNatClampNeg 0) := (if_neg c_1).trans (rfl)
    have hP9 := hP.sub (ws' := [(h0, .inr (0, [.ref ta, .ref ra, .int wet, .int less, .ref px, .ref py, .int pn, .ref qx, .ref qy, .int qn, .ref ml])), (ml, .inr (4, [.ref ed, .int sn, .int mo])), (ed, .inl (cO, 10, .inr (.inr (.inr (.inr ef))))), (qm, .inr (2, [.long m0, .long m1, .long m2, .long m3, .long m4])), (oa, .inl (cL, 1, .inr (.inl (vp_updL of (0 : Int32).toNatClampNeg 0))))]) [0, 1, 2, 3, 4] rfl
    have hD9 := hD.sub (ws' := [(h0, .inr (0, [.ref ta, .ref ra, .int wet, .int less, .ref px, .ref py, .int pn, .ref qx, .ref qy, .int qn, .ref ml])), (ml, .inr (4, [.ref ed, .int sn, .int mo])), (ed, .inl (cO, 10, .inr (.inr (.inr (.inr ef))))), (qm, .inr (2, [.long m0, .long m1, .long m2, .long m3, .long m4])), (oa, .inl (cL, 1, .inr (.inl (vp_updL of (0 : Int32).toNatClampNeg 0))))]) [0, 1, 2, 3, 4] (by decide) rfl
    exact W.iret (v := 0) hx hb hr (fun t ht hW => ⟨_, _, rfl, ⟨by rw [e_0]; try rfl, by rw [e_1]⟩, by rw [ht]; exact hP9, hD9, hS.F ht⟩) hS.2.2 dL_in_31
  · have c_1 := xb_bi_t.mp c_1
    refine lv_lconst (v := 1) hx hb dL_in_13 (by decide) ?_
    refine lv_goto (tgt := 18) hx hb dL_in_14 (by decide) ?_
    have o_3 : vp_in (0 : Int32) 1 := by unfold vp_in; decide
    refine va_last hx hb hK hP hD hS 4 2 rfl rfl o_3 dL_in_18 (fun H locs hP hD hS => ?_)
    have hP : va_P (dC, dI) classes [(h0, .inr (0, [.ref ta, .ref ra, .int wet, .int less, .ref px, .ref py, .int pn, .ref qx, .ref qy, .int qn, .ref ml])), (ml, .inr (4, [.ref ed, .int sn, .int mo])), (ed, .inl (cO, 10, .inr (.inr (.inr (.inr ef))))), (qm, .inr (2, [.long m0, .long m1, .long m2, .long m3, .long m4])), (oa, .inl (cL, 1, .inr (.inl (vp_updL of (0 : Int32).toNatClampNeg 1))))] H := hP
    have hD : va_D A [(h0, .inr (0, [.ref ta, .ref ra, .int wet, .int less, .ref px, .ref py, .int pn, .ref qx, .ref qy, .int qn, .ref ml])), (ml, .inr (4, [.ref ed, .int sn, .int mo])), (ed, .inl (cO, 10, .inr (.inr (.inr (.inr ef))))), (qm, .inr (2, [.long m0, .long m1, .long m2, .long m3, .long m4])), (oa, .inl (cL, 1, .inr (.inl (vp_updL of (0 : Int32).toNatClampNeg 1))))] := hD
    refine lv_goto (tgt := 30) hx hb dL_in_19 (by decide) ?_
    refine lv_iconst (v := 0) hx hb dL_in_30 (by decide) ?_
    have e_0 : gL_in_g m0 m1 m2 m3 m4 x y of = (0 : Int32) := (if_pos c_1).trans (rfl)
    have e_1 : gL_in_g_f m0 m1 m2 m3 m4 x y of = (vp_updL of (0 : Int32).toNatClampNeg 1) := (if_pos c_1).trans (rfl)
    have hP9 := hP.sub (ws' := [(h0, .inr (0, [.ref ta, .ref ra, .int wet, .int less, .ref px, .ref py, .int pn, .ref qx, .ref qy, .int qn, .ref ml])), (ml, .inr (4, [.ref ed, .int sn, .int mo])), (ed, .inl (cO, 10, .inr (.inr (.inr (.inr ef))))), (qm, .inr (2, [.long m0, .long m1, .long m2, .long m3, .long m4])), (oa, .inl (cL, 1, .inr (.inl (vp_updL of (0 : Int32).toNatClampNeg 1))))]) [0, 1, 2, 3, 4] rfl
    have hD9 := hD.sub (ws' := [(h0, .inr (0, [.ref ta, .ref ra, .int wet, .int less, .ref px, .ref py, .int pn, .ref qx, .ref qy, .int qn, .ref ml])), (ml, .inr (4, [.ref ed, .int sn, .int mo])), (ed, .inl (cO, 10, .inr (.inr (.inr (.inr ef))))), (qm, .inr (2, [.long m0, .long m1, .long m2, .long m3, .long m4])), (oa, .inl (cL, 1, .inr (.inl (vp_updL of (0 : Int32).toNatClampNeg 1))))]) [0, 1, 2, 3, 4] (by decide) rfl
    exact W.iret (v := 0) hx hb hr (fun t ht hW => ⟨_, _, rfl, ⟨by rw [e_0]; try rfl, by rw [e_1]⟩, by rw [ht]; exact hP9, hD9, hS.F ht⟩) hS.2.2 dL_in_31

def gL_teeth_b (sn : Int32) (mi : Int32) (x : Int32) (y : Int32) (w : Int32) (h : Int32) (stp : Int32) (of : Nat → Int64) : Int32 := if mi < 0 ∨ ¬ mi < fA_size sn then ((1)) else (if x.toInt64 < (-10000) ∨ ¬ x.toInt64 ≤ 10000 then ((2)) else (if y.toInt64 < (-10000) ∨ ¬ y.toInt64 ≤ 10000 then ((2)) else (if w.toInt64 < 0 ∨ ¬ w.toInt64 ≤ 1000 then ((2)) else (if h.toInt64 < 0 ∨ ¬ h.toInt64 ≤ 1000 then ((2)) else ((2))))))
def gL_teeth_b_f (sn : Int32) (mi : Int32) (x : Int32) (y : Int32) (w : Int32) (h : Int32) (stp : Int32) (of : Nat → Int64) : Nat → Int64 := if mi < 0 ∨ ¬ mi < fA_size sn then (of) else (if x.toInt64 < (-10000) ∨ ¬ x.toInt64 ≤ 10000 then (of) else (if y.toInt64 < (-10000) ∨ ¬ y.toInt64 ≤ 10000 then (of) else (if w.toInt64 < 0 ∨ ¬ w.toInt64 ≤ 1000 then (of) else (if h.toInt64 < 0 ∨ ¬ h.toInt64 ≤ 1000 then (of) else (of)))))
set_option maxHeartbeats 4000000 in
set_option maxRecDepth 100000 in
theorem cL_teeth_b (l : Launch) {s0 : State} {dC : Nat → ClassId} {dI : Nat → Nat → Nat} {cI cC cL cO : ClassId} (E : xb_Env l s0 dC dI (xtys cI cC cL cO)) (sz : Nat) (h0 : Nat) (ml : Nat) (oa : Nat) (ta : Nat) (ra : Nat) (wet : Int32) (less : Int32) (px : Nat) (py : Nat) (pn : Int32) (qx : Nat) (qy : Nat) (qn : Int32) (ed : Nat) (sn : Int32) (mo : Int32) (of : Nat → Int64) (mi : Int32) (x : Int32) (y : Int32) (w : Int32) (h : Int32) (stp : Int32) (hbad : (mi < 0 ∨ ¬ mi < fA_size sn) ∨ (x.toInt64 < (-10000) ∨ ¬ x.toInt64 ≤ 10000) ∨ (y.toInt64 < (-10000) ∨ ¬ y.toInt64 ≤ 10000) ∨ (w.toInt64 < 0 ∨ ¬ w.toInt64 ≤ 1000) ∨ (h.toInt64 < 0 ∨ ¬ h.toInt64 ≤ 1000) ∨ (stp.toInt64 < 10 ∨ ¬ stp.toInt64 ≤ 1000)) : Met l yL_teeth [.codeWith yL_teeth bL_teeth 9 (some (.int)) [(0, 18, 21, 13), (0, 18, 25, 19)]] ({ frames := 8, cells := 1, slots := 6, locals := 137 }) (va_Pc [.ref h0, .int mi, .int x, .int y, .int w, .int h, .int stp, .ref oa] (fun U => xb_At s0 U ∧ U.heap.size = sz ∧ va_P (dC, dI) classes [(h0, .inr (0, [.ref ta, .ref ra, .int wet, .int less, .ref px, .ref py, .int pn, .ref qx, .ref qy, .int qn, .ref ml])), (ml, .inr (4, [.ref ed, .int sn, .int mo])), (oa, .inl (cL, 1, .inr (.inl of)))] U.heap ∧ va_D (fun q => s0.heap.size ≤ q) [(h0, .inr (0, [.ref ta, .ref ra, .int wet, .int less, .ref px, .ref py, .int pn, .ref qx, .ref qy, .int qn, .ref ml])), (ml, .inr (4, [.ref ed, .int sn, .int mo])), (oa, .inl (cL, 1, .inr (.inl of)))])) (xb_W (dC, dI) (fun v9 w9 => v9 = some (.int (gL_teeth_b sn mi x y w h stp of)) ∧ w9 = [(h0, .inr (0, [.ref ta, .ref ra, .int wet, .int less, .ref px, .ref py, .int pn, .ref qx, .ref qy, .int qn, .ref ml])), (ml, .inr (4, [.ref ed, .int sn, .int mo])), (oa, .inl (cL, 1, .inr (.inl (gL_teeth_b_f sn mi x y w h stp of))))]) (va_A [(h0, .inr (0, [.ref ta, .ref ra, .int wet, .int less, .ref px, .ref py, .int pn, .ref qx, .ref qy, .int qn, .ref ml])), (ml, .inr (4, [.ref ed, .int sn, .int mo])), (oa, .inl (cL, 1, .inr (.inl of)))] sz)) 1 6 (va_A [(h0, .inr (0, [.ref ta, .ref ra, .int wet, .int less, .ref px, .ref py, .int pn, .ref qx, .ref qy, .int qn, .ref ml])), (ml, .inr (4, [.ref ed, .int sn, .int mo])), (oa, .inl (cL, 1, .inr (.inl of)))] sz) := by
  refine xw_ofW (cc := bL_teeth) (maxL := 9) (ret := (some (.int))) (hs := [(0, 18, 21, 13), (0, 18, 25, 19)]) (by decide) rfl ?_
  intro p e s m args below meth c s₁ B hml htab hv
  obtain ⟨rfl, hAt, hsz, hP, hD0⟩ := hv
  have hx := B.exec
  have hb := B.bytes
  have hr := B.returns
  have hts := xb_hts E hAt ([.ref h0, .int mi, .int x, .int y, .int w, .int h, .int stp, .ref oa] : List Value).toArray
  have hown : s.vm.findClass "NailRulesLaw" = some m.cls := findClass_of_methodNamed B.named
  have hlocks := B.notSynchronized
  have hK := xb_K E hAt
  subst hsz
  have hA0 := xb_A0 hAt hD0
  have hD := hD0.self (sz := s.heap.size)
  generalize hAe : va_A [(h0, .inr (0, [.ref ta, .ref ra, .int wet, .int less, .ref px, .ref py, .int pn, .ref qx, .ref qy, .int qn, .ref ml])), (ml, .inr (4, [.ref ed, .int sn, .int mo])), (oa, .inl (cL, 1, .inr (.inl of)))] s.heap.size = A at hD hA0 ⊢
  have hA : ∀ q : Nat, s.heap.size ≤ q → A q := fun q h => by rw [← hAe]; exact Or.inr h
  have hS : va_S A s.heap s.heap [] := va_S.rf
  have hl := lv_entry ([.ref h0, .int mi, .int x, .int y, .int w, .int h, .int stp, .ref oa]) (n := 9) (Nat.le_of_ble_eq_true rfl)
  rw [lg_entry_eq]
  generalize (lg_sl ([.ref h0, .int mi, .int x, .int y, .int w, .int h, .int stp, .ref oa]) ++ List.replicate (9 - (lg_sl ([.ref h0, .int mi, .int x, .int y, .int w, .int h, .int stp, .ref oa])).length) Slot.unset).toArray = ls at hl ⊢
  have hl : lv_has ls 9 [(0, .ref h0), (1, .int mi), (2, .int x), (3, .int y), (4, .int w), (5, .int h), (6, .int stp), (7, .ref oa)] := hl
  refine lv_aload hx hb dL_teeth_0 (lv_at hl 7 rfl) ?_
  refine lv_iconst (v := 0) hx hb dL_teeth_2 (by decide) ?_
  refine lv_aload_n hx hb dL_teeth_3 rfl (lv_at hl 0 rfl) ?_
  refine lv_iload_n hx hb dL_teeth_4 rfl (lv_at hl 1 rfl) ?_
  refine lv_iload_n hx hb dL_teeth_5 rfl (lv_at hl 2 rfl) ?_
  refine lv_iload_n hx hb dL_teeth_6 rfl (lv_at hl 3 rfl) ?_
  refine lv_iload hx hb dL_teeth_7 (lv_at hl 4 rfl) ?_
  refine lv_iload hx hb dL_teeth_9 (lv_at hl 5 rfl) ?_
  refine lv_iload hx hb dL_teeth_11 (lv_at hl 6 rfl) ?_
  by_cases c_1 : mi < 0 ∨ ¬ mi < fA_size sn
  · refine xw_c1 (xt_runV (Cr := "NailRules") (As := [.int mi, .int x, .int y, .int w, .int h, .int stp]) (rest := [.int 0, .ref oa]) ⟨hx, hb, hml, hown, hts⟩ (cN_teeth_x1 l E h0 ([.ref ta, .ref ra, .int wet, .int less, .ref px, .ref py, .int pn, .ref qx, .ref qy, .int qn, .ref ml]) ml ([.ref ed, .int sn, .int mo]) sn mi x y w h stp rfl rfl (c_1)) (cwV 6 hts (xb_gi (List.forall_mem_cons.mpr ⟨xk_618, List.forall_mem_cons.mpr ⟨xk_619, List.forall_mem_cons.mpr ⟨xk_620, List.forall_mem_cons.mpr ⟨xk_40, List.forall_mem_cons.mpr ⟨xk_621, fun _ h => absurd h List.not_mem_nil⟩⟩⟩⟩⟩)) rfl rfl rfl (by decide +kernel) ⟨Nat.le_of_ble_eq_true rfl, Nat.le_of_ble_eq_true rfl⟩) ⟨fun _ _ _ _ q => q, va_recv hK hP (ci := 0) (q0 := 0) rfl rfl, fun U hU hW => ⟨rfl, xb_atS hAt hS hA0 hU hW, by rw [hU]; exact hP.sub (ws' := [(h0, .inr (0, [.ref ta, .ref ra, .int wet, .int less, .ref px, .ref py, .int pn, .ref qx, .ref qy, .int qn, .ref ml])), (ml, .inr (4, [.ref ed, .int sn, .int mo]))]) [0, 1] rfl⟩⟩ rfl rfl hl.1 rfl (lv_room (Nat.le_of_ble_eq_true rfl)) dL_teeth_13 ⟨Nat.le_of_ble_eq_true rfl, Nat.le_of_ble_eq_true rfl⟩) hown htab rfl (by decide) (hts _ xk_283) (va_Nw.use rfl (xa_cst E hAt xk_293)) (fun q9 H hz9 hk9 => ?_)
    have hP := xw_P hP hk9
    have hS := xw_S hS hz9 hk9
    refine W.widen (k := 1) (n := 6) (by omega) (by omega) ?_
    refine lv_astore (lv' := [(8, .ref q9), (0, .ref h0), (1, .int mi), (2, .int x), (3, .int y), (4, .int w), (5, .int h), (6, .int stp), (7, .ref oa)]) hx hb dL_teeth_21 hl (by decide) rfl (fun ls hl => ?_)
    refine lv_iconst (v := 1) hx hb dL_teeth_23 (by decide) ?_
    have e_0 : gL_teeth_b sn mi x y w h stp of = (1 : Int32) := (if_pos c_1).trans (rfl)
    have e_1 : gL_teeth_b_f sn mi x y w h stp of = of := (if_pos c_1).trans (rfl)
    have hP9 := hP.sub (ws' := [(h0, .inr (0, [.ref ta, .ref ra, .int wet, .int less, .ref px, .ref py, .int pn, .ref qx, .ref qy, .int qn, .ref ml])), (ml, .inr (4, [.ref ed, .int sn, .int mo])), (oa, .inl (cL, 1, .inr (.inl of)))]) [0, 1, 2] rfl
    have hD9 := hD.sub (ws' := [(h0, .inr (0, [.ref ta, .ref ra, .int wet, .int less, .ref px, .ref py, .int pn, .ref qx, .ref qy, .int qn, .ref ml])), (ml, .inr (4, [.ref ed, .int sn, .int mo])), (oa, .inl (cL, 1, .inr (.inl of)))]) [0, 1, 2] (by decide) rfl
    refine W.widen (k := 1) (n := 6) (by omega) (by omega) ?_
    exact W.iret (v := 1) hx hb hr (fun t ht hW => ⟨_, _, rfl, ⟨by rw [e_0]; try rfl, by rw [e_1]⟩, by rw [ht]; exact hP9, hD9, hS.F ht⟩) hS.2.2 dL_teeth_24
  by_cases c_2 : x.toInt64 < (-10000) ∨ ¬ x.toInt64 ≤ 10000
  · obtain ⟨c9, hc9, hno9⟩ := xc_nc_IA_IO E hAt
    refine xw_c2 (xt_runV (Cr := "NailRules") (As := [.int mi, .int x, .int y, .int w, .int h, .int stp]) (rest := [.int 0, .ref oa]) ⟨hx, hb, hml, hown, hts⟩ (cN_teeth_x2 l E h0 ([.ref ta, .ref ra, .int wet, .int less, .ref px, .ref py, .int pn, .ref qx, .ref qy, .int qn, .ref ml]) ml ([.ref ed, .int sn, .int mo]) sn mi x y w h stp rfl rfl (xh_1 c_1) (xh_2 c_1) (c_2)) (cwV 6 hts (xb_gi (List.forall_mem_cons.mpr ⟨xk_618, List.forall_mem_cons.mpr ⟨xk_619, List.forall_mem_cons.mpr ⟨xk_620, List.forall_mem_cons.mpr ⟨xk_40, List.forall_mem_cons.mpr ⟨xk_621, fun _ h => absurd h List.not_mem_nil⟩⟩⟩⟩⟩)) rfl rfl rfl (by decide +kernel) ⟨Nat.le_of_ble_eq_true rfl, Nat.le_of_ble_eq_true rfl⟩) ⟨fun _ _ _ _ q => q, va_recv hK hP (ci := 0) (q0 := 0) rfl rfl, fun U hU hW => ⟨rfl, xb_atS hAt hS hA0 hU hW, by rw [hU]; exact hP.sub (ws' := [(h0, .inr (0, [.ref ta, .ref ra, .int wet, .int less, .ref px, .ref py, .int pn, .ref qx, .ref qy, .int qn, .ref ml])), (ml, .inr (4, [.ref ed, .int sn, .int mo]))]) [0, 1] rfl⟩⟩ rfl rfl hl.1 rfl (lv_room (Nat.le_of_ble_eq_true rfl)) dL_teeth_13 ⟨Nat.le_of_ble_eq_true rfl, Nat.le_of_ble_eq_true rfl⟩) hown htab rfl (by decide) rfl (by decide) (hts _ xk_283) (hts _ xk_365) hc9 hno9 (va_Nw.use rfl (xa_cst E hAt xk_376)) (fun q9 H hz9 hk9 => ?_)
    have hP := xw_P hP hk9
    have hS := xw_S hS hz9 hk9
    refine W.widen (k := 1) (n := 6) (by omega) (by omega) ?_
    refine lv_astore (lv' := [(8, .ref q9), (0, .ref h0), (1, .int mi), (2, .int x), (3, .int y), (4, .int w), (5, .int h), (6, .int stp), (7, .ref oa)]) hx hb dL_teeth_25 hl (by decide) rfl (fun ls hl => ?_)
    refine lv_iconst (v := 2) hx hb dL_teeth_27 (by decide) ?_
    have e_0 : gL_teeth_b sn mi x y w h stp of = (2 : Int32) := (if_neg c_1).trans ((if_pos c_2).trans (rfl))
    have e_1 : gL_teeth_b_f sn mi x y w h stp of = of := (if_neg c_1).trans ((if_pos c_2).trans (rfl))
    have hP9 := hP.sub (ws' := [(h0, .inr (0, [.ref ta, .ref ra, .int wet, .int less, .ref px, .ref py, .int pn, .ref qx, .ref qy, .int qn, .ref ml])), (ml, .inr (4, [.ref ed, .int sn, .int mo])), (oa, .inl (cL, 1, .inr (.inl of)))]) [0, 1, 2] rfl
    have hD9 := hD.sub (ws' := [(h0, .inr (0, [.ref ta, .ref ra, .int wet, .int less, .ref px, .ref py, .int pn, .ref qx, .ref qy, .int qn, .ref ml])), (ml, .inr (4, [.ref ed, .int sn, .int mo])), (oa, .inl (cL, 1, .inr (.inl of)))]) [0, 1, 2] (by decide) rfl
    refine W.widen (k := 1) (n := 6) (by omega) (by omega) ?_
    exact W.iret (v := 2) hx hb hr (fun t ht hW => ⟨_, _, rfl, ⟨by rw [e_0]; try rfl, by rw [e_1]⟩, by rw [ht]; exact hP9, hD9, hS.F ht⟩) hS.2.2 dL_teeth_28
  by_cases c_3 : y.toInt64 < (-10000) ∨ ¬ y.toInt64 ≤ 10000
  · obtain ⟨c9, hc9, hno9⟩ := xc_nc_IA_IO E hAt
    refine xw_c2 (xt_runV (Cr := "NailRules") (As := [.int mi, .int x, .int y, .int w, .int h, .int stp]) (rest := [.int 0, .ref oa]) ⟨hx, hb, hml, hown, hts⟩ (cN_teeth_x3 l E h0 ([.ref ta, .ref ra, .int wet, .int less, .ref px, .ref py, .int pn, .ref qx, .ref qy, .int qn, .ref ml]) ml ([.ref ed, .int sn, .int mo]) sn mi x y w h stp rfl rfl (xh_1 c_1) (xh_2 c_1) (xh_1 c_2) (xh_2 c_2) (c_3)) (cwV 6 hts (xb_gi (List.forall_mem_cons.mpr ⟨xk_618, List.forall_mem_cons.mpr ⟨xk_619, List.forall_mem_cons.mpr ⟨xk_620, List.forall_mem_cons.mpr ⟨xk_40, List.forall_mem_cons.mpr ⟨xk_621, fun _ h => absurd h List.not_mem_nil⟩⟩⟩⟩⟩)) rfl rfl rfl (by decide +kernel) ⟨Nat.le_of_ble_eq_true rfl, Nat.le_of_ble_eq_true rfl⟩) ⟨fun _ _ _ _ q => q, va_recv hK hP (ci := 0) (q0 := 0) rfl rfl, fun U hU hW => ⟨rfl, xb_atS hAt hS hA0 hU hW, by rw [hU]; exact hP.sub (ws' := [(h0, .inr (0, [.ref ta, .ref ra, .int wet, .int less, .ref px, .ref py, .int pn, .ref qx, .ref qy, .int qn, .ref ml])), (ml, .inr (4, [.ref ed, .int sn, .int mo]))]) [0, 1] rfl⟩⟩ rfl rfl hl.1 rfl (lv_room (Nat.le_of_ble_eq_true rfl)) dL_teeth_13 ⟨Nat.le_of_ble_eq_true rfl, Nat.le_of_ble_eq_true rfl⟩) hown htab rfl (by decide) rfl (by decide) (hts _ xk_283) (hts _ xk_365) hc9 hno9 (va_Nw.use rfl (xa_cst E hAt xk_376)) (fun q9 H hz9 hk9 => ?_)
    have hP := xw_P hP hk9
    have hS := xw_S hS hz9 hk9
    refine W.widen (k := 1) (n := 6) (by omega) (by omega) ?_
    refine lv_astore (lv' := [(8, .ref q9), (0, .ref h0), (1, .int mi), (2, .int x), (3, .int y), (4, .int w), (5, .int h), (6, .int stp), (7, .ref oa)]) hx hb dL_teeth_25 hl (by decide) rfl (fun ls hl => ?_)
    refine lv_iconst (v := 2) hx hb dL_teeth_27 (by decide) ?_
    have e_0 : gL_teeth_b sn mi x y w h stp of = (2 : Int32) := (if_neg c_1).trans ((if_neg c_2).trans ((if_pos c_3).trans (rfl)))
    have e_1 : gL_teeth_b_f sn mi x y w h stp of = of := (if_neg c_1).trans ((if_neg c_2).trans ((if_pos c_3).trans (rfl)))
    have hP9 := hP.sub (ws' := [(h0, .inr (0, [.ref ta, .ref ra, .int wet, .int less, .ref px, .ref py, .int pn, .ref qx, .ref qy, .int qn, .ref ml])), (ml, .inr (4, [.ref ed, .int sn, .int mo])), (oa, .inl (cL, 1, .inr (.inl of)))]) [0, 1, 2] rfl
    have hD9 := hD.sub (ws' := [(h0, .inr (0, [.ref ta, .ref ra, .int wet, .int less, .ref px, .ref py, .int pn, .ref qx, .ref qy, .int qn, .ref ml])), (ml, .inr (4, [.ref ed, .int sn, .int mo])), (oa, .inl (cL, 1, .inr (.inl of)))]) [0, 1, 2] (by decide) rfl
    refine W.widen (k := 1) (n := 6) (by omega) (by omega) ?_
    exact W.iret (v := 2) hx hb hr (fun t ht hW => ⟨_, _, rfl, ⟨by rw [e_0]; try rfl, by rw [e_1]⟩, by rw [ht]; exact hP9, hD9, hS.F ht⟩) hS.2.2 dL_teeth_28
  by_cases c_4 : w.toInt64 < 0 ∨ ¬ w.toInt64 ≤ 1000
  · obtain ⟨c9, hc9, hno9⟩ := xc_nc_IA_IO E hAt
    refine xw_c2 (xt_runV (Cr := "NailRules") (As := [.int mi, .int x, .int y, .int w, .int h, .int stp]) (rest := [.int 0, .ref oa]) ⟨hx, hb, hml, hown, hts⟩ (cN_teeth_x4 l E h0 ([.ref ta, .ref ra, .int wet, .int less, .ref px, .ref py, .int pn, .ref qx, .ref qy, .int qn, .ref ml]) ml ([.ref ed, .int sn, .int mo]) sn mi x y w h stp rfl rfl (xh_1 c_1) (xh_2 c_1) (xh_1 c_2) (xh_2 c_2) (xh_1 c_3) (xh_2 c_3) (c_4)) (cwV 6 hts (xb_gi (List.forall_mem_cons.mpr ⟨xk_618, List.forall_mem_cons.mpr ⟨xk_619, List.forall_mem_cons.mpr ⟨xk_620, List.forall_mem_cons.mpr ⟨xk_40, List.forall_mem_cons.mpr ⟨xk_621, fun _ h => absurd h List.not_mem_nil⟩⟩⟩⟩⟩)) rfl rfl rfl (by decide +kernel) ⟨Nat.le_of_ble_eq_true rfl, Nat.le_of_ble_eq_true rfl⟩) ⟨fun _ _ _ _ q => q, va_recv hK hP (ci := 0) (q0 := 0) rfl rfl, fun U hU hW => ⟨rfl, xb_atS hAt hS hA0 hU hW, by rw [hU]; exact hP.sub (ws' := [(h0, .inr (0, [.ref ta, .ref ra, .int wet, .int less, .ref px, .ref py, .int pn, .ref qx, .ref qy, .int qn, .ref ml])), (ml, .inr (4, [.ref ed, .int sn, .int mo]))]) [0, 1] rfl⟩⟩ rfl rfl hl.1 rfl (lv_room (Nat.le_of_ble_eq_true rfl)) dL_teeth_13 ⟨Nat.le_of_ble_eq_true rfl, Nat.le_of_ble_eq_true rfl⟩) hown htab rfl (by decide) rfl (by decide) (hts _ xk_283) (hts _ xk_365) hc9 hno9 (va_Nw.use rfl (xa_cst E hAt xk_376)) (fun q9 H hz9 hk9 => ?_)
    have hP := xw_P hP hk9
    have hS := xw_S hS hz9 hk9
    refine W.widen (k := 1) (n := 6) (by omega) (by omega) ?_
    refine lv_astore (lv' := [(8, .ref q9), (0, .ref h0), (1, .int mi), (2, .int x), (3, .int y), (4, .int w), (5, .int h), (6, .int stp), (7, .ref oa)]) hx hb dL_teeth_25 hl (by decide) rfl (fun ls hl => ?_)
    refine lv_iconst (v := 2) hx hb dL_teeth_27 (by decide) ?_
    have e_0 : gL_teeth_b sn mi x y w h stp of = (2 : Int32) := (if_neg c_1).trans ((if_neg c_2).trans ((if_neg c_3).trans ((if_pos c_4).trans (rfl))))
    have e_1 : gL_teeth_b_f sn mi x y w h stp of = of := (if_neg c_1).trans ((if_neg c_2).trans ((if_neg c_3).trans ((if_pos c_4).trans (rfl))))
    have hP9 := hP.sub (ws' := [(h0, .inr (0, [.ref ta, .ref ra, .int wet, .int less, .ref px, .ref py, .int pn, .ref qx, .ref qy, .int qn, .ref ml])), (ml, .inr (4, [.ref ed, .int sn, .int mo])), (oa, .inl (cL, 1, .inr (.inl of)))]) [0, 1, 2] rfl
    have hD9 := hD.sub (ws' := [(h0, .inr (0, [.ref ta, .ref ra, .int wet, .int less, .ref px, .ref py, .int pn, .ref qx, .ref qy, .int qn, .ref ml])), (ml, .inr (4, [.ref ed, .int sn, .int mo])), (oa, .inl (cL, 1, .inr (.inl of)))]) [0, 1, 2] (by decide) rfl
    refine W.widen (k := 1) (n := 6) (by omega) (by omega) ?_
    exact W.iret (v := 2) hx hb hr (fun t ht hW => ⟨_, _, rfl, ⟨by rw [e_0]; try rfl, by rw [e_1]⟩, by rw [ht]; exact hP9, hD9, hS.F ht⟩) hS.2.2 dL_teeth_28
  by_cases c_5 : h.toInt64 < 0 ∨ ¬ h.toInt64 ≤ 1000
  · obtain ⟨c9, hc9, hno9⟩ := xc_nc_IA_IO E hAt
    refine xw_c2 (xt_runV (Cr := "NailRules") (As := [.int mi, .int x, .int y, .int w, .int h, .int stp]) (rest := [.int 0, .ref oa]) ⟨hx, hb, hml, hown, hts⟩ (cN_teeth_x5 l E h0 ([.ref ta, .ref ra, .int wet, .int less, .ref px, .ref py, .int pn, .ref qx, .ref qy, .int qn, .ref ml]) ml ([.ref ed, .int sn, .int mo]) sn mi x y w h stp rfl rfl (xh_1 c_1) (xh_2 c_1) (xh_1 c_2) (xh_2 c_2) (xh_1 c_3) (xh_2 c_3) (xh_1 c_4) (xh_2 c_4) (c_5)) (cwV 6 hts (xb_gi (List.forall_mem_cons.mpr ⟨xk_618, List.forall_mem_cons.mpr ⟨xk_619, List.forall_mem_cons.mpr ⟨xk_620, List.forall_mem_cons.mpr ⟨xk_40, List.forall_mem_cons.mpr ⟨xk_621, fun _ h => absurd h List.not_mem_nil⟩⟩⟩⟩⟩)) rfl rfl rfl (by decide +kernel) ⟨Nat.le_of_ble_eq_true rfl, Nat.le_of_ble_eq_true rfl⟩) ⟨fun _ _ _ _ q => q, va_recv hK hP (ci := 0) (q0 := 0) rfl rfl, fun U hU hW => ⟨rfl, xb_atS hAt hS hA0 hU hW, by rw [hU]; exact hP.sub (ws' := [(h0, .inr (0, [.ref ta, .ref ra, .int wet, .int less, .ref px, .ref py, .int pn, .ref qx, .ref qy, .int qn, .ref ml])), (ml, .inr (4, [.ref ed, .int sn, .int mo]))]) [0, 1] rfl⟩⟩ rfl rfl hl.1 rfl (lv_room (Nat.le_of_ble_eq_true rfl)) dL_teeth_13 ⟨Nat.le_of_ble_eq_true rfl, Nat.le_of_ble_eq_true rfl⟩) hown htab rfl (by decide) rfl (by decide) (hts _ xk_283) (hts _ xk_365) hc9 hno9 (va_Nw.use rfl (xa_cst E hAt xk_376)) (fun q9 H hz9 hk9 => ?_)
    have hP := xw_P hP hk9
    have hS := xw_S hS hz9 hk9
    refine W.widen (k := 1) (n := 6) (by omega) (by omega) ?_
    refine lv_astore (lv' := [(8, .ref q9), (0, .ref h0), (1, .int mi), (2, .int x), (3, .int y), (4, .int w), (5, .int h), (6, .int stp), (7, .ref oa)]) hx hb dL_teeth_25 hl (by decide) rfl (fun ls hl => ?_)
    refine lv_iconst (v := 2) hx hb dL_teeth_27 (by decide) ?_
    have e_0 : gL_teeth_b sn mi x y w h stp of = (2 : Int32) := (if_neg c_1).trans ((if_neg c_2).trans ((if_neg c_3).trans ((if_neg c_4).trans ((if_pos c_5).trans (rfl)))))
    have e_1 : gL_teeth_b_f sn mi x y w h stp of = of := (if_neg c_1).trans ((if_neg c_2).trans ((if_neg c_3).trans ((if_neg c_4).trans ((if_pos c_5).trans (rfl)))))
    have hP9 := hP.sub (ws' := [(h0, .inr (0, [.ref ta, .ref ra, .int wet, .int less, .ref px, .ref py, .int pn, .ref qx, .ref qy, .int qn, .ref ml])), (ml, .inr (4, [.ref ed, .int sn, .int mo])), (oa, .inl (cL, 1, .inr (.inl of)))]) [0, 1, 2] rfl
    have hD9 := hD.sub (ws' := [(h0, .inr (0, [.ref ta, .ref ra, .int wet, .int less, .ref px, .ref py, .int pn, .ref qx, .ref qy, .int qn, .ref ml])), (ml, .inr (4, [.ref ed, .int sn, .int mo])), (oa, .inl (cL, 1, .inr (.inl of)))]) [0, 1, 2] (by decide) rfl
    refine W.widen (k := 1) (n := 6) (by omega) (by omega) ?_
    exact W.iret (v := 2) hx hb hr (fun t ht hW => ⟨_, _, rfl, ⟨by rw [e_0]; try rfl, by rw [e_1]⟩, by rw [ht]; exact hP9, hD9, hS.F ht⟩) hS.2.2 dL_teeth_28
  by_cases c_6 : stp.toInt64 < 10 ∨ ¬ stp.toInt64 ≤ 1000
  · obtain ⟨c9, hc9, hno9⟩ := xc_nc_IA_IO E hAt
    refine xw_c2 (xt_runV (Cr := "NailRules") (As := [.int mi, .int x, .int y, .int w, .int h, .int stp]) (rest := [.int 0, .ref oa]) ⟨hx, hb, hml, hown, hts⟩ (cN_teeth_x6 l E h0 ([.ref ta, .ref ra, .int wet, .int less, .ref px, .ref py, .int pn, .ref qx, .ref qy, .int qn, .ref ml]) ml ([.ref ed, .int sn, .int mo]) sn mi x y w h stp rfl rfl (xh_1 c_1) (xh_2 c_1) (xh_1 c_2) (xh_2 c_2) (xh_1 c_3) (xh_2 c_3) (xh_1 c_4) (xh_2 c_4) (xh_1 c_5) (xh_2 c_5) (c_6)) (cwV 6 hts (xb_gi (List.forall_mem_cons.mpr ⟨xk_618, List.forall_mem_cons.mpr ⟨xk_619, List.forall_mem_cons.mpr ⟨xk_620, List.forall_mem_cons.mpr ⟨xk_40, List.forall_mem_cons.mpr ⟨xk_621, fun _ h => absurd h List.not_mem_nil⟩⟩⟩⟩⟩)) rfl rfl rfl (by decide +kernel) ⟨Nat.le_of_ble_eq_true rfl, Nat.le_of_ble_eq_true rfl⟩) ⟨fun _ _ _ _ q => q, va_recv hK hP (ci := 0) (q0 := 0) rfl rfl, fun U hU hW => ⟨rfl, xb_atS hAt hS hA0 hU hW, by rw [hU]; exact hP.sub (ws' := [(h0, .inr (0, [.ref ta, .ref ra, .int wet, .int less, .ref px, .ref py, .int pn, .ref qx, .ref qy, .int qn, .ref ml])), (ml, .inr (4, [.ref ed, .int sn, .int mo]))]) [0, 1] rfl⟩⟩ rfl rfl hl.1 rfl (lv_room (Nat.le_of_ble_eq_true rfl)) dL_teeth_13 ⟨Nat.le_of_ble_eq_true rfl, Nat.le_of_ble_eq_true rfl⟩) hown htab rfl (by decide) rfl (by decide) (hts _ xk_283) (hts _ xk_365) hc9 hno9 (va_Nw.use rfl (xa_cst E hAt xk_376)) (fun q9 H hz9 hk9 => ?_)
    have hP := xw_P hP hk9
    have hS := xw_S hS hz9 hk9
    refine W.widen (k := 1) (n := 6) (by omega) (by omega) ?_
    refine lv_astore (lv' := [(8, .ref q9), (0, .ref h0), (1, .int mi), (2, .int x), (3, .int y), (4, .int w), (5, .int h), (6, .int stp), (7, .ref oa)]) hx hb dL_teeth_25 hl (by decide) rfl (fun ls hl => ?_)
    refine lv_iconst (v := 2) hx hb dL_teeth_27 (by decide) ?_
    have e_0 : gL_teeth_b sn mi x y w h stp of = (2 : Int32) := (if_neg c_1).trans ((if_neg c_2).trans ((if_neg c_3).trans ((if_neg c_4).trans ((if_neg c_5).trans (rfl)))))
    have e_1 : gL_teeth_b_f sn mi x y w h stp of = of := (if_neg c_1).trans ((if_neg c_2).trans ((if_neg c_3).trans ((if_neg c_4).trans ((if_neg c_5).trans (rfl)))))
    have hP9 := hP.sub (ws' := [(h0, .inr (0, [.ref ta, .ref ra, .int wet, .int less, .ref px, .ref py, .int pn, .ref qx, .ref qy, .int qn, .ref ml])), (ml, .inr (4, [.ref ed, .int sn, .int mo])), (oa, .inl (cL, 1, .inr (.inl of)))]) [0, 1, 2] rfl
    have hD9 := hD.sub (ws' := [(h0, .inr (0, [.ref ta, .ref ra, .int wet, .int less, .ref px, .ref py, .int pn, .ref qx, .ref qy, .int qn, .ref ml])), (ml, .inr (4, [.ref ed, .int sn, .int mo])), (oa, .inl (cL, 1, .inr (.inl of)))]) [0, 1, 2] (by decide) rfl
    refine W.widen (k := 1) (n := 6) (by omega) (by omega) ?_
    exact W.iret (v := 2) hx hb hr (fun t ht hW => ⟨_, _, rfl, ⟨by rw [e_0]; try rfl, by rw [e_1]⟩, by rw [ht]; exact hP9, hD9, hS.F ht⟩) hS.2.2 dL_teeth_28
  exact absurd hbad (by rintro (h9 | h9 | h9 | h9 | h9 | h9) <;> contradiction)

def gL_teeth_g (m0 : Int64) (m1 : Int64) (m2 : Int64) (m3 : Int64) (m4 : Int64) (x : Int32) (y : Int32) (w : Int32) (h : Int32) (stp : Int32) (of : Nat → Int64) : Int32 := (0)
def gL_teeth_g_f (m0 : Int64) (m1 : Int64) (m2 : Int64) (m3 : Int64) (m4 : Int64) (x : Int32) (y : Int32) (w : Int32) (h : Int32) (stp : Int32) (of : Nat → Int64) : Nat → Int64 := vp_updL of (0 : Int32).toNatClampNeg ((fN_teeth m0 m1 m2 m3 m4 x y w h stp).toInt64)
set_option maxHeartbeats 4000000 in
set_option maxRecDepth 100000 in
theorem cL_teeth_g (l : Launch) {s0 : State} {dC : Nat → ClassId} {dI : Nat → Nat → Nat} {cI cC cL cO : ClassId} (E : xb_Env l s0 dC dI (xtys cI cC cL cO)) (sz : Nat) (h0 : Nat) (ml : Nat) (ed : Nat) (qm : Nat) (oa : Nat) (ta : Nat) (ra : Nat) (wet : Int32) (less : Int32) (px : Nat) (py : Nat) (pn : Int32) (qx : Nat) (qy : Nat) (qn : Int32) (sn : Int32) (mo : Int32) (ef : Nat → Option Nat) (m0 : Int64) (m1 : Int64) (m2 : Int64) (m3 : Int64) (m4 : Int64) (of : Nat → Int64) (mi : Int32) (x : Int32) (y : Int32) (w : Int32) (h : Int32) (stp : Int32) (ka : ¬ mi < 0) (kb : mi < fA_size sn) (ua : ¬ x.toInt64 < (-10000)) (ub : x.toInt64 ≤ 10000) (wa : ¬ y.toInt64 < (-10000)) (wb : y.toInt64 ≤ 10000) (ga : ¬ w.toInt64 < 0) (gb : w.toInt64 ≤ 1000) (qa : ¬ h.toInt64 < 0) (qb : h.toInt64 ≤ 1000) (va : ¬ stp.toInt64 < 10) (vb : stp.toInt64 ≤ 1000) (hi : vp_in mi 10) (hq : ef mi.toNatClampNeg = some qm) : Met l yL_teeth [.codeWith yL_teeth bL_teeth 9 (some (.int)) [(0, 18, 21, 13), (0, 18, 25, 19)]] ({ frames := 4, cells := 0, slots := 0, locals := 94 }) (va_Pc [.ref h0, .int mi, .int x, .int y, .int w, .int h, .int stp, .ref oa] (fun U => xb_At s0 U ∧ U.heap.size = sz ∧ va_P (dC, dI) classes [(h0, .inr (0, [.ref ta, .ref ra, .int wet, .int less, .ref px, .ref py, .int pn, .ref qx, .ref qy, .int qn, .ref ml])), (ml, .inr (4, [.ref ed, .int sn, .int mo])), (ed, .inl (cO, 10, .inr (.inr (.inr (.inr ef))))), (qm, .inr (2, [.long m0, .long m1, .long m2, .long m3, .long m4])), (oa, .inl (cL, 1, .inr (.inl of)))] U.heap ∧ va_D (fun q => s0.heap.size ≤ q) [(h0, .inr (0, [.ref ta, .ref ra, .int wet, .int less, .ref px, .ref py, .int pn, .ref qx, .ref qy, .int qn, .ref ml])), (ml, .inr (4, [.ref ed, .int sn, .int mo])), (ed, .inl (cO, 10, .inr (.inr (.inr (.inr ef))))), (qm, .inr (2, [.long m0, .long m1, .long m2, .long m3, .long m4])), (oa, .inl (cL, 1, .inr (.inl of)))])) (xb_W (dC, dI) (fun v9 w9 => v9 = some (.int (gL_teeth_g m0 m1 m2 m3 m4 x y w h stp of)) ∧ w9 = [(h0, .inr (0, [.ref ta, .ref ra, .int wet, .int less, .ref px, .ref py, .int pn, .ref qx, .ref qy, .int qn, .ref ml])), (ml, .inr (4, [.ref ed, .int sn, .int mo])), (ed, .inl (cO, 10, .inr (.inr (.inr (.inr ef))))), (qm, .inr (2, [.long m0, .long m1, .long m2, .long m3, .long m4])), (oa, .inl (cL, 1, .inr (.inl (gL_teeth_g_f m0 m1 m2 m3 m4 x y w h stp of))))]) (va_A [(h0, .inr (0, [.ref ta, .ref ra, .int wet, .int less, .ref px, .ref py, .int pn, .ref qx, .ref qy, .int qn, .ref ml])), (ml, .inr (4, [.ref ed, .int sn, .int mo])), (ed, .inl (cO, 10, .inr (.inr (.inr (.inr ef))))), (qm, .inr (2, [.long m0, .long m1, .long m2, .long m3, .long m4])), (oa, .inl (cL, 1, .inr (.inl of)))] sz)) 0 0 (va_A [(h0, .inr (0, [.ref ta, .ref ra, .int wet, .int less, .ref px, .ref py, .int pn, .ref qx, .ref qy, .int qn, .ref ml])), (ml, .inr (4, [.ref ed, .int sn, .int mo])), (ed, .inl (cO, 10, .inr (.inr (.inr (.inr ef))))), (qm, .inr (2, [.long m0, .long m1, .long m2, .long m3, .long m4])), (oa, .inl (cL, 1, .inr (.inl of)))] sz) := by
  refine xw_ofW (cc := bL_teeth) (maxL := 9) (ret := (some (.int))) (hs := [(0, 18, 21, 13), (0, 18, 25, 19)]) (by decide) rfl ?_
  intro p e s m args below meth c s₁ B hml htab hv
  obtain ⟨rfl, hAt, hsz, hP, hD0⟩ := hv
  have hx := B.exec
  have hb := B.bytes
  have hr := B.returns
  have hts := xb_hts E hAt ([.ref h0, .int mi, .int x, .int y, .int w, .int h, .int stp, .ref oa] : List Value).toArray
  have hown : s.vm.findClass "NailRulesLaw" = some m.cls := findClass_of_methodNamed B.named
  have hlocks := B.notSynchronized
  have hK := xb_K E hAt
  subst hsz
  have hA0 := xb_A0 hAt hD0
  have hD := hD0.self (sz := s.heap.size)
  generalize hAe : va_A [(h0, .inr (0, [.ref ta, .ref ra, .int wet, .int less, .ref px, .ref py, .int pn, .ref qx, .ref qy, .int qn, .ref ml])), (ml, .inr (4, [.ref ed, .int sn, .int mo])), (ed, .inl (cO, 10, .inr (.inr (.inr (.inr ef))))), (qm, .inr (2, [.long m0, .long m1, .long m2, .long m3, .long m4])), (oa, .inl (cL, 1, .inr (.inl of)))] s.heap.size = A at hD hA0 ⊢
  have hA : ∀ q : Nat, s.heap.size ≤ q → A q := fun q h => by rw [← hAe]; exact Or.inr h
  have hS : va_S A s.heap s.heap [] := va_S.rf
  have hl := lv_entry ([.ref h0, .int mi, .int x, .int y, .int w, .int h, .int stp, .ref oa]) (n := 9) (Nat.le_of_ble_eq_true rfl)
  rw [lg_entry_eq]
  generalize (lg_sl ([.ref h0, .int mi, .int x, .int y, .int w, .int h, .int stp, .ref oa]) ++ List.replicate (9 - (lg_sl ([.ref h0, .int mi, .int x, .int y, .int w, .int h, .int stp, .ref oa])).length) Slot.unset).toArray = ls at hl ⊢
  have hl : lv_has ls 9 [(0, .ref h0), (1, .int mi), (2, .int x), (3, .int y), (4, .int w), (5, .int h), (6, .int stp), (7, .ref oa)] := hl
  refine lv_aload hx hb dL_teeth_0 (lv_at hl 7 rfl) ?_
  refine lv_iconst (v := 0) hx hb dL_teeth_2 (by decide) ?_
  refine lv_aload_n hx hb dL_teeth_3 rfl (lv_at hl 0 rfl) ?_
  refine lv_iload_n hx hb dL_teeth_4 rfl (lv_at hl 1 rfl) ?_
  refine lv_iload_n hx hb dL_teeth_5 rfl (lv_at hl 2 rfl) ?_
  refine lv_iload_n hx hb dL_teeth_6 rfl (lv_at hl 3 rfl) ?_
  refine lv_iload hx hb dL_teeth_7 (lv_at hl 4 rfl) ?_
  refine lv_iload hx hb dL_teeth_9 (lv_at hl 5 rfl) ?_
  refine lv_iload hx hb dL_teeth_11 (lv_at hl 6 rfl) ?_
  refine xb_rd (W.runV (C := "NailRules") (As := [.int mi, .int x, .int y, .int w, .int h, .int stp]) (rest := [.int 0, .ref oa]) ⟨hx, hb, hml, hown, hts⟩ (cN_teeth l E h0 ([.ref ta, .ref ra, .int wet, .int less, .ref px, .ref py, .int pn, .ref qx, .ref qy, .int qn, .ref ml]) ml ([.ref ed, .int sn, .int mo]) ed ef qm ([.long m0, .long m1, .long m2, .long m3, .long m4]) sn m0 m1 m2 m3 m4 mi x y w h stp rfl rfl rfl rfl rfl rfl rfl rfl (ka) (kb) (ua) (ub) (wa) (wb) (ga) (gb) (qa) (qb) (va) (vb) (hi) (hq)) (cwV 6 hts (xb_gi (List.forall_mem_cons.mpr ⟨xk_618, List.forall_mem_cons.mpr ⟨xk_619, List.forall_mem_cons.mpr ⟨xk_620, List.forall_mem_cons.mpr ⟨xk_40, List.forall_mem_cons.mpr ⟨xk_621, fun _ h => absurd h List.not_mem_nil⟩⟩⟩⟩⟩)) rfl rfl rfl (by decide +kernel) ⟨Nat.le_of_ble_eq_true rfl, Nat.le_of_ble_eq_true rfl⟩) ⟨fun _ _ _ _ q => q, va_recv hK hP (ci := 0) (q0 := 0) rfl rfl, fun U hU hW => ⟨rfl, xb_atS hAt hS hA0 hU hW, by rw [hU]; exact hP.sub (ws' := [(h0, .inr (0, [.ref ta, .ref ra, .int wet, .int less, .ref px, .ref py, .int pn, .ref qx, .ref qy, .int qn, .ref ml])), (ml, .inr (4, [.ref ed, .int sn, .int mo])), (ed, .inl (cO, 10, .inr (.inr (.inr (.inr ef))))), (qm, .inr (2, [.long m0, .long m1, .long m2, .long m3, .long m4]))]) [0, 1, 2, 3] rfl⟩⟩ rfl rfl hl.1 rfl (lv_room (Nat.le_of_ble_eq_true rfl)) dL_teeth_13 ⟨Nat.zero_le _, Nat.zero_le _⟩) ?_
  refine lv_i2l hx hb dL_teeth_16 rfl ?_
  have o_1 : vp_in (0 : Int32) 1 := by unfold vp_in; decide
  refine va_last hx hb hK hP hD hS 4 2 rfl rfl o_1 dL_teeth_17 (fun H locs hP hD hS => ?_)
  have hP : va_P (dC, dI) classes [(h0, .inr (0, [.ref ta, .ref ra, .int wet, .int less, .ref px, .ref py, .int pn, .ref qx, .ref qy, .int qn, .ref ml])), (ml, .inr (4, [.ref ed, .int sn, .int mo])), (ed, .inl (cO, 10, .inr (.inr (.inr (.inr ef))))), (qm, .inr (2, [.long m0, .long m1, .long m2, .long m3, .long m4])), (oa, .inl (cL, 1, .inr (.inl (vp_updL of (0 : Int32).toNatClampNeg ((fN_teeth m0 m1 m2 m3 m4 x y w h stp).toInt64)))))] H := hP
  have hD : va_D A [(h0, .inr (0, [.ref ta, .ref ra, .int wet, .int less, .ref px, .ref py, .int pn, .ref qx, .ref qy, .int qn, .ref ml])), (ml, .inr (4, [.ref ed, .int sn, .int mo])), (ed, .inl (cO, 10, .inr (.inr (.inr (.inr ef))))), (qm, .inr (2, [.long m0, .long m1, .long m2, .long m3, .long m4])), (oa, .inl (cL, 1, .inr (.inl (vp_updL of (0 : Int32).toNatClampNeg ((fN_teeth m0 m1 m2 m3 m4 x y w h stp).toInt64)))))] := hD
  refine lv_goto (tgt := 29) hx hb dL_teeth_18 (by decide) ?_
  refine lv_iconst (v := 0) hx hb dL_teeth_29 (by decide) ?_
  have e_0 : gL_teeth_g m0 m1 m2 m3 m4 x y w h stp of = (0 : Int32) := rfl
  have e_1 : gL_teeth_g_f m0 m1 m2 m3 m4 x y w h stp of = (vp_updL of (0 : Int32).toNatClampNeg ((fN_teeth m0 m1 m2 m3 m4 x y w h stp).toInt64)) := rfl
  have hP9 := hP.sub (ws' := [(h0, .inr (0, [.ref ta, .ref ra, .int wet, .int less, .ref px, .ref py, .int pn, .ref qx, .ref qy, .int qn, .ref ml])), (ml, .inr (4, [.ref ed, .int sn, .int mo])), (ed, .inl (cO, 10, .inr (.inr (.inr (.inr ef))))), (qm, .inr (2, [.long m0, .long m1, .long m2, .long m3, .long m4])), (oa, .inl (cL, 1, .inr (.inl (vp_updL of (0 : Int32).toNatClampNeg ((fN_teeth m0 m1 m2 m3 m4 x y w h stp).toInt64)))))]) [0, 1, 2, 3, 4] rfl
  have hD9 := hD.sub (ws' := [(h0, .inr (0, [.ref ta, .ref ra, .int wet, .int less, .ref px, .ref py, .int pn, .ref qx, .ref qy, .int qn, .ref ml])), (ml, .inr (4, [.ref ed, .int sn, .int mo])), (ed, .inl (cO, 10, .inr (.inr (.inr (.inr ef))))), (qm, .inr (2, [.long m0, .long m1, .long m2, .long m3, .long m4])), (oa, .inl (cL, 1, .inr (.inl (vp_updL of (0 : Int32).toNatClampNeg ((fN_teeth m0 m1 m2 m3 m4 x y w h stp).toInt64)))))]) [0, 1, 2, 3, 4] (by decide) rfl
  exact W.iret (v := 0) hx hb hr (fun t ht hW => ⟨_, _, rfl, ⟨by rw [e_0]; try rfl, by rw [e_1]⟩, by rw [ht]; exact hP9, hD9, hS.F ht⟩) hS.2.2 dL_teeth_30

def gL_thick (rf : Nat → Int32) (kind : Int32) (tk : Int32) (of : Nat → Int64) : Int32 := if kind < 0 ∨ ¬ kind < 4 then ((1)) else (if ¬ 0 ≤ tk then ((2)) else (if (fN_thick rf kind tk) = true then ((0)) else ((0))))
def gL_thick_f (rf : Nat → Int32) (kind : Int32) (tk : Int32) (of : Nat → Int64) : Nat → Int64 := if kind < 0 ∨ ¬ kind < 4 then (of) else (if ¬ 0 ≤ tk then (of) else (if (fN_thick rf kind tk) = true then (vp_updL of (0 : Int32).toNatClampNeg 1) else (vp_updL of (0 : Int32).toNatClampNeg 0)))
set_option maxHeartbeats 4000000 in
set_option maxRecDepth 100000 in
theorem cL_thick (l : Launch) {s0 : State} {dC : Nat → ClassId} {dI : Nat → Nat → Nat} {cI cC cL cO : ClassId} (E : xb_Env l s0 dC dI (xtys cI cC cL cO)) (sz : Nat) (h0 : Nat) (ra : Nat) (oa : Nat) (ta : Nat) (wet : Int32) (less : Int32) (px : Nat) (py : Nat) (pn : Int32) (qx : Nat) (qy : Nat) (qn : Int32) (ml : Nat) (rf : Nat → Int32) (of : Nat → Int64) (kind : Int32) (tk : Int32) : Met l yL_thick [.codeWith yL_thick bL_thick 5 (some (.int)) [(0, 17, 20, 13), (0, 17, 24, 19)]] ({ frames := 8, cells := 1, slots := 6, locals := 125 }) (va_Pc [.ref h0, .int kind, .int tk, .ref oa] (fun U => xb_At s0 U ∧ U.heap.size = sz ∧ va_P (dC, dI) classes [(h0, .inr (0, [.ref ta, .ref ra, .int wet, .int less, .ref px, .ref py, .int pn, .ref qx, .ref qy, .int qn, .ref ml])), (ra, .inl (cI, 28, .inl rf)), (oa, .inl (cL, 1, .inr (.inl of)))] U.heap ∧ va_D (fun q => s0.heap.size ≤ q) [(h0, .inr (0, [.ref ta, .ref ra, .int wet, .int less, .ref px, .ref py, .int pn, .ref qx, .ref qy, .int qn, .ref ml])), (ra, .inl (cI, 28, .inl rf)), (oa, .inl (cL, 1, .inr (.inl of)))])) (xb_W (dC, dI) (fun v9 w9 => v9 = some (.int (gL_thick rf kind tk of)) ∧ w9 = [(h0, .inr (0, [.ref ta, .ref ra, .int wet, .int less, .ref px, .ref py, .int pn, .ref qx, .ref qy, .int qn, .ref ml])), (ra, .inl (cI, 28, .inl rf)), (oa, .inl (cL, 1, .inr (.inl (gL_thick_f rf kind tk of))))]) (va_A [(h0, .inr (0, [.ref ta, .ref ra, .int wet, .int less, .ref px, .ref py, .int pn, .ref qx, .ref qy, .int qn, .ref ml])), (ra, .inl (cI, 28, .inl rf)), (oa, .inl (cL, 1, .inr (.inl of)))] sz)) 1 6 (va_A [(h0, .inr (0, [.ref ta, .ref ra, .int wet, .int less, .ref px, .ref py, .int pn, .ref qx, .ref qy, .int qn, .ref ml])), (ra, .inl (cI, 28, .inl rf)), (oa, .inl (cL, 1, .inr (.inl of)))] sz) := by
  refine xw_ofW (cc := bL_thick) (maxL := 5) (ret := (some (.int))) (hs := [(0, 17, 20, 13), (0, 17, 24, 19)]) (by decide) rfl ?_
  intro p e s m args below meth c s₁ B hml htab hv
  obtain ⟨rfl, hAt, hsz, hP, hD0⟩ := hv
  have hx := B.exec
  have hb := B.bytes
  have hr := B.returns
  have hts := xb_hts E hAt ([.ref h0, .int kind, .int tk, .ref oa] : List Value).toArray
  have hown : s.vm.findClass "NailRulesLaw" = some m.cls := findClass_of_methodNamed B.named
  have hlocks := B.notSynchronized
  have hK := xb_K E hAt
  subst hsz
  have hA0 := xb_A0 hAt hD0
  have hD := hD0.self (sz := s.heap.size)
  generalize hAe : va_A [(h0, .inr (0, [.ref ta, .ref ra, .int wet, .int less, .ref px, .ref py, .int pn, .ref qx, .ref qy, .int qn, .ref ml])), (ra, .inl (cI, 28, .inl rf)), (oa, .inl (cL, 1, .inr (.inl of)))] s.heap.size = A at hD hA0 ⊢
  have hA : ∀ q : Nat, s.heap.size ≤ q → A q := fun q h => by rw [← hAe]; exact Or.inr h
  have hS : va_S A s.heap s.heap [] := va_S.rf
  have hl := lv_entry ([.ref h0, .int kind, .int tk, .ref oa]) (n := 5) (Nat.le_of_ble_eq_true rfl)
  rw [lg_entry_eq]
  generalize (lg_sl ([.ref h0, .int kind, .int tk, .ref oa]) ++ List.replicate (5 - (lg_sl ([.ref h0, .int kind, .int tk, .ref oa])).length) Slot.unset).toArray = ls at hl ⊢
  have hl : lv_has ls 5 [(0, .ref h0), (1, .int kind), (2, .int tk), (3, .ref oa)] := hl
  refine lv_aload_n hx hb dL_thick_0 rfl (lv_at hl 3 rfl) ?_
  refine lv_iconst (v := 0) hx hb dL_thick_1 (by decide) ?_
  refine lv_aload_n hx hb dL_thick_2 rfl (lv_at hl 0 rfl) ?_
  refine lv_iload_n hx hb dL_thick_3 rfl (lv_at hl 1 rfl) ?_
  refine lv_iload_n hx hb dL_thick_4 rfl (lv_at hl 2 rfl) ?_
  by_cases c_1 : kind < 0 ∨ ¬ kind < 4
  · refine xw_c1 (xt_runV (Cr := "NailRules") (As := [.int kind, .int tk]) (rest := [.int 0, .ref oa]) ⟨hx, hb, hml, hown, hts⟩ (cN_thick_x1 l E h0 ([.ref ta, .ref ra, .int wet, .int less, .ref px, .ref py, .int pn, .ref qx, .ref qy, .int qn, .ref ml]) kind tk (c_1)) (cwV 2 hts (xb_gi (List.forall_mem_cons.mpr ⟨xk_626, List.forall_mem_cons.mpr ⟨xk_627, List.forall_mem_cons.mpr ⟨xk_628, List.forall_mem_cons.mpr ⟨xk_40, List.forall_mem_cons.mpr ⟨xk_629, fun _ h => absurd h List.not_mem_nil⟩⟩⟩⟩⟩)) rfl rfl rfl (by decide +kernel) ⟨Nat.le_of_ble_eq_true rfl, Nat.le_of_ble_eq_true rfl⟩) ⟨fun _ _ _ _ q => q, va_recv hK hP (ci := 0) (q0 := 0) rfl rfl, fun U hU hW => ⟨rfl, xb_atS hAt hS hA0 hU hW, by rw [hU]; exact hP.sub (ws' := [(h0, .inr (0, [.ref ta, .ref ra, .int wet, .int less, .ref px, .ref py, .int pn, .ref qx, .ref qy, .int qn, .ref ml]))]) [0] rfl⟩⟩ rfl rfl hl.1 rfl (lv_room (Nat.le_of_ble_eq_true rfl)) dL_thick_5 ⟨Nat.le_of_ble_eq_true rfl, Nat.le_of_ble_eq_true rfl⟩) hown htab rfl (by decide) (hts _ xk_283) (va_Nw.use rfl (xa_cst E hAt xk_293)) (fun q9 H hz9 hk9 => ?_)
    have hP := xw_P hP hk9
    have hS := xw_S hS hz9 hk9
    refine W.widen (k := 1) (n := 6) (by omega) (by omega) ?_
    refine lv_astore (lv' := [(4, .ref q9), (0, .ref h0), (1, .int kind), (2, .int tk), (3, .ref oa)]) hx hb dL_thick_20 hl (by decide) rfl (fun ls hl => ?_)
    refine lv_iconst (v := 1) hx hb dL_thick_22 (by decide) ?_
    have e_0 : gL_thick rf kind tk of = (1 : Int32) := (if_pos c_1).trans (rfl)
    have e_1 : gL_thick_f rf kind tk of = of := (if_pos c_1).trans (rfl)
    have hP9 := hP.sub (ws' := [(h0, .inr (0, [.ref ta, .ref ra, .int wet, .int less, .ref px, .ref py, .int pn, .ref qx, .ref qy, .int qn, .ref ml])), (ra, .inl (cI, 28, .inl rf)), (oa, .inl (cL, 1, .inr (.inl of)))]) [0, 1, 2] rfl
    have hD9 := hD.sub (ws' := [(h0, .inr (0, [.ref ta, .ref ra, .int wet, .int less, .ref px, .ref py, .int pn, .ref qx, .ref qy, .int qn, .ref ml])), (ra, .inl (cI, 28, .inl rf)), (oa, .inl (cL, 1, .inr (.inl of)))]) [0, 1, 2] (by decide) rfl
    refine W.widen (k := 1) (n := 6) (by omega) (by omega) ?_
    exact W.iret (v := 1) hx hb hr (fun t ht hW => ⟨_, _, rfl, ⟨by rw [e_0]; try rfl, by rw [e_1]⟩, by rw [ht]; exact hP9, hD9, hS.F ht⟩) hS.2.2 dL_thick_23
  by_cases c_2 : ¬ 0 ≤ tk
  · obtain ⟨c9, hc9, hno9⟩ := xc_nc_IA_IO E hAt
    refine xw_c2 (xt_runV (Cr := "NailRules") (As := [.int kind, .int tk]) (rest := [.int 0, .ref oa]) ⟨hx, hb, hml, hown, hts⟩ (cN_thick_x2 l E h0 ([.ref ta, .ref ra, .int wet, .int less, .ref px, .ref py, .int pn, .ref qx, .ref qy, .int qn, .ref ml]) kind tk (xh_1 c_1) (xh_2 c_1) (c_2)) (cwV 2 hts (xb_gi (List.forall_mem_cons.mpr ⟨xk_626, List.forall_mem_cons.mpr ⟨xk_627, List.forall_mem_cons.mpr ⟨xk_628, List.forall_mem_cons.mpr ⟨xk_40, List.forall_mem_cons.mpr ⟨xk_629, fun _ h => absurd h List.not_mem_nil⟩⟩⟩⟩⟩)) rfl rfl rfl (by decide +kernel) ⟨Nat.le_of_ble_eq_true rfl, Nat.le_of_ble_eq_true rfl⟩) ⟨fun _ _ _ _ q => q, va_recv hK hP (ci := 0) (q0 := 0) rfl rfl, fun U hU hW => ⟨rfl, xb_atS hAt hS hA0 hU hW, by rw [hU]; exact hP.sub (ws' := [(h0, .inr (0, [.ref ta, .ref ra, .int wet, .int less, .ref px, .ref py, .int pn, .ref qx, .ref qy, .int qn, .ref ml]))]) [0] rfl⟩⟩ rfl rfl hl.1 rfl (lv_room (Nat.le_of_ble_eq_true rfl)) dL_thick_5 ⟨Nat.le_of_ble_eq_true rfl, Nat.le_of_ble_eq_true rfl⟩) hown htab rfl (by decide) rfl (by decide) (hts _ xk_283) (hts _ xk_365) hc9 hno9 (va_Nw.use rfl (xa_cst E hAt xk_376)) (fun q9 H hz9 hk9 => ?_)
    have hP := xw_P hP hk9
    have hS := xw_S hS hz9 hk9
    refine W.widen (k := 1) (n := 6) (by omega) (by omega) ?_
    refine lv_astore (lv' := [(4, .ref q9), (0, .ref h0), (1, .int kind), (2, .int tk), (3, .ref oa)]) hx hb dL_thick_24 hl (by decide) rfl (fun ls hl => ?_)
    refine lv_iconst (v := 2) hx hb dL_thick_26 (by decide) ?_
    have e_0 : gL_thick rf kind tk of = (2 : Int32) := (if_neg c_1).trans ((if_pos c_2).trans (rfl))
    have e_1 : gL_thick_f rf kind tk of = of := (if_neg c_1).trans ((if_pos c_2).trans (rfl))
    have hP9 := hP.sub (ws' := [(h0, .inr (0, [.ref ta, .ref ra, .int wet, .int less, .ref px, .ref py, .int pn, .ref qx, .ref qy, .int qn, .ref ml])), (ra, .inl (cI, 28, .inl rf)), (oa, .inl (cL, 1, .inr (.inl of)))]) [0, 1, 2] rfl
    have hD9 := hD.sub (ws' := [(h0, .inr (0, [.ref ta, .ref ra, .int wet, .int less, .ref px, .ref py, .int pn, .ref qx, .ref qy, .int qn, .ref ml])), (ra, .inl (cI, 28, .inl rf)), (oa, .inl (cL, 1, .inr (.inl of)))]) [0, 1, 2] (by decide) rfl
    refine W.widen (k := 1) (n := 6) (by omega) (by omega) ?_
    exact W.iret (v := 2) hx hb hr (fun t ht hW => ⟨_, _, rfl, ⟨by rw [e_0]; try rfl, by rw [e_1]⟩, by rw [ht]; exact hP9, hD9, hS.F ht⟩) hS.2.2 dL_thick_27
  refine xb_rd (W.runV (C := "NailRules") (As := [.int kind, .int tk]) (rest := [.int 0, .ref oa]) ⟨hx, hb, hml, hown, hts⟩ (cN_thick l E h0 ([.ref ta, .ref ra, .int wet, .int less, .ref px, .ref py, .int pn, .ref qx, .ref qy, .int qn, .ref ml]) ra rf kind tk rfl (xh_1 c_1) (xh_2 c_1) (Decidable.not_not.mp c_2) (xh_v c_1 0 (by decide)) (xh_v c_1 6 (by decide))) (cwV 2 hts (xb_gi (List.forall_mem_cons.mpr ⟨xk_626, List.forall_mem_cons.mpr ⟨xk_627, List.forall_mem_cons.mpr ⟨xk_628, List.forall_mem_cons.mpr ⟨xk_40, List.forall_mem_cons.mpr ⟨xk_629, fun _ h => absurd h List.not_mem_nil⟩⟩⟩⟩⟩)) rfl rfl rfl (by decide +kernel) ⟨Nat.le_of_ble_eq_true rfl, Nat.le_of_ble_eq_true rfl⟩) ⟨fun _ _ _ _ q => q, va_recv hK hP (ci := 0) (q0 := 0) rfl rfl, fun U hU hW => ⟨rfl, xb_atS hAt hS hA0 hU hW, by rw [hU]; exact hP.sub (ws' := [(h0, .inr (0, [.ref ta, .ref ra, .int wet, .int less, .ref px, .ref py, .int pn, .ref qx, .ref qy, .int qn, .ref ml])), (ra, .inl (cI, 28, .inl rf))]) [0, 1] rfl⟩⟩ rfl rfl hl.1 rfl (lv_room (Nat.le_of_ble_eq_true rfl)) dL_thick_5 ⟨Nat.zero_le _, Nat.zero_le _⟩) ?_
  refine lv_if_eq (tgt := 15) hx hb dL_thick_8 (by decide) (fun c_3 => ?_) (fun c_3 => ?_)
  · have c_3 := xb_bi_f.mp c_3
    refine lv_lconst (v := 0) hx hb dL_thick_15 (by decide) ?_
    have o_4 : vp_in (0 : Int32) 1 := by unfold vp_in; decide
    refine va_last hx hb hK hP hD hS 2 2 rfl rfl o_4 dL_thick_16 (fun H locs hP hD hS => ?_)
    have hP : va_P (dC, dI) classes [(h0, .inr (0, [.ref ta, .ref ra, .int wet, .int less, .ref px, .ref py, .int pn, .ref qx, .ref qy, .int qn, .ref ml])), (ra, .inl (cI, 28, .inl rf)), (oa, .inl (cL, 1, .inr (.inl (vp_updL of (0 : Int32).toNatClampNeg 0))))] H := hP
    have hD : va_D A [(h0, .inr (0, [.ref ta, .ref ra, .int wet, .int less, .ref px, .ref py, .int pn, .ref qx, .ref qy, .int qn, .ref ml])), (ra, .inl (cI, 28, .inl rf)), (oa, .inl (cL, 1, .inr (.inl (vp_updL of (0 : Int32).toNatClampNeg 0))))] := hD
    refine lv_goto (tgt := 28) hx hb dL_thick_17 (by decide) ?_
    refine lv_iconst (v := 0) hx hb dL_thick_28 (by decide) ?_
    have e_0 : gL_thick rf kind tk of = (0 : Int32) := (if_neg c_1).trans ((if_neg c_2).trans ((if_neg c_3).trans (rfl)))
    have e_1 : gL_thick_f rf kind tk of = (vp_updL of (0 : Int32).toNatClampNeg 0) := (if_neg c_1).trans ((if_neg c_2).trans ((if_neg c_3).trans (rfl)))
    have hP9 := hP.sub (ws' := [(h0, .inr (0, [.ref ta, .ref ra, .int wet, .int less, .ref px, .ref py, .int pn, .ref qx, .ref qy, .int qn, .ref ml])), (ra, .inl (cI, 28, .inl rf)), (oa, .inl (cL, 1, .inr (.inl (vp_updL of (0 : Int32).toNatClampNeg 0))))]) [0, 1, 2] rfl
    have hD9 := hD.sub (ws' := [(h0, .inr (0, [.ref ta, .ref ra, .int wet, .int less, .ref px, .ref py, .int pn, .ref qx, .ref qy, .int qn, .ref ml])), (ra, .inl (cI, 28, .inl rf)), (oa, .inl (cL, 1, .inr (.inl (vp_updL of (0 : Int32).toNatClampNeg 0))))]) [0, 1, 2] (by decide) rfl
    refine W.widen (k := 1) (n := 6) (by omega) (by omega) ?_
    exact W.iret (v := 0) hx hb hr (fun t ht hW => ⟨_, _, rfl, ⟨by rw [e_0]; try rfl, by rw [e_1]⟩, by rw [ht]; exact hP9, hD9, hS.F ht⟩) hS.2.2 dL_thick_29
  · have c_3 := xb_bi_t.mp c_3
    refine lv_lconst (v := 1) hx hb dL_thick_11 (by decide) ?_
    refine lv_goto (tgt := 16) hx hb dL_thick_12 (by decide) ?_
    have o_5 : vp_in (0 : Int32) 1 := by unfold vp_in; decide
    refine va_last hx hb hK hP hD hS 2 2 rfl rfl o_5 dL_thick_16 (fun H locs hP hD hS => ?_)
    have hP : va_P (dC, dI) classes [(h0, .inr (0, [.ref ta, .ref ra, .int wet, .int less, .ref px, .ref py, .int pn, .ref qx, .ref qy, .int qn, .ref ml])), (ra, .inl (cI, 28, .inl rf)), (oa, .inl (cL, 1, .inr (.inl (vp_updL of (0 : Int32).toNatClampNeg 1))))] H := hP
    have hD : va_D A [(h0, .inr (0, [.ref ta, .ref ra, .int wet, .int less, .ref px, .ref py, .int pn, .ref qx, .ref qy, .int qn, .ref ml])), (ra, .inl (cI, 28, .inl rf)), (oa, .inl (cL, 1, .inr (.inl (vp_updL of (0 : Int32).toNatClampNeg 1))))] := hD
    refine lv_goto (tgt := 28) hx hb dL_thick_17 (by decide) ?_
    refine lv_iconst (v := 0) hx hb dL_thick_28 (by decide) ?_
    have e_0 : gL_thick rf kind tk of = (0 : Int32) := (if_neg c_1).trans ((if_neg c_2).trans ((if_pos c_3).trans (rfl)))
    have e_1 : gL_thick_f rf kind tk of = (vp_updL of (0 : Int32).toNatClampNeg 1) := (if_neg c_1).trans ((if_neg c_2).trans ((if_pos c_3).trans (rfl)))
    have hP9 := hP.sub (ws' := [(h0, .inr (0, [.ref ta, .ref ra, .int wet, .int less, .ref px, .ref py, .int pn, .ref qx, .ref qy, .int qn, .ref ml])), (ra, .inl (cI, 28, .inl rf)), (oa, .inl (cL, 1, .inr (.inl (vp_updL of (0 : Int32).toNatClampNeg 1))))]) [0, 1, 2] rfl
    have hD9 := hD.sub (ws' := [(h0, .inr (0, [.ref ta, .ref ra, .int wet, .int less, .ref px, .ref py, .int pn, .ref qx, .ref qy, .int qn, .ref ml])), (ra, .inl (cI, 28, .inl rf)), (oa, .inl (cL, 1, .inr (.inl (vp_updL of (0 : Int32).toNatClampNeg 1))))]) [0, 1, 2] (by decide) rfl
    refine W.widen (k := 1) (n := 6) (by omega) (by omega) ?_
    exact W.iret (v := 0) hx hb hr (fun t ht hW => ⟨_, _, rfl, ⟨by rw [e_0]; try rfl, by rw [e_1]⟩, by rw [ht]; exact hP9, hD9, hS.F ht⟩) hS.2.2 dL_thick_29

def gL_hole (rf : Nat → Int32) (kind : Int32) (of : Nat → Int64) : Int32 := if kind < 0 ∨ ¬ kind < 4 then ((1)) else ((0))
def gL_hole_f (rf : Nat → Int32) (kind : Int32) (of : Nat → Int64) : Nat → Int64 := if kind < 0 ∨ ¬ kind < 4 then (of) else (vp_updL of (0 : Int32).toNatClampNeg ((fN_hole rf kind).toInt64))
set_option maxHeartbeats 4000000 in
set_option maxRecDepth 100000 in
theorem cL_hole (l : Launch) {s0 : State} {dC : Nat → ClassId} {dI : Nat → Nat → Nat} {cI cC cL cO : ClassId} (E : xb_Env l s0 dC dI (xtys cI cC cL cO)) (sz : Nat) (h0 : Nat) (ra : Nat) (oa : Nat) (ta : Nat) (wet : Int32) (less : Int32) (px : Nat) (py : Nat) (pn : Int32) (qx : Nat) (qy : Nat) (qn : Int32) (ml : Nat) (rf : Nat → Int32) (of : Nat → Int64) (kind : Int32) : Met l yL_hole [.codeWith yL_hole bL_hole 4 (some (.int)) [(0, 9, 12, 13)]] ({ frames := 8, cells := 1, slots := 6, locals := 125 }) (va_Pc [.ref h0, .int kind, .ref oa] (fun U => xb_At s0 U ∧ U.heap.size = sz ∧ va_P (dC, dI) classes [(h0, .inr (0, [.ref ta, .ref ra, .int wet, .int less, .ref px, .ref py, .int pn, .ref qx, .ref qy, .int qn, .ref ml])), (ra, .inl (cI, 28, .inl rf)), (oa, .inl (cL, 1, .inr (.inl of)))] U.heap ∧ va_D (fun q => s0.heap.size ≤ q) [(h0, .inr (0, [.ref ta, .ref ra, .int wet, .int less, .ref px, .ref py, .int pn, .ref qx, .ref qy, .int qn, .ref ml])), (ra, .inl (cI, 28, .inl rf)), (oa, .inl (cL, 1, .inr (.inl of)))])) (xb_W (dC, dI) (fun v9 w9 => v9 = some (.int (gL_hole rf kind of)) ∧ w9 = [(h0, .inr (0, [.ref ta, .ref ra, .int wet, .int less, .ref px, .ref py, .int pn, .ref qx, .ref qy, .int qn, .ref ml])), (ra, .inl (cI, 28, .inl rf)), (oa, .inl (cL, 1, .inr (.inl (gL_hole_f rf kind of))))]) (va_A [(h0, .inr (0, [.ref ta, .ref ra, .int wet, .int less, .ref px, .ref py, .int pn, .ref qx, .ref qy, .int qn, .ref ml])), (ra, .inl (cI, 28, .inl rf)), (oa, .inl (cL, 1, .inr (.inl of)))] sz)) 1 6 (va_A [(h0, .inr (0, [.ref ta, .ref ra, .int wet, .int less, .ref px, .ref py, .int pn, .ref qx, .ref qy, .int qn, .ref ml])), (ra, .inl (cI, 28, .inl rf)), (oa, .inl (cL, 1, .inr (.inl of)))] sz) := by
  refine xw_ofW (cc := bL_hole) (maxL := 4) (ret := (some (.int))) (hs := [(0, 9, 12, 13)]) (by decide) rfl ?_
  intro p e s m args below meth c s₁ B hml htab hv
  obtain ⟨rfl, hAt, hsz, hP, hD0⟩ := hv
  have hx := B.exec
  have hb := B.bytes
  have hr := B.returns
  have hts := xb_hts E hAt ([.ref h0, .int kind, .ref oa] : List Value).toArray
  have hown : s.vm.findClass "NailRulesLaw" = some m.cls := findClass_of_methodNamed B.named
  have hlocks := B.notSynchronized
  have hK := xb_K E hAt
  subst hsz
  have hA0 := xb_A0 hAt hD0
  have hD := hD0.self (sz := s.heap.size)
  generalize hAe : va_A [(h0, .inr (0, [.ref ta, .ref ra, .int wet, .int less, .ref px, .ref py, .int pn, .ref qx, .ref qy, .int qn, .ref ml])), (ra, .inl (cI, 28, .inl rf)), (oa, .inl (cL, 1, .inr (.inl of)))] s.heap.size = A at hD hA0 ⊢
  have hA : ∀ q : Nat, s.heap.size ≤ q → A q := fun q h => by rw [← hAe]; exact Or.inr h
  have hS : va_S A s.heap s.heap [] := va_S.rf
  have hl := lv_entry ([.ref h0, .int kind, .ref oa]) (n := 4) (Nat.le_of_ble_eq_true rfl)
  rw [lg_entry_eq]
  generalize (lg_sl ([.ref h0, .int kind, .ref oa]) ++ List.replicate (4 - (lg_sl ([.ref h0, .int kind, .ref oa])).length) Slot.unset).toArray = ls at hl ⊢
  have hl : lv_has ls 4 [(0, .ref h0), (1, .int kind), (2, .ref oa)] := hl
  refine lv_aload_n hx hb dL_hole_0 rfl (lv_at hl 2 rfl) ?_
  refine lv_iconst (v := 0) hx hb dL_hole_1 (by decide) ?_
  refine lv_aload_n hx hb dL_hole_2 rfl (lv_at hl 0 rfl) ?_
  refine lv_iload_n hx hb dL_hole_3 rfl (lv_at hl 1 rfl) ?_
  by_cases c_1 : kind < 0 ∨ ¬ kind < 4
  · refine xw_c1 (xt_runV (Cr := "NailRules") (As := [.int kind]) (rest := [.int 0, .ref oa]) ⟨hx, hb, hml, hown, hts⟩ (cN_hole_x1 l E h0 ([.ref ta, .ref ra, .int wet, .int less, .ref px, .ref py, .int pn, .ref qx, .ref qy, .int qn, .ref ml]) kind (c_1)) (cwV 1 hts (xb_gi (List.forall_mem_cons.mpr ⟨xk_634, List.forall_mem_cons.mpr ⟨xk_635, List.forall_mem_cons.mpr ⟨xk_636, List.forall_mem_cons.mpr ⟨xk_40, List.forall_mem_cons.mpr ⟨xk_637, fun _ h => absurd h List.not_mem_nil⟩⟩⟩⟩⟩)) rfl rfl rfl (by decide +kernel) ⟨Nat.le_of_ble_eq_true rfl, Nat.le_of_ble_eq_true rfl⟩) ⟨fun _ _ _ _ q => q, va_recv hK hP (ci := 0) (q0 := 0) rfl rfl, fun U hU hW => ⟨rfl, xb_atS hAt hS hA0 hU hW, by rw [hU]; exact hP.sub (ws' := [(h0, .inr (0, [.ref ta, .ref ra, .int wet, .int less, .ref px, .ref py, .int pn, .ref qx, .ref qy, .int qn, .ref ml]))]) [0] rfl⟩⟩ rfl rfl hl.1 rfl (lv_room (Nat.le_of_ble_eq_true rfl)) dL_hole_4 ⟨Nat.le_of_ble_eq_true rfl, Nat.le_of_ble_eq_true rfl⟩) hown htab rfl (by decide) (hts _ xk_283) (va_Nw.use rfl (xa_cst E hAt xk_293)) (fun q9 H hz9 hk9 => ?_)
    have hP := xw_P hP hk9
    have hS := xw_S hS hz9 hk9
    refine W.widen (k := 1) (n := 6) (by omega) (by omega) ?_
    refine lv_astore_n (lv' := [(3, .ref q9), (0, .ref h0), (1, .int kind), (2, .ref oa)]) hx hb dL_hole_12 rfl hl (by decide) rfl (fun ls hl => ?_)
    refine lv_iconst (v := 1) hx hb dL_hole_13 (by decide) ?_
    have e_0 : gL_hole rf kind of = (1 : Int32) := (if_pos c_1).trans (rfl)
    have e_1 : gL_hole_f rf kind of = of := (if_pos c_1).trans (rfl)
    have hP9 := hP.sub (ws' := [(h0, .inr (0, [.ref ta, .ref ra, .int wet, .int less, .ref px, .ref py, .int pn, .ref qx, .ref qy, .int qn, .ref ml])), (ra, .inl (cI, 28, .inl rf)), (oa, .inl (cL, 1, .inr (.inl of)))]) [0, 1, 2] rfl
    have hD9 := hD.sub (ws' := [(h0, .inr (0, [.ref ta, .ref ra, .int wet, .int less, .ref px, .ref py, .int pn, .ref qx, .ref qy, .int qn, .ref ml])), (ra, .inl (cI, 28, .inl rf)), (oa, .inl (cL, 1, .inr (.inl of)))]) [0, 1, 2] (by decide) rfl
    refine W.widen (k := 1) (n := 6) (by omega) (by omega) ?_
    exact W.iret (v := 1) hx hb hr (fun t ht hW => ⟨_, _, rfl, ⟨by rw [e_0]; try rfl, by rw [e_1]⟩, by rw [ht]; exact hP9, hD9, hS.F ht⟩) hS.2.2 dL_hole_14
  refine xb_rd (W.runV (C := "NailRules") (As := [.int kind]) (rest := [.int 0, .ref oa]) ⟨hx, hb, hml, hown, hts⟩ (cN_hole l E h0 ([.ref ta, .ref ra, .int wet, .int less, .ref px, .ref py, .int pn, .ref qx, .ref qy, .int qn, .ref ml]) ra rf kind rfl (xh_1 c_1) (xh_2 c_1) (xh_v c_1 0 (by decide))) (cwV 1 hts (xb_gi (List.forall_mem_cons.mpr ⟨xk_634, List.forall_mem_cons.mpr ⟨xk_635, List.forall_mem_cons.mpr ⟨xk_636, List.forall_mem_cons.mpr ⟨xk_40, List.forall_mem_cons.mpr ⟨xk_637, fun _ h => absurd h List.not_mem_nil⟩⟩⟩⟩⟩)) rfl rfl rfl (by decide +kernel) ⟨Nat.le_of_ble_eq_true rfl, Nat.le_of_ble_eq_true rfl⟩) ⟨fun _ _ _ _ q => q, va_recv hK hP (ci := 0) (q0 := 0) rfl rfl, fun U hU hW => ⟨rfl, xb_atS hAt hS hA0 hU hW, by rw [hU]; exact hP.sub (ws' := [(h0, .inr (0, [.ref ta, .ref ra, .int wet, .int less, .ref px, .ref py, .int pn, .ref qx, .ref qy, .int qn, .ref ml])), (ra, .inl (cI, 28, .inl rf))]) [0, 1] rfl⟩⟩ rfl rfl hl.1 rfl (lv_room (Nat.le_of_ble_eq_true rfl)) dL_hole_4 ⟨Nat.zero_le _, Nat.zero_le _⟩) ?_
  refine lv_i2l hx hb dL_hole_7 rfl ?_
  have o_2 : vp_in (0 : Int32) 1 := by unfold vp_in; decide
  refine va_last hx hb hK hP hD hS 2 2 rfl rfl o_2 dL_hole_8 (fun H locs hP hD hS => ?_)
  have hP : va_P (dC, dI) classes [(h0, .inr (0, [.ref ta, .ref ra, .int wet, .int less, .ref px, .ref py, .int pn, .ref qx, .ref qy, .int qn, .ref ml])), (ra, .inl (cI, 28, .inl rf)), (oa, .inl (cL, 1, .inr (.inl (vp_updL of (0 : Int32).toNatClampNeg ((fN_hole rf kind).toInt64)))))] H := hP
  have hD : va_D A [(h0, .inr (0, [.ref ta, .ref ra, .int wet, .int less, .ref px, .ref py, .int pn, .ref qx, .ref qy, .int qn, .ref ml])), (ra, .inl (cI, 28, .inl rf)), (oa, .inl (cL, 1, .inr (.inl (vp_updL of (0 : Int32).toNatClampNeg ((fN_hole rf kind).toInt64)))))] := hD
  refine lv_goto (tgt := 15) hx hb dL_hole_9 (by decide) ?_
  refine lv_iconst (v := 0) hx hb dL_hole_15 (by decide) ?_
  have e_0 : gL_hole rf kind of = (0 : Int32) := (if_neg c_1).trans (rfl)
  have e_1 : gL_hole_f rf kind of = (vp_updL of (0 : Int32).toNatClampNeg ((fN_hole rf kind).toInt64)) := (if_neg c_1).trans (rfl)
  have hP9 := hP.sub (ws' := [(h0, .inr (0, [.ref ta, .ref ra, .int wet, .int less, .ref px, .ref py, .int pn, .ref qx, .ref qy, .int qn, .ref ml])), (ra, .inl (cI, 28, .inl rf)), (oa, .inl (cL, 1, .inr (.inl (vp_updL of (0 : Int32).toNatClampNeg ((fN_hole rf kind).toInt64)))))]) [0, 1, 2] rfl
  have hD9 := hD.sub (ws' := [(h0, .inr (0, [.ref ta, .ref ra, .int wet, .int less, .ref px, .ref py, .int pn, .ref qx, .ref qy, .int qn, .ref ml])), (ra, .inl (cI, 28, .inl rf)), (oa, .inl (cL, 1, .inr (.inl (vp_updL of (0 : Int32).toNatClampNeg ((fN_hole rf kind).toInt64)))))]) [0, 1, 2] (by decide) rfl
  refine W.widen (k := 1) (n := 6) (by omega) (by omega) ?_
  exact W.iret (v := 0) hx hb hr (fun t ht hW => ⟨_, _, rfl, ⟨by rw [e_0]; try rfl, by rw [e_1]⟩, by rw [ht]; exact hP9, hD9, hS.F ht⟩) hS.2.2 dL_hole_16
