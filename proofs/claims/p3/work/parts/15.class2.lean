def kN_firstNearPair_15a (xf : Nat → Int32) (yf : Nat → Int32) (qn : Int32) (apart : Int64) (wa1 : Int32) (K_2 : (Int32 → Int32)) : Nat → Int32 → Int32
  | 0, _ => default
  | n_15 + 1, wb => if qn ≤ wb then (K_2 (wa1 + 1)) else (if (apart * apart) ≤ (fN_squareBetween xf yf wa1 wb) then (kN_firstNearPair_15a xf yf qn apart wa1 K_2 n_15 (wb + 1)) else ((wa1 * 32) + wb))
def kN_firstNearPair_2a (xf : Nat → Int32) (yf : Nat → Int32) (qn : Int32) (apart : Int64) : Nat → Int32 → Int32
  | 0, _ => default
  | n_2 + 1, wa1 => if qn ≤ wa1 then ((-1)) else (kN_firstNearPair_15a xf yf qn apart wa1 (fun wa1 => kN_firstNearPair_2a xf yf qn apart n_2 wa1) (wa_fuel wa1) (wa1 + 1))
def fN_firstNearPair (xf : Nat → Int32) (yf : Nat → Int32) (qn : Int32) (apart : Int64) : Int32 := kN_firstNearPair_2a xf yf qn apart 33 (0)
set_option maxHeartbeats 4000000 in
set_option maxRecDepth 100000 in
theorem cN_firstNearPair (l : Launch) {s0 : State} {dC : Nat → ClassId} {dI : Nat → Nat → Nat} {cI cC cL cO : ClassId} (E : xb_Env l s0 dC dI (xtys cI cC cL cO)) (h0 : Nat) (fs : List Value) (qx : Nat) (xf : Nat → Int32) (qy : Nat) (yf : Nat → Int32) (qn : Int32) (apart : Int64) (hf7 : fs[7]? = some (.ref qx)) (hf8 : fs[8]? = some (.ref qy)) (hf9 : fs[9]? = some (.int qn)) (hq : qn ≤ 32) : Met l yN_firstNearPair [.code yN_firstNearPair bN_firstNearPair 5 (some (.int))] ({ frames := 1, cells := 0, slots := 0, locals := 26 }) (va_Pc [.ref h0, .long apart] (fun U => xb_At s0 U ∧ va_P (dC, dI) classes [(h0, .inr (0, fs)), (qx, .inl (cI, 32, .inl xf)), (qy, .inl (cI, 32, .inl yf))] U.heap)) (xb_R (some (.int (fN_firstNearPair xf yf qn apart)))) 0 0 (fun _ => False) := by
  refine Met.ofW (cc := bN_firstNearPair) (maxL := 5) (ret := (some (.int))) (by decide) rfl ?_
  intro p e s m args below meth c s₁ B hml hv
  obtain ⟨rfl, hAt, hP⟩ := hv
  have hx := B.exec
  have hb := B.bytes
  have hr := B.returns
  have hts := xb_hts E hAt ([.ref h0, .long apart] : List Value).toArray
  have hown : s.vm.findClass "NailRules" = some m.cls := findClass_of_methodNamed B.named
  have hlocks := B.notSynchronized
  have hK := xb_K E hAt
  have hl := lv_entry ([.ref h0, .long apart]) (n := 5) (Nat.le_of_ble_eq_true rfl)
  rw [lg_entry_eq]
  generalize (lg_sl ([.ref h0, .long apart]) ++ List.replicate (5 - (lg_sl ([.ref h0, .long apart])).length) Slot.unset).toArray = ls at hl ⊢
  have hl : lv_has ls 5 [(0, .ref h0), (1, .long apart)] := hl
  refine lv_iconst (v := 0) hx hb dN_firstNearPair_0 (by decide) ?_
  refine lv_istore_n (lv' := [(3, .int 0), (0, .ref h0), (1, .long apart)]) hx hb dN_firstNearPair_1 rfl hl (by decide) rfl (fun ls hl => ?_)
  have lp_2 : ∀ (n_2 : Nat) (wa1 : Int32), (xl_c 0 32 n_2 wa1) → fN_firstNearPair xf yf qn apart = kN_firstNearPair_2a xf yf qn apart n_2 wa1 → ∀ ls : Array Slot, lv_has ls 5 [(3, .int wa1), (0, .ref h0), (1, .long apart)] → W p l e (headSpec [.code yN_firstNearPair bN_firstNearPair 5 (some (.int))] ({ frames := 1, cells := 0, slots := 0, locals := 26 })).room s m ([.ref h0, .long apart] : List Value).toArray below meth c s.heap [] 0 0 (MQ below (xb_R (some (.int (fN_firstNearPair xf yf qn apart)))) ([.ref h0, .long apart] : List Value).toArray s 0 0 (fun _ => False)) (F0 m 2 ls []) := by
    intro n_2
    induction n_2 with
    | zero =>
      intro wa1 hinv_2
      exact xl_0 hinv_2
    | succ n_2 ih_2 =>
      intro wa1 hinv_2 hres_2 ls hl
      refine lv_iload_n hx hb dN_firstNearPair_2 rfl (lv_at hl 0 rfl) ?_
      refine lv_aload_n hx hb dN_firstNearPair_3 rfl (lv_at hl 1 rfl) ?_
      refine va_get (D := (dC, dI)) (ci := 0) (v := .int qn) (C := xR_N) (T := xF_N) (N := 11) hx hb hts xi_N hown hK hP 0 rfl rfl 9 (by decide) (hts _ xk_123) (fun _ h9 => h9) hf9 dN_firstNearPair_4 ?_
      refine lv_icmp_ge (tgt := 58) hx hb dN_firstNearPair_7 (by decide) (fun c_1 => ?_) (fun c_1 => ?_)
      · refine lv_iconst (v := (-1)) hx hb dN_firstNearPair_58 (by decide) ?_
        have e_f : fN_firstNearPair xf yf qn apart = (-1) := hres_2.trans ((if_pos c_1).trans (rfl))
        exact W.iret (v := (-1)) hx hb hr (fun t ht hW => ⟨by rw [e_f], ht⟩) (fun _ h => by cases h) dN_firstNearPair_59
      · refine lv_iload_n hx hb dN_firstNearPair_10 rfl (lv_at hl 0 rfl) ?_
        refine lv_iconst (v := 1) hx hb dN_firstNearPair_11 (by decide) ?_
        refine lv_iadd hx hb dN_firstNearPair_12 ?_
        refine lv_istore (lv' := [(4, .int (wa1 + 1)), (3, .int wa1), (0, .ref h0), (1, .long apart)]) hx hb dN_firstNearPair_13 hl (by decide) rfl (fun ls hl => ?_)
        have lp_15 : ∀ (n_15 : Nat) (wb : Int32), (xl_c 1 32 n_15 wb) → fN_firstNearPair xf yf qn apart = kN_firstNearPair_15a xf yf qn apart wa1 (fun wa1 => kN_firstNearPair_2a xf yf qn apart n_2 wa1) n_15 wb → ∀ ls : Array Slot, lv_has ls 5 [(4, .int wb), (3, .int wa1), (0, .ref h0), (1, .long apart)] → W p l e (headSpec [.code yN_firstNearPair bN_firstNearPair 5 (some (.int))] ({ frames := 1, cells := 0, slots := 0, locals := 26 })).room s m ([.ref h0, .long apart] : List Value).toArray below meth c s.heap [] 0 0 (MQ below (xb_R (some (.int (fN_firstNearPair xf yf qn apart)))) ([.ref h0, .long apart] : List Value).toArray s 0 0 (fun _ => False)) (F0 m 15 ls []) := by
          intro n_15
          induction n_15 with
          | zero =>
            intro wb hinv_15
            exact xl_0 hinv_15
          | succ n_15 ih_15 =>
            intro wb hinv_15 hres_15 ls hl
            refine lv_iload hx hb dN_firstNearPair_15 (lv_at hl 0 rfl) ?_
            refine lv_aload_n hx hb dN_firstNearPair_17 rfl (lv_at hl 2 rfl) ?_
            refine va_get (D := (dC, dI)) (ci := 0) (v := .int qn) (C := xR_N) (T := xF_N) (N := 11) hx hb hts xi_N hown hK hP 0 rfl rfl 9 (by decide) (hts _ xk_123) (fun _ h9 => h9) hf9 dN_firstNearPair_18 ?_
            refine lv_icmp_ge (tgt := 52) hx hb dN_firstNearPair_21 (by decide) (fun c_3 => ?_) (fun c_3 => ?_)
            · refine lv_iinc (v := wa1 + 1) (lv' := [(3, .int (wa1 + 1)), (4, .int wb), (0, .ref h0), (1, .long apart)]) hx hb dN_firstNearPair_52 hl (k := 1) rfl rfl (by decide) rfl (fun ls hl => ?_)
              refine lv_goto (tgt := 2) hx hb dN_firstNearPair_55 (by decide) ?_
              have v_inv : xl_c 0 32 n_2 (wa1 + 1) := xl_s3 hinv_2 (by decide) hq (by decide) c_1
              have v_res : fN_firstNearPair xf yf qn apart = kN_firstNearPair_2a xf yf qn apart n_2 (wa1 + 1) := hres_15.trans ((if_pos c_3).trans (rfl))
              exact ih_2 (wa1 + 1) v_inv v_res ls (lv_sub hl [0, 2, 3] rfl)
            · refine lv_aload_n hx hb dN_firstNearPair_24 rfl (lv_at hl 2 rfl) ?_
              refine lv_iload_n hx hb dN_firstNearPair_25 rfl (lv_at hl 1 rfl) ?_
              refine lv_iload hx hb dN_firstNearPair_26 (lv_at hl 0 rfl) ?_
              refine xb_rd (W.runV (C := "NailRules") (As := [.int wa1, .int wb]) (rest := []) ⟨hx, hb, hml, hown, hts⟩ (cN_squareBetween l E h0 fs qx xf qy yf wa1 wb hf7 hf8 (xl_in hinv_2 (by decide) hq (by decide) c_1) (xl_in hinv_15 (by decide) hq (by decide) c_3)) (cwV 2 hts (xb_gi (List.forall_mem_cons.mpr ⟨xk_499, List.forall_mem_cons.mpr ⟨xk_501, List.forall_mem_cons.mpr ⟨xk_22, List.forall_mem_cons.mpr ⟨xk_40, List.forall_mem_cons.mpr ⟨xk_502, fun _ h => absurd h List.not_mem_nil⟩⟩⟩⟩⟩)) rfl rfl rfl (by decide +kernel) ⟨Nat.le_of_ble_eq_true rfl, Nat.le_of_ble_eq_true rfl⟩) ⟨fun _ _ _ _ q => q, va_recv hK hP (ci := 0) (q0 := 0) rfl rfl, fun U hU hW => ⟨rfl, xb_at0 hAt hU hW, by rw [hU]; exact hP.sub (ws' := [(h0, .inr (0, fs)), (qx, .inl (cI, 32, .inl xf)), (qy, .inl (cI, 32, .inl yf))]) [0, 1, 2] rfl⟩⟩ rfl rfl hl.1 rfl (lv_room (Nat.le_of_ble_eq_true rfl)) dN_firstNearPair_28 ⟨Nat.zero_le _, Nat.zero_le _⟩) ?_
              refine lv_lload_n hx hb dN_firstNearPair_31 rfl (lv_at hl 3 rfl) ?_
              refine lv_lload_n hx hb dN_firstNearPair_32 rfl (lv_at hl 3 rfl) ?_
              refine lv_lmul hx hb dN_firstNearPair_33 ?_
              refine W.lcmp hx hb dN_firstNearPair_34 ?_
              refine lv_if_ge (tgt := 46) hx hb dN_firstNearPair_35 (by decide) (fun c_4 => ?_) (fun c_4 => ?_)
              · have c_4 := (lg_cmp_ge _ _).mp c_4
                refine lv_iinc (v := wb + 1) (lv' := [(4, .int (wb + 1)), (3, .int wa1), (0, .ref h0), (1, .long apart)]) hx hb dN_firstNearPair_46 hl (k := 0) rfl rfl (by decide) rfl (fun ls hl => ?_)
                refine lv_goto (tgt := 15) hx hb dN_firstNearPair_49 (by decide) ?_
                have v_inv : xl_c 1 32 n_15 (wb + 1) := xl_s3 hinv_15 (by decide) hq (by decide) c_3
                have v_res : fN_firstNearPair xf yf qn apart = kN_firstNearPair_15a xf yf qn apart wa1 (fun wa1 => kN_firstNearPair_2a xf yf qn apart n_2 wa1) n_15 (wb + 1) := hres_15.trans ((if_neg c_3).trans ((if_pos c_4).trans (rfl)))
                exact ih_15 (wb + 1) v_inv v_res ls (lv_sub hl [0, 1, 2, 3] rfl)
              · have c_4 := fun q => c_4 ((lg_cmp_ge _ _).mpr q)
                refine lv_iload_n hx hb dN_firstNearPair_38 rfl (lv_at hl 1 rfl) ?_
                refine lv_bipush (v := 32) hx hb dN_firstNearPair_39 (by decide) ?_
                refine lv_imul hx hb dN_firstNearPair_41 ?_
                refine lv_iload hx hb dN_firstNearPair_42 (lv_at hl 0 rfl) ?_
                refine lv_iadd hx hb dN_firstNearPair_44 ?_
                have e_f : fN_firstNearPair xf yf qn apart = (wa1 * 32) + wb := hres_15.trans ((if_neg c_3).trans ((if_neg c_4).trans (rfl)))
                exact W.iret (v := ((wa1 * 32) + wb)) hx hb hr (fun t ht hW => ⟨by rw [e_f], ht⟩) (fun _ h => by cases h) dN_firstNearPair_45
        have v_inv : xl_c 1 32 (wa_fuel wa1) (wa1 + 1) := xl_next hinv_2 hq c_1
        have v_res : fN_firstNearPair xf yf qn apart = kN_firstNearPair_15a xf yf qn apart wa1 (fun wa1 => kN_firstNearPair_2a xf yf qn apart n_2 wa1) (wa_fuel wa1) (wa1 + 1) := hres_2.trans ((if_neg c_1).trans (rfl))
        exact lp_15 (wa_fuel wa1) (wa1 + 1) v_inv v_res ls (lv_sub hl [0, 1, 2, 3] rfl)
  have v_inv : xl_c 0 32 33 (0 : Int32) := ⟨0, rfl, by omega, by omega, by omega⟩
  have v_res : fN_firstNearPair xf yf qn apart = kN_firstNearPair_2a xf yf qn apart 33 (0) := rfl
  exact lp_2 33 (0) v_inv v_res ls (lv_sub hl [0, 1, 2] rfl)

def fN_holds (rf : Nat → Int32) (wet : Int32) (kind : Int32) (a : Int32) (b : Int32) (angle : Int32) (part : Int32) : Int64 := if part = 1 then ((fN_leastFormula rf kind a b).toInt64) else (((((fN_formula rf (fN_leastFormula rf kind a b) kind a b) * ((200 - angle).toInt64)) / 200) * wet.toInt64) / 100)
set_option maxHeartbeats 4000000 in
set_option maxRecDepth 100000 in
theorem cN_holds (l : Launch) {s0 : State} {dC : Nat → ClassId} {dI : Nat → Nat → Nat} {cI cC cL cO : ClassId} (E : xb_Env l s0 dC dI (xtys cI cC cL cO)) (h0 : Nat) (fs : List Value) (ra : Nat) (rf : Nat → Int32) (wet : Int32) (kind : Int32) (a : Int32) (b : Int32) (angle : Int32) (part : Int32) (hf1 : fs[1]? = some (.ref ra)) (hf2 : fs[2]? = some (.int wet)) (k1 : ¬ kind < 0) (k2 : kind < 4) (p1 : ¬ part < 0) (p2 : part < 2) (a1 : ¬ a.toInt64 < 1) (a2 : a.toInt64 ≤ 1000) (b1 : ¬ b.toInt64 < 1) (b2 : b.toInt64 ≤ 1000) (g1 : ¬ angle.toInt64 < 0) (g2 : angle.toInt64 ≤ 90) (hz : vp_in (kind * 7 + 0) 28) (ho : vp_in (kind * 7 + 1) 28) : Met l yN_holds [.code yN_holds bN_holds 9 (some (.long))] ({ frames := 3, cells := 0, slots := 0, locals := 75 }) (va_Pc [.ref h0, .int kind, .int a, .int b, .int angle, .int part] (fun U => xb_At s0 U ∧ va_P (dC, dI) classes [(h0, .inr (0, fs)), (ra, .inl (cI, 28, .inl rf))] U.heap)) (xb_R (some (.long (fN_holds rf wet kind a b angle part)))) 0 0 (fun _ => False) := by
  refine Met.ofW (cc := bN_holds) (maxL := 9) (ret := (some (.long))) (by decide) rfl ?_
  intro p e s m args below meth c s₁ B hml hv
  obtain ⟨rfl, hAt, hP⟩ := hv
  have hx := B.exec
  have hb := B.bytes
  have hr := B.returns
  have hts := xb_hts E hAt ([.ref h0, .int kind, .int a, .int b, .int angle, .int part] : List Value).toArray
  have hown : s.vm.findClass "NailRules" = some m.cls := findClass_of_methodNamed B.named
  have hlocks := B.notSynchronized
  have hK := xb_K E hAt
  have hl := lv_entry ([.ref h0, .int kind, .int a, .int b, .int angle, .int part]) (n := 9) (Nat.le_of_ble_eq_true rfl)
  rw [lg_entry_eq]
  generalize (lg_sl ([.ref h0, .int kind, .int a, .int b, .int angle, .int part]) ++ List.replicate (9 - (lg_sl ([.ref h0, .int kind, .int a, .int b, .int angle, .int part])).length) Slot.unset).toArray = ls at hl ⊢
  have hl : lv_has ls 9 [(0, .ref h0), (1, .int kind), (2, .int a), (3, .int b), (4, .int angle), (5, .int part)] := hl
  refine lv_iload_n hx hb dN_holds_0 rfl (lv_at hl 1 rfl) ?_
  refine lv_iconst (v := 4) hx hb dN_holds_1 (by decide) ?_
  refine xb_rd (W.runS (As := [.int kind, .int 4]) (rest := []) ⟨hx, hb, hml, hown, hts⟩ (cN_requireIndex l E kind 4 (k1) (k2)) (cwS 2 hts (xb_gi (List.forall_mem_cons.mpr ⟨xk_288, List.forall_mem_cons.mpr ⟨xk_289, List.forall_mem_cons.mpr ⟨xk_40, List.forall_mem_cons.mpr ⟨xk_290, fun _ h => absurd h List.not_mem_nil⟩⟩⟩⟩)) rfl rfl rfl (by decide +kernel) ⟨Nat.le_of_ble_eq_true rfl, Nat.le_of_ble_eq_true rfl⟩) ⟨fun _ _ _ _ q => q, fun U hU hW => ⟨rfl, xb_at0 hAt hU hW, fun k q h => by simp at h⟩⟩ rfl rfl hl.1 rfl (lv_room (Nat.le_of_ble_eq_true rfl)) dN_holds_2 ⟨Nat.zero_le _, Nat.zero_le _⟩) ?_
  refine lv_iload hx hb dN_holds_5 (lv_at hl 5 rfl) ?_
  refine lv_iconst (v := 2) hx hb dN_holds_7 (by decide) ?_
  refine xb_rd (W.runS (As := [.int part, .int 2]) (rest := []) ⟨hx, hb, hml, hown, hts⟩ (cN_requireIndex l E part 2 (p1) (p2)) (cwS 2 hts (xb_gi (List.forall_mem_cons.mpr ⟨xk_288, List.forall_mem_cons.mpr ⟨xk_289, List.forall_mem_cons.mpr ⟨xk_40, List.forall_mem_cons.mpr ⟨xk_290, fun _ h => absurd h List.not_mem_nil⟩⟩⟩⟩)) rfl rfl rfl (by decide +kernel) ⟨Nat.le_of_ble_eq_true rfl, Nat.le_of_ble_eq_true rfl⟩) ⟨fun _ _ _ _ q => q, fun U hU hW => ⟨rfl, xb_at0 hAt hU hW, fun k q h => by simp at h⟩⟩ rfl rfl hl.1 rfl (lv_room (Nat.le_of_ble_eq_true rfl)) dN_holds_8 ⟨Nat.zero_le _, Nat.zero_le _⟩) ?_
  refine lv_iload_n hx hb dN_holds_11 rfl (lv_at hl 2 rfl) ?_
  refine lv_i2l hx hb dN_holds_12 rfl ?_
  refine lv_lconst (v := 1) hx hb dN_holds_13 (by decide) ?_
  refine lv_ldc2 (v := 1000) hx hb hown (hts _ xk_397) dN_holds_14 ?_
  refine xb_rd (W.runS (As := [.long a.toInt64, .long 1, .long 1000]) (rest := []) ⟨hx, hb, hml, hown, hts⟩ (cN_requireWithin l E a.toInt64 1 1000 (a1) (a2)) (cwS 3 hts (xb_gi (List.forall_mem_cons.mpr ⟨xk_371, List.forall_mem_cons.mpr ⟨xk_372, List.forall_mem_cons.mpr ⟨xk_40, List.forall_mem_cons.mpr ⟨xk_373, fun _ h => absurd h List.not_mem_nil⟩⟩⟩⟩)) rfl rfl rfl (by decide +kernel) ⟨Nat.le_of_ble_eq_true rfl, Nat.le_of_ble_eq_true rfl⟩) ⟨fun _ _ _ _ q => q, fun U hU hW => ⟨rfl, xb_at0 hAt hU hW, fun k q h => by simp at h⟩⟩ rfl rfl hl.1 rfl (lv_room (Nat.le_of_ble_eq_true rfl)) dN_holds_17 ⟨Nat.zero_le _, Nat.zero_le _⟩) ?_
  refine lv_iload_n hx hb dN_holds_20 rfl (lv_at hl 3 rfl) ?_
  refine lv_i2l hx hb dN_holds_21 rfl ?_
  refine lv_lconst (v := 1) hx hb dN_holds_22 (by decide) ?_
  refine lv_ldc2 (v := 1000) hx hb hown (hts _ xk_397) dN_holds_23 ?_
  refine xb_rd (W.runS (As := [.long b.toInt64, .long 1, .long 1000]) (rest := []) ⟨hx, hb, hml, hown, hts⟩ (cN_requireWithin l E b.toInt64 1 1000 (b1) (b2)) (cwS 3 hts (xb_gi (List.forall_mem_cons.mpr ⟨xk_371, List.forall_mem_cons.mpr ⟨xk_372, List.forall_mem_cons.mpr ⟨xk_40, List.forall_mem_cons.mpr ⟨xk_373, fun _ h => absurd h List.not_mem_nil⟩⟩⟩⟩)) rfl rfl rfl (by decide +kernel) ⟨Nat.le_of_ble_eq_true rfl, Nat.le_of_ble_eq_true rfl⟩) ⟨fun _ _ _ _ q => q, fun U hU hW => ⟨rfl, xb_at0 hAt hU hW, fun k q h => by simp at h⟩⟩ rfl rfl hl.1 rfl (lv_room (Nat.le_of_ble_eq_true rfl)) dN_holds_26 ⟨Nat.zero_le _, Nat.zero_le _⟩) ?_
  refine lv_iload hx hb dN_holds_29 (lv_at hl 4 rfl) ?_
  refine lv_i2l hx hb dN_holds_31 rfl ?_
  refine lv_lconst (v := 0) hx hb dN_holds_32 (by decide) ?_
  refine lv_ldc2 (v := 90) hx hb hown (hts _ xk_398) dN_holds_33 ?_
  refine xb_rd (W.runS (As := [.long angle.toInt64, .long 0, .long 90]) (rest := []) ⟨hx, hb, hml, hown, hts⟩ (cN_requireWithin l E angle.toInt64 0 90 (g1) (g2)) (cwS 3 hts (xb_gi (List.forall_mem_cons.mpr ⟨xk_371, List.forall_mem_cons.mpr ⟨xk_372, List.forall_mem_cons.mpr ⟨xk_40, List.forall_mem_cons.mpr ⟨xk_373, fun _ h => absurd h List.not_mem_nil⟩⟩⟩⟩)) rfl rfl rfl (by decide +kernel) ⟨Nat.le_of_ble_eq_true rfl, Nat.le_of_ble_eq_true rfl⟩) ⟨fun _ _ _ _ q => q, fun U hU hW => ⟨rfl, xb_at0 hAt hU hW, fun k q h => by simp at h⟩⟩ rfl rfl hl.1 rfl (lv_room (Nat.le_of_ble_eq_true rfl)) dN_holds_36 ⟨Nat.zero_le _, Nat.zero_le _⟩) ?_
  refine lv_aload_n hx hb dN_holds_39 rfl (lv_at hl 0 rfl) ?_
  refine lv_iload_n hx hb dN_holds_40 rfl (lv_at hl 1 rfl) ?_
  refine lv_iload_n hx hb dN_holds_41 rfl (lv_at hl 2 rfl) ?_
  refine lv_iload_n hx hb dN_holds_42 rfl (lv_at hl 3 rfl) ?_
  refine xb_rd (W.runV (C := "NailRules") (As := [.int kind, .int a, .int b]) (rest := []) ⟨hx, hb, hml, hown, hts⟩ (cN_leastFormula l E h0 fs ra rf kind a b hf1 (hz) (ho)) (cwV 3 hts (xb_gi (List.forall_mem_cons.mpr ⟨xk_399, List.forall_mem_cons.mpr ⟨xk_401, List.forall_mem_cons.mpr ⟨xk_15, List.forall_mem_cons.mpr ⟨xk_40, List.forall_mem_cons.mpr ⟨xk_402, fun _ h => absurd h List.not_mem_nil⟩⟩⟩⟩⟩)) rfl rfl rfl (by decide +kernel) ⟨Nat.le_of_ble_eq_true rfl, Nat.le_of_ble_eq_true rfl⟩) ⟨fun _ _ _ _ q => q, va_recv hK hP (ci := 0) (q0 := 0) rfl rfl, fun U hU hW => ⟨rfl, xb_at0 hAt hU hW, by rw [hU]; exact hP.sub (ws' := [(h0, .inr (0, fs)), (ra, .inl (cI, 28, .inl rf))]) [0, 1] rfl⟩⟩ rfl rfl hl.1 rfl (lv_room (Nat.le_of_ble_eq_true rfl)) dN_holds_43 ⟨Nat.zero_le _, Nat.zero_le _⟩) ?_
  refine lv_istore (lv' := [(6, .int (fN_leastFormula rf kind a b)), (0, .ref h0), (1, .int kind), (2, .int a), (3, .int b), (4, .int angle), (5, .int part)]) hx hb dN_holds_46 hl (by decide) rfl (fun ls hl => ?_)
  refine lv_iload hx hb dN_holds_48 (lv_at hl 6 rfl) ?_
  refine lv_iconst (v := 1) hx hb dN_holds_50 (by decide) ?_
  refine lv_icmp_ne (tgt := 58) hx hb dN_holds_51 (by decide) (fun c_2 => ?_) (fun c_2 => ?_)
  · refine lv_aload_n hx hb dN_holds_58 rfl (lv_at hl 1 rfl) ?_
    refine lv_iload hx hb dN_holds_59 (lv_at hl 0 rfl) ?_
    refine lv_iload_n hx hb dN_holds_61 rfl (lv_at hl 2 rfl) ?_
    refine lv_iload_n hx hb dN_holds_62 rfl (lv_at hl 3 rfl) ?_
    refine lv_iload_n hx hb dN_holds_63 rfl (lv_at hl 4 rfl) ?_
    refine xb_rd (W.runV (C := "NailRules") (As := [.int (fN_leastFormula rf kind a b), .int kind, .int a, .int b]) (rest := []) ⟨hx, hb, hml, hown, hts⟩ (cN_formula l E h0 fs ra rf (fN_leastFormula rf kind a b) kind a b hf1 (hz) (ho)) (cwV 4 hts (xb_gi (List.forall_mem_cons.mpr ⟨xk_403, List.forall_mem_cons.mpr ⟨xk_405, List.forall_mem_cons.mpr ⟨xk_16, List.forall_mem_cons.mpr ⟨xk_40, List.forall_mem_cons.mpr ⟨xk_406, fun _ h => absurd h List.not_mem_nil⟩⟩⟩⟩⟩)) rfl rfl rfl (by decide +kernel) ⟨Nat.le_of_ble_eq_true rfl, Nat.le_of_ble_eq_true rfl⟩) ⟨fun _ _ _ _ q => q, va_recv hK hP (ci := 0) (q0 := 0) rfl rfl, fun U hU hW => ⟨rfl, xb_at0 hAt hU hW, by rw [hU]; exact hP.sub (ws' := [(h0, .inr (0, fs)), (ra, .inl (cI, 28, .inl rf))]) [0, 1] rfl⟩⟩ rfl rfl hl.1 rfl (lv_room (Nat.le_of_ble_eq_true rfl)) dN_holds_64 ⟨Nat.zero_le _, Nat.zero_le _⟩) ?_
    refine lv_sipush (v := 200) hx hb dN_holds_67 (by decide) ?_
    refine lv_iload hx hb dN_holds_70 (lv_at hl 5 rfl) ?_
    refine lv_isub hx hb dN_holds_72 ?_
    refine lv_i2l hx hb dN_holds_73 rfl ?_
    refine lv_lmul hx hb dN_holds_74 ?_
    refine lv_ldc2 (v := 200) hx hb hown (hts _ xk_409) dN_holds_75 ?_
    refine lv_ldiv hx hb dN_holds_78 (by decide) ?_
    refine lv_lstore (lv' := [(7, .long (((fN_formula rf (fN_leastFormula rf kind a b) kind a b) * ((200 - angle).toInt64)) / 200)), (6, .int (fN_leastFormula rf kind a b)), (0, .ref h0), (1, .int kind), (2, .int a), (3, .int b), (4, .int angle), (5, .int part)]) hx hb dN_holds_79 hl (by decide) rfl (fun ls hl => ?_)
    refine lv_lload hx hb dN_holds_81 (lv_at hl 0 rfl) ?_
    refine lv_aload_n hx hb dN_holds_83 rfl (lv_at hl 2 rfl) ?_
    refine va_get (D := (dC, dI)) (ci := 0) (v := .int wet) (C := xR_N) (T := xF_N) (N := 11) hx hb hts xi_N hown hK hP 0 rfl rfl 2 (by decide) (hts _ xk_116) (fun _ h9 => h9) hf2 dN_holds_84 ?_
    refine lv_i2l hx hb dN_holds_87 rfl ?_
    refine lv_lmul hx hb dN_holds_88 ?_
    refine lv_ldc2 (v := 100) hx hb hown (hts _ xk_370) dN_holds_89 ?_
    refine lv_ldiv hx hb dN_holds_92 (by decide) ?_
    have e_f : fN_holds rf wet kind a b angle part = ((((fN_formula rf (fN_leastFormula rf kind a b) kind a b) * ((200 - angle).toInt64)) / 200) * wet.toInt64) / 100 := (if_neg c_2).trans (rfl)
    exact W.lret (v := (((((fN_formula rf (fN_leastFormula rf kind a b) kind a b) * ((200 - angle).toInt64)) / 200) * wet.toInt64) / 100)) hx hb hr (fun t ht hW => ⟨by rw [e_f], ht⟩) (fun _ h => by cases h) dN_holds_93
  · refine lv_iload hx hb dN_holds_54 (lv_at hl 0 rfl) ?_
    refine lv_i2l hx hb dN_holds_56 rfl ?_
    have e_f : fN_holds rf wet kind a b angle part = (fN_leastFormula rf kind a b).toInt64 := (if_pos c_2).trans (rfl)
    exact W.lret (v := ((fN_leastFormula rf kind a b).toInt64)) hx hb hr (fun t ht hW => ⟨by rw [e_f], ht⟩) (fun _ h => by cases h) dN_holds_57

def fN_together (less : Int32) (n : Int32) (one : Int64) : Int64 := fN_heldByRow less n one
set_option maxHeartbeats 4000000 in
set_option maxRecDepth 100000 in
theorem cN_together (l : Launch) {s0 : State} {dC : Nat → ClassId} {dI : Nat → Nat → Nat} {cI cC cL cO : ClassId} (E : xb_Env l s0 dC dI (xtys cI cC cL cO)) (h0 : Nat) (fs : List Value) (less : Int32) (n : Int32) (one : Int64) (hf3 : fs[3]? = some (.int less)) (n1 : ¬ n.toInt64 < 0) (n2 : n.toInt64 ≤ 1000) (o1 : ¬ one < 0) (o2 : one ≤ 1000000000000) : Met l yN_together [.code yN_together bN_together 4 (some (.long))] ({ frames := 2, cells := 0, slots := 0, locals := 37 }) (va_Pc [.ref h0, .int n, .long one] (fun U => xb_At s0 U ∧ va_P (dC, dI) classes [(h0, .inr (0, fs))] U.heap)) (xb_R (some (.long (fN_together less n one)))) 0 0 (fun _ => False) := by
  refine Met.ofW (cc := bN_together) (maxL := 4) (ret := (some (.long))) (by decide) rfl ?_
  intro p e s m args below meth c s₁ B hml hv
  obtain ⟨rfl, hAt, hP⟩ := hv
  have hx := B.exec
  have hb := B.bytes
  have hr := B.returns
  have hts := xb_hts E hAt ([.ref h0, .int n, .long one] : List Value).toArray
  have hown : s.vm.findClass "NailRules" = some m.cls := findClass_of_methodNamed B.named
  have hlocks := B.notSynchronized
  have hK := xb_K E hAt
  have hl := lv_entry ([.ref h0, .int n, .long one]) (n := 4) (Nat.le_of_ble_eq_true rfl)
  rw [lg_entry_eq]
  generalize (lg_sl ([.ref h0, .int n, .long one]) ++ List.replicate (4 - (lg_sl ([.ref h0, .int n, .long one])).length) Slot.unset).toArray = ls at hl ⊢
  have hl : lv_has ls 4 [(0, .ref h0), (1, .int n), (2, .long one)] := hl
  refine lv_iload_n hx hb dN_together_0 rfl (lv_at hl 1 rfl) ?_
  refine lv_i2l hx hb dN_together_1 rfl ?_
  refine lv_lconst (v := 0) hx hb dN_together_2 (by decide) ?_
  refine lv_ldc2 (v := 1000) hx hb hown (hts _ xk_397) dN_together_3 ?_
  refine xb_rd (W.runS (As := [.long n.toInt64, .long 0, .long 1000]) (rest := []) ⟨hx, hb, hml, hown, hts⟩ (cN_requireWithin l E n.toInt64 0 1000 (n1) (n2)) (cwS 3 hts (xb_gi (List.forall_mem_cons.mpr ⟨xk_371, List.forall_mem_cons.mpr ⟨xk_372, List.forall_mem_cons.mpr ⟨xk_40, List.forall_mem_cons.mpr ⟨xk_373, fun _ h => absurd h List.not_mem_nil⟩⟩⟩⟩)) rfl rfl rfl (by decide +kernel) ⟨Nat.le_of_ble_eq_true rfl, Nat.le_of_ble_eq_true rfl⟩) ⟨fun _ _ _ _ q => q, fun U hU hW => ⟨rfl, xb_at0 hAt hU hW, fun k q h => by simp at h⟩⟩ rfl rfl hl.1 rfl (lv_room (Nat.le_of_ble_eq_true rfl)) dN_together_6 ⟨Nat.zero_le _, Nat.zero_le _⟩) ?_
  refine lv_lload_n hx hb dN_together_9 rfl (lv_at hl 2 rfl) ?_
  refine lv_lconst (v := 0) hx hb dN_together_10 (by decide) ?_
  refine lv_ldc2 (v := 1000000000000) hx hb hown (hts _ xk_417) dN_together_11 ?_
  refine xb_rd (W.runS (As := [.long one, .long 0, .long 1000000000000]) (rest := []) ⟨hx, hb, hml, hown, hts⟩ (cN_requireWithin l E one 0 1000000000000 (o1) (o2)) (cwS 3 hts (xb_gi (List.forall_mem_cons.mpr ⟨xk_371, List.forall_mem_cons.mpr ⟨xk_372, List.forall_mem_cons.mpr ⟨xk_40, List.forall_mem_cons.mpr ⟨xk_373, fun _ h => absurd h List.not_mem_nil⟩⟩⟩⟩)) rfl rfl rfl (by decide +kernel) ⟨Nat.le_of_ble_eq_true rfl, Nat.le_of_ble_eq_true rfl⟩) ⟨fun _ _ _ _ q => q, fun U hU hW => ⟨rfl, xb_at0 hAt hU hW, fun k q h => by simp at h⟩⟩ rfl rfl hl.1 rfl (lv_room (Nat.le_of_ble_eq_true rfl)) dN_together_14 ⟨Nat.zero_le _, Nat.zero_le _⟩) ?_
  refine lv_aload_n hx hb dN_together_17 rfl (lv_at hl 0 rfl) ?_
  refine lv_iload_n hx hb dN_together_18 rfl (lv_at hl 1 rfl) ?_
  refine lv_lload_n hx hb dN_together_19 rfl (lv_at hl 2 rfl) ?_
  refine xb_rd (W.runV (C := "NailRules") (As := [.int n, .long one]) (rest := []) ⟨hx, hb, hml, hown, hts⟩ (cN_heldByRow l E h0 fs less n one hf3) (cwV 2 hts (xb_gi (List.forall_mem_cons.mpr ⟨xk_418, List.forall_mem_cons.mpr ⟨xk_420, List.forall_mem_cons.mpr ⟨xk_17, List.forall_mem_cons.mpr ⟨xk_40, List.forall_mem_cons.mpr ⟨xk_421, fun _ h => absurd h List.not_mem_nil⟩⟩⟩⟩⟩)) rfl rfl rfl (by decide +kernel) ⟨Nat.le_of_ble_eq_true rfl, Nat.le_of_ble_eq_true rfl⟩) ⟨fun _ _ _ _ q => q, va_recv hK hP (ci := 0) (q0 := 0) rfl rfl, fun U hU hW => ⟨rfl, xb_at0 hAt hU hW, by rw [hU]; exact hP.sub (ws' := [(h0, .inr (0, fs))]) [0] rfl⟩⟩ rfl rfl hl.1 rfl (lv_room (Nat.le_of_ble_eq_true rfl)) dN_together_20 ⟨Nat.zero_le _, Nat.zero_le _⟩) ?_
  have e_f : fN_together less n one = fN_heldByRow less n one := rfl
  exact W.lret (v := (fN_heldByRow less n one)) hx hb hr (fun t ht hW => ⟨by rw [e_f], ht⟩) (fun _ h => by cases h) dN_together_23

def fN_hole (rf : Nat → Int32) (kind : Int32) : Int32 := if kind = 0 then (if (fN_told rf kind (0)) ≤ 50 then (0) else (((fN_told rf kind (0)) * 7) / 10)) else (if kind = 1 then (((fN_told rf kind (0)) * 7) / 10) else (if kind = 2 then ((fN_told rf kind (0)) + 10) else (fN_told rf kind (0))))
set_option maxHeartbeats 4000000 in
set_option maxRecDepth 100000 in
theorem cN_hole (l : Launch) {s0 : State} {dC : Nat → ClassId} {dI : Nat → Nat → Nat} {cI cC cL cO : ClassId} (E : xb_Env l s0 dC dI (xtys cI cC cL cO)) (h0 : Nat) (fs : List Value) (ra : Nat) (rf : Nat → Int32) (kind : Int32) (hf1 : fs[1]? = some (.ref ra)) (k1 : ¬ kind < 0) (k2 : kind < 4) (hz : vp_in (kind * 7 + 0) 28) : Met l yN_hole [.code yN_hole bN_hole 3 (some (.int))] ({ frames := 1, cells := 0, slots := 0, locals := 22 }) (va_Pc [.ref h0, .int kind] (fun U => xb_At s0 U ∧ va_P (dC, dI) classes [(h0, .inr (0, fs)), (ra, .inl (cI, 28, .inl rf))] U.heap)) (xb_R (some (.int (fN_hole rf kind)))) 0 0 (fun _ => False) := by
  refine Met.ofW (cc := bN_hole) (maxL := 3) (ret := (some (.int))) (by decide) rfl ?_
  intro p e s m args below meth c s₁ B hml hv
  obtain ⟨rfl, hAt, hP⟩ := hv
  have hx := B.exec
  have hb := B.bytes
  have hr := B.returns
  have hts := xb_hts E hAt ([.ref h0, .int kind] : List Value).toArray
  have hown : s.vm.findClass "NailRules" = some m.cls := findClass_of_methodNamed B.named
  have hlocks := B.notSynchronized
  have hK := xb_K E hAt
  have hl := lv_entry ([.ref h0, .int kind]) (n := 3) (Nat.le_of_ble_eq_true rfl)
  rw [lg_entry_eq]
  generalize (lg_sl ([.ref h0, .int kind]) ++ List.replicate (3 - (lg_sl ([.ref h0, .int kind])).length) Slot.unset).toArray = ls at hl ⊢
  have hl : lv_has ls 3 [(0, .ref h0), (1, .int kind)] := hl
  refine lv_iload_n hx hb dN_hole_0 rfl (lv_at hl 1 rfl) ?_
  refine lv_iconst (v := 4) hx hb dN_hole_1 (by decide) ?_
  refine xb_rd (W.runS (As := [.int kind, .int 4]) (rest := []) ⟨hx, hb, hml, hown, hts⟩ (cN_requireIndex l E kind 4 (k1) (k2)) (cwS 2 hts (xb_gi (List.forall_mem_cons.mpr ⟨xk_288, List.forall_mem_cons.mpr ⟨xk_289, List.forall_mem_cons.mpr ⟨xk_40, List.forall_mem_cons.mpr ⟨xk_290, fun _ h => absurd h List.not_mem_nil⟩⟩⟩⟩)) rfl rfl rfl (by decide +kernel) ⟨Nat.le_of_ble_eq_true rfl, Nat.le_of_ble_eq_true rfl⟩) ⟨fun _ _ _ _ q => q, fun U hU hW => ⟨rfl, xb_at0 hAt hU hW, fun k q h => by simp at h⟩⟩ rfl rfl hl.1 rfl (lv_room (Nat.le_of_ble_eq_true rfl)) dN_hole_2 ⟨Nat.zero_le _, Nat.zero_le _⟩) ?_
  refine lv_aload_n hx hb dN_hole_5 rfl (lv_at hl 0 rfl) ?_
  refine lv_iload_n hx hb dN_hole_6 rfl (lv_at hl 1 rfl) ?_
  refine lv_iconst (v := 0) hx hb dN_hole_7 (by decide) ?_
  refine xb_rd (W.runV (C := "NailRules") (As := [.int kind, .int 0]) (rest := []) ⟨hx, hb, hml, hown, hts⟩ (cN_told l E h0 fs ra rf kind 0 hf1 (hz)) (cwV 2 hts (xb_gi (List.forall_mem_cons.mpr ⟨xk_358, List.forall_mem_cons.mpr ⟨xk_360, List.forall_mem_cons.mpr ⟨xk_14, List.forall_mem_cons.mpr ⟨xk_40, List.forall_mem_cons.mpr ⟨xk_361, fun _ h => absurd h List.not_mem_nil⟩⟩⟩⟩⟩)) rfl rfl rfl (by decide +kernel) ⟨Nat.le_of_ble_eq_true rfl, Nat.le_of_ble_eq_true rfl⟩) ⟨fun _ _ _ _ q => q, va_recv hK hP (ci := 0) (q0 := 0) rfl rfl, fun U hU hW => ⟨rfl, xb_at0 hAt hU hW, by rw [hU]; exact hP.sub (ws' := [(h0, .inr (0, fs)), (ra, .inl (cI, 28, .inl rf))]) [0, 1] rfl⟩⟩ rfl rfl hl.1 rfl (lv_room (Nat.le_of_ble_eq_true rfl)) dN_hole_8 ⟨Nat.zero_le _, Nat.zero_le _⟩) ?_
  refine lv_istore_n (lv' := [(2, .int (fN_told rf kind (0))), (0, .ref h0), (1, .int kind)]) hx hb dN_hole_11 rfl hl (by decide) rfl (fun ls hl => ?_)
  refine lv_iload_n hx hb dN_hole_12 rfl (lv_at hl 2 rfl) ?_
  by_cases c_2 : kind = 0
  · refine lv_tableIn (off := 27) (tgt := 40) hx hb dN_hole_13 (by rw [c_2]; decide) (by rw [c_2]; decide) (by rw [c_2]; rfl) (by decide) ?_
    refine lv_iload_n hx hb dN_hole_40 rfl (lv_at hl 0 rfl) ?_
    refine lv_bipush (v := 50) hx hb dN_hole_41 (by decide) ?_
    refine lv_icmp_le (tgt := 56) hx hb dN_hole_43 (by decide) (fun c_3 => ?_) (fun c_3 => ?_)
    · refine lv_iconst (v := 0) hx hb dN_hole_56 (by decide) ?_
      have e_f : fN_hole rf kind = 0 := (if_pos c_2).trans ((if_pos c_3).trans (rfl))
      exact W.iret (v := 0) hx hb hr (fun t ht hW => ⟨by rw [e_f], ht⟩) (fun _ h => by cases h) dN_hole_57
    · refine lv_iload_n hx hb dN_hole_46 rfl (lv_at hl 0 rfl) ?_
      refine lv_bipush (v := 7) hx hb dN_hole_47 (by decide) ?_
      refine lv_imul hx hb dN_hole_49 ?_
      refine lv_bipush (v := 10) hx hb dN_hole_50 (by decide) ?_
      refine lv_idiv hx hb dN_hole_52 (by decide) ?_
      refine lv_goto (tgt := 57) hx hb dN_hole_53 (by decide) ?_
      have e_f : fN_hole rf kind = ((fN_told rf kind (0)) * 7) / 10 := (if_pos c_2).trans ((if_neg c_3).trans (rfl))
      exact W.iret (v := (((fN_told rf kind (0)) * 7) / 10)) hx hb hr (fun t ht hW => ⟨by rw [e_f], ht⟩) (fun _ h => by cases h) dN_hole_57
  by_cases c_4 : kind = 1
  · refine lv_tableIn (off := 45) (tgt := 58) hx hb dN_hole_13 (by rw [c_4]; decide) (by rw [c_4]; decide) (by rw [c_4]; rfl) (by decide) ?_
    refine lv_iload_n hx hb dN_hole_58 rfl (lv_at hl 0 rfl) ?_
    refine lv_bipush (v := 7) hx hb dN_hole_59 (by decide) ?_
    refine lv_imul hx hb dN_hole_61 ?_
    refine lv_bipush (v := 10) hx hb dN_hole_62 (by decide) ?_
    refine lv_idiv hx hb dN_hole_64 (by decide) ?_
    have e_f : fN_hole rf kind = ((fN_told rf kind (0)) * 7) / 10 := (if_neg c_2).trans ((if_pos c_4).trans (rfl))
    exact W.iret (v := (((fN_told rf kind (0)) * 7) / 10)) hx hb hr (fun t ht hW => ⟨by rw [e_f], ht⟩) (fun _ h => by cases h) dN_hole_65
  by_cases c_5 : kind = 2
  · refine lv_tableIn (off := 53) (tgt := 66) hx hb dN_hole_13 (by rw [c_5]; decide) (by rw [c_5]; decide) (by rw [c_5]; rfl) (by decide) ?_
    refine lv_iload_n hx hb dN_hole_66 rfl (lv_at hl 0 rfl) ?_
    refine lv_bipush (v := 10) hx hb dN_hole_67 (by decide) ?_
    refine lv_iadd hx hb dN_hole_69 ?_
    have e_f : fN_hole rf kind = (fN_told rf kind (0)) + 10 := (if_neg c_2).trans ((if_neg c_4).trans ((if_pos c_5).trans (rfl)))
    exact W.iret (v := ((fN_told rf kind (0)) + 10)) hx hb hr (fun t ht hW => ⟨by rw [e_f], ht⟩) (fun _ h => by cases h) dN_hole_70
  refine lv_tableOut (tgt := 71) hx hb dN_hole_13 (by have q0 := lv_neT c_2 (a := 0) (by decide); have q1 := lv_neT c_4 (a := 1) (by decide); have q2 := lv_neT c_5 (a := 2) (by decide); omega) (by decide) ?_
  refine lv_iload_n hx hb dN_hole_71 rfl (lv_at hl 0 rfl) ?_
  have e_f : fN_hole rf kind = fN_told rf kind (0) := (if_neg c_2).trans ((if_neg c_4).trans ((if_neg c_5).trans (rfl)))
  exact W.iret (v := (fN_told rf kind (0))) hx hb hr (fun t ht hW => ⟨by rw [e_f], ht⟩) (fun _ h => by cases h) dN_hole_72

def fN_thick (rf : Nat → Int32) (kind : Int32) (tk : Int32) : Bool := if tk < (fN_space rf kind (6)) then (false) else (true)
set_option maxHeartbeats 4000000 in
set_option maxRecDepth 100000 in
theorem cN_thick (l : Launch) {s0 : State} {dC : Nat → ClassId} {dI : Nat → Nat → Nat} {cI cC cL cO : ClassId} (E : xb_Env l s0 dC dI (xtys cI cC cL cO)) (h0 : Nat) (fs : List Value) (ra : Nat) (rf : Nat → Int32) (kind : Int32) (tk : Int32) (hf1 : fs[1]? = some (.ref ra)) (k1 : ¬ kind < 0) (k2 : kind < 4) (t0 : 0 ≤ tk) (hz : vp_in (kind * 7 + 0) 28) (h6 : vp_in (kind * 7 + 6) 28) : Met l yN_thick [.code yN_thick bN_thick 3 (some (.boolean))] ({ frames := 2, cells := 0, slots := 0, locals := 44 }) (va_Pc [.ref h0, .int kind, .int tk] (fun U => xb_At s0 U ∧ va_P (dC, dI) classes [(h0, .inr (0, fs)), (ra, .inl (cI, 28, .inl rf))] U.heap)) (xb_R (some (.int (xb_bi (fN_thick rf kind tk))))) 0 0 (fun _ => False) := by
  refine Met.ofW (cc := bN_thick) (maxL := 3) (ret := (some (.boolean))) (by decide) rfl ?_
  intro p e s m args below meth c s₁ B hml hv
  obtain ⟨rfl, hAt, hP⟩ := hv
  have hx := B.exec
  have hb := B.bytes
  have hr := B.returns
  have hts := xb_hts E hAt ([.ref h0, .int kind, .int tk] : List Value).toArray
  have hown : s.vm.findClass "NailRules" = some m.cls := findClass_of_methodNamed B.named
  have hlocks := B.notSynchronized
  have hK := xb_K E hAt
  have hl := lv_entry ([.ref h0, .int kind, .int tk]) (n := 3) (Nat.le_of_ble_eq_true rfl)
  rw [lg_entry_eq]
  generalize (lg_sl ([.ref h0, .int kind, .int tk]) ++ List.replicate (3 - (lg_sl ([.ref h0, .int kind, .int tk])).length) Slot.unset).toArray = ls at hl ⊢
  have hl : lv_has ls 3 [(0, .ref h0), (1, .int kind), (2, .int tk)] := hl
  refine lv_iload_n hx hb dN_thick_0 rfl (lv_at hl 1 rfl) ?_
  refine lv_iconst (v := 4) hx hb dN_thick_1 (by decide) ?_
  refine xb_rd (W.runS (As := [.int kind, .int 4]) (rest := []) ⟨hx, hb, hml, hown, hts⟩ (cN_requireIndex l E kind 4 (k1) (k2)) (cwS 2 hts (xb_gi (List.forall_mem_cons.mpr ⟨xk_288, List.forall_mem_cons.mpr ⟨xk_289, List.forall_mem_cons.mpr ⟨xk_40, List.forall_mem_cons.mpr ⟨xk_290, fun _ h => absurd h List.not_mem_nil⟩⟩⟩⟩)) rfl rfl rfl (by decide +kernel) ⟨Nat.le_of_ble_eq_true rfl, Nat.le_of_ble_eq_true rfl⟩) ⟨fun _ _ _ _ q => q, fun U hU hW => ⟨rfl, xb_at0 hAt hU hW, fun k q h => by simp at h⟩⟩ rfl rfl hl.1 rfl (lv_room (Nat.le_of_ble_eq_true rfl)) dN_thick_2 ⟨Nat.zero_le _, Nat.zero_le _⟩) ?_
  refine lv_iload_n hx hb dN_thick_5 rfl (lv_at hl 2 rfl) ?_
  refine lv_if_ge (tgt := 19) hx hb dN_thick_6 (by decide) (fun c_1 => ?_) (fun c_1 => ?_)
  · refine lv_iload_n hx hb dN_thick_19 rfl (lv_at hl 2 rfl) ?_
    refine lv_aload_n hx hb dN_thick_20 rfl (lv_at hl 0 rfl) ?_
    refine lv_iload_n hx hb dN_thick_21 rfl (lv_at hl 1 rfl) ?_
    refine lv_bipush (v := 6) hx hb dN_thick_22 (by decide) ?_
    refine xb_rd (W.runV (C := "NailRules") (As := [.int kind, .int 6]) (rest := [.int tk]) ⟨hx, hb, hml, hown, hts⟩ (cN_space l E h0 fs ra rf kind 6 hf1 (h6) (hz)) (cwV 2 hts (xb_gi (List.forall_mem_cons.mpr ⟨xk_438, List.forall_mem_cons.mpr ⟨xk_440, List.forall_mem_cons.mpr ⟨xk_18, List.forall_mem_cons.mpr ⟨xk_40, List.forall_mem_cons.mpr ⟨xk_441, fun _ h => absurd h List.not_mem_nil⟩⟩⟩⟩⟩)) rfl rfl rfl (by decide +kernel) ⟨Nat.le_of_ble_eq_true rfl, Nat.le_of_ble_eq_true rfl⟩) ⟨fun _ _ _ _ q => q, va_recv hK hP (ci := 0) (q0 := 0) rfl rfl, fun U hU hW => ⟨rfl, xb_at0 hAt hU hW, by rw [hU]; exact hP.sub (ws' := [(h0, .inr (0, fs)), (ra, .inl (cI, 28, .inl rf))]) [0, 1] rfl⟩⟩ rfl rfl hl.1 rfl (lv_room (Nat.le_of_ble_eq_true rfl)) dN_thick_24 ⟨Nat.zero_le _, Nat.zero_le _⟩) ?_
    refine lv_icmp_lt (tgt := 34) hx hb dN_thick_27 (by decide) (fun c_2 => ?_) (fun c_2 => ?_)
    · refine lv_iconst (v := 0) hx hb dN_thick_34 (by decide) ?_
      have e_f : fN_thick rf kind tk = false := (if_pos c_2).trans (rfl)
      exact W.zret (v := 0) hx hb hr (by decide) (fun t ht hW => ⟨by rw [e_f]; try rfl, ht⟩) (fun _ h => by cases h) dN_thick_35
    · refine lv_iconst (v := 1) hx hb dN_thick_30 (by decide) ?_
      refine lv_goto (tgt := 35) hx hb dN_thick_31 (by decide) ?_
      have e_f : fN_thick rf kind tk = true := (if_neg c_2).trans (rfl)
      exact W.zret (v := 1) hx hb hr (by decide) (fun t ht hW => ⟨by rw [e_f]; try rfl, ht⟩) (fun _ h => by cases h) dN_thick_35
  · exact absurd t0 (by assumption)

def fN_at (xf : Nat → Int32) (yf : Nat → Int32) (pn : Int32) (k9 : Int32) (axis : Int32) : Int32 := if axis = 0 then (xf k9.toNatClampNeg) else (yf k9.toNatClampNeg)
set_option maxHeartbeats 4000000 in
set_option maxRecDepth 100000 in
theorem cN_at (l : Launch) {s0 : State} {dC : Nat → ClassId} {dI : Nat → Nat → Nat} {cI cC cL cO : ClassId} (E : xb_Env l s0 dC dI (xtys cI cC cL cO)) (h0 : Nat) (fs : List Value) (px : Nat) (xf : Nat → Int32) (py : Nat) (yf : Nat → Int32) (pn : Int32) (k9 : Int32) (axis : Int32) (hf4 : fs[4]? = some (.ref px)) (hf5 : fs[5]? = some (.ref py)) (hf6 : fs[6]? = some (.int pn)) (pn0 : ¬ pn = 0) (k1 : ¬ k9 < 0) (k2 : k9 < pn) (a1 : ¬ axis < 0) (a2 : axis < 2) (hk : vp_in k9 100) : Met l yN_at [.code yN_at bN_at 3 (some (.int))] ({ frames := 1, cells := 0, slots := 0, locals := 21 }) (va_Pc [.ref h0, .int k9, .int axis] (fun U => xb_At s0 U ∧ va_P (dC, dI) classes [(h0, .inr (0, fs)), (px, .inl (cI, 100, .inl xf)), (py, .inl (cI, 100, .inl yf))] U.heap)) (xb_R (some (.int (fN_at xf yf pn k9 axis)))) 0 0 (fun _ => False) := by
  refine Met.ofW (cc := bN_at) (maxL := 3) (ret := (some (.int))) (by decide) rfl ?_
  intro p e s m args below meth c s₁ B hml hv
  obtain ⟨rfl, hAt, hP⟩ := hv
  have hx := B.exec
  have hb := B.bytes
  have hr := B.returns
  have hts := xb_hts E hAt ([.ref h0, .int k9, .int axis] : List Value).toArray
  have hown : s.vm.findClass "NailRules" = some m.cls := findClass_of_methodNamed B.named
  have hlocks := B.notSynchronized
  have hK := xb_K E hAt
  have hl := lv_entry ([.ref h0, .int k9, .int axis]) (n := 3) (Nat.le_of_ble_eq_true rfl)
  rw [lg_entry_eq]
  generalize (lg_sl ([.ref h0, .int k9, .int axis]) ++ List.replicate (3 - (lg_sl ([.ref h0, .int k9, .int axis])).length) Slot.unset).toArray = ls at hl ⊢
  have hl : lv_has ls 3 [(0, .ref h0), (1, .int k9), (2, .int axis)] := hl
  refine lv_aload_n hx hb dN_at_0 rfl (lv_at hl 0 rfl) ?_
  refine va_get (D := (dC, dI)) (ci := 0) (v := .int pn) (C := xR_N) (T := xF_N) (N := 11) hx hb hts xi_N hown hK hP 0 rfl rfl 6 (by decide) (hts _ xk_120) (fun _ h9 => h9) hf6 dN_at_1 ?_
  refine lv_if_ne (tgt := 17) hx hb dN_at_4 (by decide) (fun c_1 => ?_) (fun c_1 => ?_)
  · refine lv_iload_n hx hb dN_at_17 rfl (lv_at hl 1 rfl) ?_
    refine lv_aload_n hx hb dN_at_18 rfl (lv_at hl 0 rfl) ?_
    refine va_get (D := (dC, dI)) (ci := 0) (v := .int pn) (C := xR_N) (T := xF_N) (N := 11) hx hb hts xi_N hown hK hP 0 rfl rfl 6 (by decide) (hts _ xk_120) (fun _ h9 => h9) hf6 dN_at_19 ?_
    refine xb_rd (W.runS (As := [.int k9, .int pn]) (rest := []) ⟨hx, hb, hml, hown, hts⟩ (cN_requireIndex l E k9 pn (k1) (k2)) (cwS 2 hts (xb_gi (List.forall_mem_cons.mpr ⟨xk_288, List.forall_mem_cons.mpr ⟨xk_289, List.forall_mem_cons.mpr ⟨xk_40, List.forall_mem_cons.mpr ⟨xk_290, fun _ h => absurd h List.not_mem_nil⟩⟩⟩⟩)) rfl rfl rfl (by decide +kernel) ⟨Nat.le_of_ble_eq_true rfl, Nat.le_of_ble_eq_true rfl⟩) ⟨fun _ _ _ _ q => q, fun U hU hW => ⟨rfl, xb_at0 hAt hU hW, fun k q h => by simp at h⟩⟩ rfl rfl hl.1 rfl (lv_room (Nat.le_of_ble_eq_true rfl)) dN_at_22 ⟨Nat.zero_le _, Nat.zero_le _⟩) ?_
    refine lv_iload_n hx hb dN_at_25 rfl (lv_at hl 2 rfl) ?_
    refine lv_iconst (v := 2) hx hb dN_at_26 (by decide) ?_
    refine xb_rd (W.runS (As := [.int axis, .int 2]) (rest := []) ⟨hx, hb, hml, hown, hts⟩ (cN_requireIndex l E axis 2 (a1) (a2)) (cwS 2 hts (xb_gi (List.forall_mem_cons.mpr ⟨xk_288, List.forall_mem_cons.mpr ⟨xk_289, List.forall_mem_cons.mpr ⟨xk_40, List.forall_mem_cons.mpr ⟨xk_290, fun _ h => absurd h List.not_mem_nil⟩⟩⟩⟩)) rfl rfl rfl (by decide +kernel) ⟨Nat.le_of_ble_eq_true rfl, Nat.le_of_ble_eq_true rfl⟩) ⟨fun _ _ _ _ q => q, fun U hU hW => ⟨rfl, xb_at0 hAt hU hW, fun k q h => by simp at h⟩⟩ rfl rfl hl.1 rfl (lv_room (Nat.le_of_ble_eq_true rfl)) dN_at_27 ⟨Nat.zero_le _, Nat.zero_le _⟩) ?_
    refine lv_iload_n hx hb dN_at_30 rfl (lv_at hl 2 rfl) ?_
    refine lv_if_ne (tgt := 43) hx hb dN_at_31 (by decide) (fun c_2 => ?_) (fun c_2 => ?_)
    · refine lv_aload_n hx hb dN_at_43 rfl (lv_at hl 0 rfl) ?_
      refine va_get (D := (dC, dI)) (ci := 0) (v := .ref py) (C := xR_N) (T := xF_N) (N := 11) hx hb hts xi_N hown hK hP 0 rfl rfl 5 (by decide) (hts _ xk_119) (fun _ h9 => h9) hf5 dN_at_44 ?_
      refine lv_iload_n hx hb dN_at_47 rfl (lv_at hl 1 rfl) ?_
      have o_3 : vp_in k9 100 := by exact hk
      refine va_iald hx hb hK hP 2 0 rfl rfl o_3 dN_at_48 ?_
      have e_f : fN_at xf yf pn k9 axis = yf k9.toNatClampNeg := (if_neg c_2).trans (rfl)
      exact W.iret (v := (yf k9.toNatClampNeg)) hx hb hr (fun t ht hW => ⟨by rw [e_f], ht⟩) (fun _ h => by cases h) dN_at_49
    · refine lv_aload_n hx hb dN_at_34 rfl (lv_at hl 0 rfl) ?_
      refine va_get (D := (dC, dI)) (ci := 0) (v := .ref px) (C := xR_N) (T := xF_N) (N := 11) hx hb hts xi_N hown hK hP 0 rfl rfl 4 (by decide) (hts _ xk_118) (fun _ h9 => h9) hf4 dN_at_35 ?_
      refine lv_iload_n hx hb dN_at_38 rfl (lv_at hl 1 rfl) ?_
      have o_4 : vp_in k9 100 := by exact hk
      refine va_iald hx hb hK hP 1 0 rfl rfl o_4 dN_at_39 ?_
      refine lv_goto (tgt := 49) hx hb dN_at_40 (by decide) ?_
      have e_f : fN_at xf yf pn k9 axis = xf k9.toNatClampNeg := (if_pos c_2).trans (rfl)
      exact W.iret (v := (xf k9.toNatClampNeg)) hx hb hr (fun t ht hW => ⟨by rw [e_f], ht⟩) (fun _ h => by cases h) dN_at_49
  · contradiction

def fN_keeps (rf : Nat → Int32) (xf : Nat → Int32) (yf : Nat → Int32) (qn : Int32) (kind : Int32) (w : Int32) (h : Int32) : Int32 := if (fN_firstNearSide rf xf yf qn kind w h) = (-1) then (if (fN_firstNearPair xf yf qn ((fN_space rf kind (4)).toInt64)) = (-1) then (0) else (100 + (fN_firstNearPair xf yf qn ((fN_space rf kind (4)).toInt64)))) else (1 + (fN_firstNearSide rf xf yf qn kind w h))
set_option maxHeartbeats 4000000 in
set_option maxRecDepth 100000 in
theorem cN_keeps (l : Launch) {s0 : State} {dC : Nat → ClassId} {dI : Nat → Nat → Nat} {cI cC cL cO : ClassId} (E : xb_Env l s0 dC dI (xtys cI cC cL cO)) (h0 : Nat) (fs : List Value) (ra : Nat) (rf : Nat → Int32) (qx : Nat) (xf : Nat → Int32) (qy : Nat) (yf : Nat → Int32) (qn : Int32) (kind : Int32) (w : Int32) (h : Int32) (hf1 : fs[1]? = some (.ref ra)) (hf7 : fs[7]? = some (.ref qx)) (hf8 : fs[8]? = some (.ref qy)) (hf9 : fs[9]? = some (.int qn)) (k1 : ¬ kind < 0) (k2 : kind < 4) (w1 : ¬ w.toInt64 < 1) (w2 : w.toInt64 ≤ 100000) (g1 : ¬ h.toInt64 < 1) (g2 : h.toInt64 ≤ 100000) (hz : vp_in (kind * 7 + 0) 28) (h2 : vp_in (kind * 7 + 2) 28) (h3 : vp_in (kind * 7 + 3) 28) (h4 : vp_in (kind * 7 + 4) 28) (hq : qn ≤ 32) : Met l yN_keeps [.code yN_keeps bN_keeps 6 (some (.int))] ({ frames := 3, cells := 0, slots := 0, locals := 72 }) (va_Pc [.ref h0, .int kind, .int w, .int h] (fun U => xb_At s0 U ∧ va_P (dC, dI) classes [(h0, .inr (0, fs)), (ra, .inl (cI, 28, .inl rf)), (qx, .inl (cI, 32, .inl xf)), (qy, .inl (cI, 32, .inl yf))] U.heap)) (xb_R (some (.int (fN_keeps rf xf yf qn kind w h)))) 0 0 (fun _ => False) := by
  refine Met.ofW (cc := bN_keeps) (maxL := 6) (ret := (some (.int))) (by decide) rfl ?_
  intro p e s m args below meth c s₁ B hml hv
  obtain ⟨rfl, hAt, hP⟩ := hv
  have hx := B.exec
  have hb := B.bytes
  have hr := B.returns
  have hts := xb_hts E hAt ([.ref h0, .int kind, .int w, .int h] : List Value).toArray
  have hown : s.vm.findClass "NailRules" = some m.cls := findClass_of_methodNamed B.named
  have hlocks := B.notSynchronized
  have hK := xb_K E hAt
  have hl := lv_entry ([.ref h0, .int kind, .int w, .int h]) (n := 6) (Nat.le_of_ble_eq_true rfl)
  rw [lg_entry_eq]
  generalize (lg_sl ([.ref h0, .int kind, .int w, .int h]) ++ List.replicate (6 - (lg_sl ([.ref h0, .int kind, .int w, .int h])).length) Slot.unset).toArray = ls at hl ⊢
  have hl : lv_has ls 6 [(0, .ref h0), (1, .int kind), (2, .int w), (3, .int h)] := hl
  refine lv_iload_n hx hb dN_keeps_0 rfl (lv_at hl 1 rfl) ?_
  refine lv_iconst (v := 4) hx hb dN_keeps_1 (by decide) ?_
  refine xb_rd (W.runS (As := [.int kind, .int 4]) (rest := []) ⟨hx, hb, hml, hown, hts⟩ (cN_requireIndex l E kind 4 (k1) (k2)) (cwS 2 hts (xb_gi (List.forall_mem_cons.mpr ⟨xk_288, List.forall_mem_cons.mpr ⟨xk_289, List.forall_mem_cons.mpr ⟨xk_40, List.forall_mem_cons.mpr ⟨xk_290, fun _ h => absurd h List.not_mem_nil⟩⟩⟩⟩)) rfl rfl rfl (by decide +kernel) ⟨Nat.le_of_ble_eq_true rfl, Nat.le_of_ble_eq_true rfl⟩) ⟨fun _ _ _ _ q => q, fun U hU hW => ⟨rfl, xb_at0 hAt hU hW, fun k q h => by simp at h⟩⟩ rfl rfl hl.1 rfl (lv_room (Nat.le_of_ble_eq_true rfl)) dN_keeps_2 ⟨Nat.zero_le _, Nat.zero_le _⟩) ?_
  refine lv_iload_n hx hb dN_keeps_5 rfl (lv_at hl 2 rfl) ?_
  refine lv_i2l hx hb dN_keeps_6 rfl ?_
  refine lv_lconst (v := 1) hx hb dN_keeps_7 (by decide) ?_
  refine lv_ldc2 (v := 100000) hx hb hown (hts _ xk_437) dN_keeps_8 ?_
  refine xb_rd (W.runS (As := [.long w.toInt64, .long 1, .long 100000]) (rest := []) ⟨hx, hb, hml, hown, hts⟩ (cN_requireWithin l E w.toInt64 1 100000 (w1) (w2)) (cwS 3 hts (xb_gi (List.forall_mem_cons.mpr ⟨xk_371, List.forall_mem_cons.mpr ⟨xk_372, List.forall_mem_cons.mpr ⟨xk_40, List.forall_mem_cons.mpr ⟨xk_373, fun _ h => absurd h List.not_mem_nil⟩⟩⟩⟩)) rfl rfl rfl (by decide +kernel) ⟨Nat.le_of_ble_eq_true rfl, Nat.le_of_ble_eq_true rfl⟩) ⟨fun _ _ _ _ q => q, fun U hU hW => ⟨rfl, xb_at0 hAt hU hW, fun k q h => by simp at h⟩⟩ rfl rfl hl.1 rfl (lv_room (Nat.le_of_ble_eq_true rfl)) dN_keeps_11 ⟨Nat.zero_le _, Nat.zero_le _⟩) ?_
  refine lv_iload_n hx hb dN_keeps_14 rfl (lv_at hl 3 rfl) ?_
  refine lv_i2l hx hb dN_keeps_15 rfl ?_
  refine lv_lconst (v := 1) hx hb dN_keeps_16 (by decide) ?_
  refine lv_ldc2 (v := 100000) hx hb hown (hts _ xk_437) dN_keeps_17 ?_
  refine xb_rd (W.runS (As := [.long h.toInt64, .long 1, .long 100000]) (rest := []) ⟨hx, hb, hml, hown, hts⟩ (cN_requireWithin l E h.toInt64 1 100000 (g1) (g2)) (cwS 3 hts (xb_gi (List.forall_mem_cons.mpr ⟨xk_371, List.forall_mem_cons.mpr ⟨xk_372, List.forall_mem_cons.mpr ⟨xk_40, List.forall_mem_cons.mpr ⟨xk_373, fun _ h => absurd h List.not_mem_nil⟩⟩⟩⟩)) rfl rfl rfl (by decide +kernel) ⟨Nat.le_of_ble_eq_true rfl, Nat.le_of_ble_eq_true rfl⟩) ⟨fun _ _ _ _ q => q, fun U hU hW => ⟨rfl, xb_at0 hAt hU hW, fun k q h => by simp at h⟩⟩ rfl rfl hl.1 rfl (lv_room (Nat.le_of_ble_eq_true rfl)) dN_keeps_20 ⟨Nat.zero_le _, Nat.zero_le _⟩) ?_
  refine lv_aload_n hx hb dN_keeps_23 rfl (lv_at hl 0 rfl) ?_
  refine lv_iload_n hx hb dN_keeps_24 rfl (lv_at hl 1 rfl) ?_
  refine lv_iload_n hx hb dN_keeps_25 rfl (lv_at hl 2 rfl) ?_
  refine lv_iload_n hx hb dN_keeps_26 rfl (lv_at hl 3 rfl) ?_
  refine xb_rd (W.runV (C := "NailRules") (As := [.int kind, .int w, .int h]) (rest := []) ⟨hx, hb, hml, hown, hts⟩ (cN_firstNearSide l E h0 fs ra rf qx xf qy yf qn kind w h hf1 hf7 hf8 hf9 (hz) (h2) (h3) (hq)) (cwV 3 hts (xb_gi (List.forall_mem_cons.mpr ⟨xk_488, List.forall_mem_cons.mpr ⟨xk_490, List.forall_mem_cons.mpr ⟨xk_20, List.forall_mem_cons.mpr ⟨xk_40, List.forall_mem_cons.mpr ⟨xk_491, fun _ h => absurd h List.not_mem_nil⟩⟩⟩⟩⟩)) rfl rfl rfl (by decide +kernel) ⟨Nat.le_of_ble_eq_true rfl, Nat.le_of_ble_eq_true rfl⟩) ⟨fun _ _ _ _ q => q, va_recv hK hP (ci := 0) (q0 := 0) rfl rfl, fun U hU hW => ⟨rfl, xb_at0 hAt hU hW, by rw [hU]; exact hP.sub (ws' := [(h0, .inr (0, fs)), (ra, .inl (cI, 28, .inl rf)), (qx, .inl (cI, 32, .inl xf)), (qy, .inl (cI, 32, .inl yf))]) [0, 1, 2, 3] rfl⟩⟩ rfl rfl hl.1 rfl (lv_room (Nat.le_of_ble_eq_true rfl)) dN_keeps_27 ⟨Nat.zero_le _, Nat.zero_le _⟩) ?_
  refine lv_istore (lv' := [(4, .int (fN_firstNearSide rf xf yf qn kind w h)), (0, .ref h0), (1, .int kind), (2, .int w), (3, .int h)]) hx hb dN_keeps_30 hl (by decide) rfl (fun ls hl => ?_)
  refine lv_iload hx hb dN_keeps_32 (lv_at hl 0 rfl) ?_
  refine lv_iconst (v := (-1)) hx hb dN_keeps_34 (by decide) ?_
  refine lv_icmp_eq (tgt := 43) hx hb dN_keeps_35 (by decide) (fun c_2 => ?_) (fun c_2 => ?_)
  · refine lv_aload_n hx hb dN_keeps_43 rfl (lv_at hl 1 rfl) ?_
    refine lv_aload_n hx hb dN_keeps_44 rfl (lv_at hl 1 rfl) ?_
    refine lv_iload_n hx hb dN_keeps_45 rfl (lv_at hl 2 rfl) ?_
    refine lv_iconst (v := 4) hx hb dN_keeps_46 (by decide) ?_
    refine xb_rd (W.runV (C := "NailRules") (As := [.int kind, .int 4]) (rest := [.ref h0]) ⟨hx, hb, hml, hown, hts⟩ (cN_space l E h0 fs ra rf kind 4 hf1 (h4) (hz)) (cwV 2 hts (xb_gi (List.forall_mem_cons.mpr ⟨xk_438, List.forall_mem_cons.mpr ⟨xk_440, List.forall_mem_cons.mpr ⟨xk_18, List.forall_mem_cons.mpr ⟨xk_40, List.forall_mem_cons.mpr ⟨xk_441, fun _ h => absurd h List.not_mem_nil⟩⟩⟩⟩⟩)) rfl rfl rfl (by decide +kernel) ⟨Nat.le_of_ble_eq_true rfl, Nat.le_of_ble_eq_true rfl⟩) ⟨fun _ _ _ _ q => q, va_recv hK hP (ci := 0) (q0 := 0) rfl rfl, fun U hU hW => ⟨rfl, xb_at0 hAt hU hW, by rw [hU]; exact hP.sub (ws' := [(h0, .inr (0, fs)), (ra, .inl (cI, 28, .inl rf))]) [0, 1] rfl⟩⟩ rfl rfl hl.1 rfl (lv_room (Nat.le_of_ble_eq_true rfl)) dN_keeps_47 ⟨Nat.zero_le _, Nat.zero_le _⟩) ?_
    refine lv_i2l hx hb dN_keeps_50 rfl ?_
    refine xb_rd (W.runV (C := "NailRules") (As := [.long ((fN_space rf kind (4)).toInt64)]) (rest := []) ⟨hx, hb, hml, hown, hts⟩ (cN_firstNearPair l E h0 fs qx xf qy yf qn ((fN_space rf kind (4)).toInt64) hf7 hf8 hf9 (hq)) (cwV 1 hts (xb_gi (List.forall_mem_cons.mpr ⟨xk_495, List.forall_mem_cons.mpr ⟨xk_497, List.forall_mem_cons.mpr ⟨xk_21, List.forall_mem_cons.mpr ⟨xk_40, List.forall_mem_cons.mpr ⟨xk_498, fun _ h => absurd h List.not_mem_nil⟩⟩⟩⟩⟩)) rfl rfl rfl (by decide +kernel) ⟨Nat.le_of_ble_eq_true rfl, Nat.le_of_ble_eq_true rfl⟩) ⟨fun _ _ _ _ q => q, va_recv hK hP (ci := 0) (q0 := 0) rfl rfl, fun U hU hW => ⟨rfl, xb_at0 hAt hU hW, by rw [hU]; exact hP.sub (ws' := [(h0, .inr (0, fs)), (qx, .inl (cI, 32, .inl xf)), (qy, .inl (cI, 32, .inl yf))]) [0, 2, 3] rfl⟩⟩ rfl rfl hl.1 rfl (lv_room (Nat.le_of_ble_eq_true rfl)) dN_keeps_51 ⟨Nat.zero_le _, Nat.zero_le _⟩) ?_
    refine lv_istore (lv' := [(5, .int (fN_firstNearPair xf yf qn ((fN_space rf kind (4)).toInt64))), (4, .int (fN_firstNearSide rf xf yf qn kind w h)), (0, .ref h0), (1, .int kind), (2, .int w), (3, .int h)]) hx hb dN_keeps_54 hl (by decide) rfl (fun ls hl => ?_)
    refine lv_iload hx hb dN_keeps_56 (lv_at hl 0 rfl) ?_
    refine lv_iconst (v := (-1)) hx hb dN_keeps_58 (by decide) ?_
    refine lv_icmp_ne (tgt := 66) hx hb dN_keeps_59 (by decide) (fun c_4 => ?_) (fun c_4 => ?_)
    · refine lv_bipush (v := 100) hx hb dN_keeps_66 (by decide) ?_
      refine lv_iload hx hb dN_keeps_68 (lv_at hl 0 rfl) ?_
      refine lv_iadd hx hb dN_keeps_70 ?_
      have e_f : fN_keeps rf xf yf qn kind w h = 100 + (fN_firstNearPair xf yf qn ((fN_space rf kind (4)).toInt64)) := (if_pos c_2).trans ((if_neg c_4).trans (rfl))
      exact W.iret (v := (100 + (fN_firstNearPair xf yf qn ((fN_space rf kind (4)).toInt64)))) hx hb hr (fun t ht hW => ⟨by rw [e_f], ht⟩) (fun _ h => by cases h) dN_keeps_71
    · refine lv_iconst (v := 0) hx hb dN_keeps_62 (by decide) ?_
      refine lv_goto (tgt := 71) hx hb dN_keeps_63 (by decide) ?_
      have e_f : fN_keeps rf xf yf qn kind w h = 0 := (if_pos c_2).trans ((if_pos c_4).trans (rfl))
      exact W.iret (v := 0) hx hb hr (fun t ht hW => ⟨by rw [e_f], ht⟩) (fun _ h => by cases h) dN_keeps_71
  · refine lv_iconst (v := 1) hx hb dN_keeps_38 (by decide) ?_
    refine lv_iload hx hb dN_keeps_39 (lv_at hl 0 rfl) ?_
    refine lv_iadd hx hb dN_keeps_41 ?_
    have e_f : fN_keeps rf xf yf qn kind w h = 1 + (fN_firstNearSide rf xf yf qn kind w h) := (if_neg c_2).trans (rfl)
    exact W.iret (v := (1 + (fN_firstNearSide rf xf yf qn kind w h))) hx hb hr (fun t ht hW => ⟨by rw [e_f], ht⟩) (fun _ h => by cases h) dN_keeps_42
